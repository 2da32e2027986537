theorem lose4g (a0 a1 a2 a3 a4 : Option aV) : ∀ (i : Nat) (v : aV), [a0, a1, a2, a3, none][i]? = some (some v) → [a0, a1, a2, a3, a4][i]? = some (some v) := by
  intro i v h
  match i, h with
  | 0, h => exact h
  | 1, h => exact h
  | 2, h => exact h
  | 3, h => exact h
  | 4, h => cases h
  | i + 5, h => exact h
/-! Changes that bring weights up to date, one more, one less, copies, pairs; laid by gen_moor4.py -/
section AMR
variable {A0 B A3 B4 A5 C6 : List (Option aE)} {k f c n kp l nt w sh : List Int} {p : Nat} {t d wa : Int} {N : Nat}
set_option maxRecDepth 100000 in
set_option maxHeartbeats 4000000 in
theorem c_setTotal_1 (hb : wH p k f c w sh t) (hwo : wOK p k f c w wa) {v : Int} (hv0 : 0 ≤ v) (hv1 : v ≤ 999) : aEv mX3_setTotal 2 0 0 N [.inr 32, .inl v] [A0, (moSeg 32 k f c n kp l nt w sh (p : Int) t d wa), B, A3, B4, A5, C6] ((fun rv h => rv = none ∧ ∃ sh2 : List Int, sOK p k f c sh2 v ∧ h = [A0, (moSeg 32 k f c n kp l nt w sh2 (p : Int) v d wa), B, A3, B4, A5, C6])) := by
  obtain ⟨hp7, hk, hf, hc, hw, hsh, rk, rf, rc, ht0, ht1⟩ := hb
  refine aEv_of okX3_setTotal caX3_setTotal (Nat.le_of_ble_eq_true rfl) ?_
  refine aGo okX3_setTotal 4 (f' := (6, [some (.inr 32), some (.inl v)], [.inr 32], [A0, (moSeg 32 k f c n kp l nt w sh (p : Int) v d wa), B, A3, B4, A5, C6])) rfl ?_
  refine b_vE (as := []) (rest := []) (k := 32) okX3_setTotal rfl lkX3_95 caX3_shareOut (Nat.le_of_ble_eq_true rfl) rfl (Nat.le_of_ble_eq_true rfl) rfl rfl rfl (c_shareOut_1 (W := wt p k f c) hp7 hsh hw ⟨hv0, hv1⟩ hwo.2.1 (fun q hq => wt_le hp7 rf rc q) hwo.2.2) ?_
  rintro _ _ ⟨rfl, sh2, z1, z2, rfl⟩
  exact b_ret (v := none) ⟨rfl, rfl⟩ ⟨rfl, sh2, ⟨z1, z2⟩, rfl⟩ rfl
set_option maxRecDepth 100000 in
set_option maxHeartbeats 4000000 in
theorem c_setLent_1 (hp : p ≤ 7) (hnt : nt.length = 7) (hl : l.length = 49) {i j : Nat} (hi : i < 7) (hj : j < 7) (v : Int) : aEv mX3_setLent 3 0 0 N [.inr 32, .inl (i : Int), .inl (j : Int), .inl v] [A0, (moSeg 32 k f c n kp l nt w sh (p : Int) t d wa), B, A3, B4, A5, C6] ((fun rv h => rv = none ∧ ∃ nt2 : List Int, nOK p (l.set (7 * i + j) v) nt2 ∧ h = [A0, (moSeg 32 k f c n kp (l.set (7 * i + j) v) nt2 w sh (p : Int) t d wa), B, A3, B4, A5, C6])) := by
  refine aEv_of okX3_setLent caX3_setLent (Nat.le_of_ble_eq_true rfl) ?_
  refine aGo okX3_setLent 4 (f' := (4, [some (.inr 32), some (.inl (i : Int)), some (.inl (j : Int)), some (.inl v)], [.inl v, .inl (j : Int), .inl (i : Int), .inr 32], _)) rfl ?_
  refine b_vN (as := [.inl (i : Int), .inl (j : Int), .inl v]) (rest := []) (k := 32) okX3_setLent rfl lkX3_102 caX3_putLent (Nat.le_of_ble_eq_true rfl) rfl (Nat.le_of_ble_eq_true rfl) rfl rfl rfl (c_putLent_1 (i := i) (j := j) (by first | omega | (simp only [List.length_set]; omega)) (by omega) (by omega) v) ?_
  refine b_cast (f' := (7, [some (.inr 32), some (.inl (i : Int)), some (.inl (j : Int)), some (.inl v)], [], [A0, (moSeg 32 k f c n kp (l.set (7 * i + j) v) nt w sh (p : Int) t d wa), B, A3, B4, A5, C6])) rfl ?_
  refine aGo okX3_setLent 1 (f' := (8, [some (.inr 32), some (.inl (i : Int)), some (.inl (j : Int)), some (.inl v)], [.inr 32], _)) rfl ?_
  refine b_vE (as := []) (rest := []) (k := 32) okX3_setLent rfl lkX3_106 caX3_netLoans (Nat.le_of_ble_eq_true rfl) rfl (Nat.le_of_ble_eq_true rfl) rfl rfl rfl (c_netLoans_1 (p := p) hp hnt (by rw [List.length_set]; exact hl)) ?_
  rintro _ _ ⟨rfl, nt2, zn, rfl⟩
  exact b_ret (v := none) ⟨rfl, rfl⟩ ⟨rfl, nt2, zn, rfl⟩ rfl
set_option maxRecDepth 100000 in
set_option maxHeartbeats 4000000 in
theorem c_setKind_1 (hb : wH p k f c w sh t) {i : Nat} (hi : i < 7) {v : Int} (hv0 : 0 ≤ v) (hv1 : v ≤ 5) : aEv mX3_setKind 4 0 0 N [.inr 32, .inl (i : Int), .inl v] [A0, (moSeg 32 k f c n kp l nt w sh (p : Int) t d wa), B, A3, B4, A5, C6] ((fun rv h => rv = none ∧ ∃ w2 sh2 : List Int, wOK p (k.set i v) f c w2 (wAll p (k.set i v) f c) ∧ sOK p (k.set i v) f c sh2 t ∧ h = [A0, (moSeg 32 (k.set i v) f c n kp l nt w2 sh2 (p : Int) t d (wAll p (k.set i v) f c)), B, A3, B4, A5, C6])) := by
  obtain ⟨hp7, hk, hf, hc, hw, hsh, rk, rf, rc, ht0, ht1⟩ := hb
  refine aEv_of okX3_setKind caX3_setKind (Nat.le_of_ble_eq_true rfl) ?_
  refine aGo okX3_setKind 4 (f' := (6, [some (.inr 32), some (.inl (i : Int)), some (.inl v)], [.inl v, .inl (i : Int), .inr 33], _)) rfl ?_
  refine b_vN (as := [.inl (i : Int), .inl v]) (rest := []) (k := 33) okX3_setKind rfl lkX3_98 caX4_put (Nat.le_of_ble_eq_true rfl) rfl (Nat.le_of_ble_eq_true rfl) rfl rfl rfl (c_put (i := i) rfl rfl (by first | omega | (simp only [List.length_set]; omega)) (by first | omega | (simp only [List.length_set]; omega)) v) ?_
  refine b_cast (f' := (9, [some (.inr 32), some (.inl (i : Int)), some (.inl v)], [], [A0, (moSeg 32 (k.set i v) f c n kp l nt w sh (p : Int) t d wa), B, A3, B4, A5, C6])) rfl ?_
  refine aGo okX3_setKind 1 (f' := (10, [some (.inr 32), some (.inl (i : Int)), some (.inl v)], [.inr 32], _)) rfl ?_
  refine b_vE (as := []) (rest := []) (k := 32) okX3_setKind rfl lkX3_109 caX3_weigh (Nat.le_of_ble_eq_true rfl) rfl (Nat.le_of_ble_eq_true rfl) rfl rfl rfl (c_weigh_1 (p := p) ⟨hp7, (by rw [List.length_set]; exact hk), hf, hc, hw, hsh, (rng_set rk hv0 hv1), rf, rc, ht0, ht1⟩) ?_
  rintro _ _ ⟨rfl, w2, sh2, zw, zs, rfl⟩
  exact b_ret (v := none) ⟨rfl, rfl⟩ ⟨rfl, w2, sh2, zw, zs, rfl⟩ rfl
set_option maxRecDepth 100000 in
set_option maxHeartbeats 4000000 in
theorem c_setFigure_1 (hb : wH p k f c w sh t) {i : Nat} (hi : i < 7) {v : Int} (hv0 : 0 ≤ v) (hv1 : v ≤ 9) : aEv mX3_setFigure 4 0 0 N [.inr 32, .inl (i : Int), .inl v] [A0, (moSeg 32 k f c n kp l nt w sh (p : Int) t d wa), B, A3, B4, A5, C6] ((fun rv h => rv = none ∧ ∃ w2 sh2 : List Int, wOK p k (f.set i v) c w2 (wAll p k (f.set i v) c) ∧ sOK p k (f.set i v) c sh2 t ∧ h = [A0, (moSeg 32 k (f.set i v) c n kp l nt w2 sh2 (p : Int) t d (wAll p k (f.set i v) c)), B, A3, B4, A5, C6])) := by
  obtain ⟨hp7, hk, hf, hc, hw, hsh, rk, rf, rc, ht0, ht1⟩ := hb
  refine aEv_of okX3_setFigure caX3_setFigure (Nat.le_of_ble_eq_true rfl) ?_
  refine aGo okX3_setFigure 4 (f' := (6, [some (.inr 32), some (.inl (i : Int)), some (.inl v)], [.inl v, .inl (i : Int), .inr 35], _)) rfl ?_
  refine b_vN (as := [.inl (i : Int), .inl v]) (rest := []) (k := 35) okX3_setFigure rfl lkX3_98 caX4_put (Nat.le_of_ble_eq_true rfl) rfl (Nat.le_of_ble_eq_true rfl) rfl rfl rfl (c_put (i := i) rfl rfl (by first | omega | (simp only [List.length_set]; omega)) (by first | omega | (simp only [List.length_set]; omega)) v) ?_
  refine b_cast (f' := (9, [some (.inr 32), some (.inl (i : Int)), some (.inl v)], [], [A0, (moSeg 32 k (f.set i v) c n kp l nt w sh (p : Int) t d wa), B, A3, B4, A5, C6])) rfl ?_
  refine aGo okX3_setFigure 1 (f' := (10, [some (.inr 32), some (.inl (i : Int)), some (.inl v)], [.inr 32], _)) rfl ?_
  refine b_vE (as := []) (rest := []) (k := 32) okX3_setFigure rfl lkX3_109 caX3_weigh (Nat.le_of_ble_eq_true rfl) rfl (Nat.le_of_ble_eq_true rfl) rfl rfl rfl (c_weigh_1 (p := p) ⟨hp7, hk, (by rw [List.length_set]; exact hf), hc, hw, hsh, rk, (rng_set rf hv0 hv1), rc, ht0, ht1⟩) ?_
  rintro _ _ ⟨rfl, w2, sh2, zw, zs, rfl⟩
  exact b_ret (v := none) ⟨rfl, rfl⟩ ⟨rfl, w2, sh2, zw, zs, rfl⟩ rfl
set_option maxRecDepth 100000 in
set_option maxHeartbeats 4000000 in
theorem c_place_1 (hb : wH p k f c w sh t) {i : Nat} (hi : i < 7) {v : Int} (hv0 : 0 ≤ v) (hv1 : v ≤ 35) : aEv mX3_place 4 0 0 N [.inr 32, .inl (i : Int), .inl v] [A0, (moSeg 32 k f c n kp l nt w sh (p : Int) t d wa), B, A3, B4, A5, C6] ((fun rv h => rv = none ∧ ∃ w2 sh2 : List Int, wOK p k f (c.set i v) w2 (wAll p k f (c.set i v)) ∧ sOK p k f (c.set i v) sh2 t ∧ h = [A0, (moSeg 32 k f (c.set i v) n kp l nt w2 sh2 (p : Int) t d (wAll p k f (c.set i v))), B, A3, B4, A5, C6])) := by
  obtain ⟨hp7, hk, hf, hc, hw, hsh, rk, rf, rc, ht0, ht1⟩ := hb
  refine aEv_of okX3_place caX3_place (Nat.le_of_ble_eq_true rfl) ?_
  refine aGo okX3_place 4 (f' := (6, [some (.inr 32), some (.inl (i : Int)), some (.inl v)], [.inl v, .inl (i : Int), .inr 37], _)) rfl ?_
  refine b_vN (as := [.inl (i : Int), .inl v]) (rest := []) (k := 37) okX3_place rfl lkX3_98 caX4_put (Nat.le_of_ble_eq_true rfl) rfl (Nat.le_of_ble_eq_true rfl) rfl rfl rfl (c_put (i := i) rfl rfl (by first | omega | (simp only [List.length_set]; omega)) (by first | omega | (simp only [List.length_set]; omega)) v) ?_
  refine b_cast (f' := (9, [some (.inr 32), some (.inl (i : Int)), some (.inl v)], [], [A0, (moSeg 32 k f (c.set i v) n kp l nt w sh (p : Int) t d wa), B, A3, B4, A5, C6])) rfl ?_
  refine aGo okX3_place 1 (f' := (10, [some (.inr 32), some (.inl (i : Int)), some (.inl v)], [.inr 32], _)) rfl ?_
  refine b_vE (as := []) (rest := []) (k := 32) okX3_place rfl lkX3_109 caX3_weigh (Nat.le_of_ble_eq_true rfl) rfl (Nat.le_of_ble_eq_true rfl) rfl rfl rfl (c_weigh_1 (p := p) ⟨hp7, hk, hf, (by rw [List.length_set]; exact hc), hw, hsh, rk, rf, (rng_set rc hv0 hv1), ht0, ht1⟩) ?_
  rintro _ _ ⟨rfl, w2, sh2, zw, zs, rfl⟩
  exact b_ret (v := none) ⟨rfl, rfl⟩ ⟨rfl, w2, sh2, zw, zs, rfl⟩ rfl
set_option maxRecDepth 100000 in
set_option maxHeartbeats 4000000 in
theorem c_add_1 (hb : wH p k f c w sh t) (hp6 : p ≤ 6) (hn : n.length = 7) (hkp : kp.length = 7) (hl : l.length = 49) (hnt : nt.length = 7) {x1 x2 x3 x4 : Int} (g1 : 0 ≤ x1 ∧ x1 ≤ 5) (g2 : 0 ≤ x2 ∧ x2 ≤ 9) (g3 : 0 ≤ x3 ∧ x3 ≤ 35) : aEv mX3_add 4 0 0 N [.inr 32, .inl x1, .inl x2, .inl x3, .inl x4] [A0, (moSeg 32 k f c n kp l nt w sh (p : Int) t d wa), B, A3, B4, A5, C6] ((fun rv h => rv = none ∧ ∃ nt2 w2 sh2 : List Int, nOK (p + 1) (addL p l 7) nt2 ∧ wOK (p + 1) (k.set p x1) (f.set p x2) (c.set p x3) w2 (wAll (p + 1) (k.set p x1) (f.set p x2) (c.set p x3)) ∧ sOK (p + 1) (k.set p x1) (f.set p x2) (c.set p x3) sh2 t ∧ h = [A0, (moSeg 32 (k.set p x1) (f.set p x2) (c.set p x3) (n.set p x4) (kp.set p 0) (addL p l 7) nt2 w2 sh2 (((p + 1) : Nat) : Int) t d (wAll (p + 1) (k.set p x1) (f.set p x2) (c.set p x3))), B, A3, B4, A5, C6])) := by
  obtain ⟨hp7, hk, hf, hc, hw, hsh, rk, rf, rc, ht0, ht1⟩ := hb
  refine aEv_of okX3_add caX3_add (Nat.le_of_ble_eq_true rfl) ?_
  have lp : ∀ (j i : Nat), i + j = 7 → AW mX3_add 4 0 0 N none (fun rv h => rv = none ∧ ∃ nt2 w2 sh2 : List Int, nOK (p + 1) (addL p l 7) nt2 ∧ wOK (p + 1) (k.set p x1) (f.set p x2) (c.set p x3) w2 (wAll (p + 1) (k.set p x1) (f.set p x2) (c.set p x3)) ∧ sOK (p + 1) (k.set p x1) (f.set p x2) (c.set p x3) sh2 t ∧ h = [A0, (moSeg 32 (k.set p x1) (f.set p x2) (c.set p x3) (n.set p x4) (kp.set p 0) (addL p l 7) nt2 w2 sh2 (((p + 1) : Nat) : Int) t d (wAll (p + 1) (k.set p x1) (f.set p x2) (c.set p x3))), B, A3, B4, A5, C6]) (74, [some (.inr 32), some (.inl x1), some (.inl x2), some (.inl x3), some (.inl x4), some (.inl (i : Int))], [], [A0, (moSeg 32 (k.set p x1) (f.set p x2) (c.set p x3) (n.set p x4) (kp.set p 0) (addL p l i) nt w sh (p : Int) t d wa), B, A3, B4, A5, C6]) := by
    intro j
    induction j with
    | zero =>
      intro i  hij 
      obtain rfl : 7 = i := by omega
      refine aGo okX3_add 2 (f' := (78, [some (.inr 32), some (.inl x1), some (.inl x2), some (.inl x3), some (.inl x4), some (.inl (7 : Int))], [.inl 7, .inl (7 : Int)], _)) rfl ?_
      refine b_ge (tgt := 109) okX3_add rfl rfl ⟨by omega, by omega⟩ ⟨by omega, by omega⟩ (fun h78 => ?_) (fun h78 => absurd h78 (by omega))
      refine aGo okX3_add 6 (f' := (119, [some (.inr 32), some (.inl x1), some (.inl x2), some (.inl x3), some (.inl x4), some (.inl (7 : Int))], [], [A0, (moSeg 32 (k.set p x1) (f.set p x2) (c.set p x3) (n.set p x4) (kp.set p 0) (addL p l 7) nt w sh ((p : Int) + 1) t d wa), B, A3, B4, A5, C6])) rfl ?_
      refine b_cast (f' := (119, [some (.inr 32), some (.inl x1), some (.inl x2), some (.inl x3), some (.inl x4), some (.inl (7 : Int))], [], [A0, (moSeg 32 (k.set p x1) (f.set p x2) (c.set p x3) (n.set p x4) (kp.set p 0) (addL p l 7) nt w sh (((p + 1) : Nat) : Int) t d wa), B, A3, B4, A5, C6])) (rfl) ?_
      refine aGo okX3_add 1 (f' := (120, [some (.inr 32), some (.inl x1), some (.inl x2), some (.inl x3), some (.inl x4), some (.inl (7 : Int))], [.inr 32], _)) rfl ?_
      refine b_vE (as := []) (rest := []) (k := 32) okX3_add rfl lkX3_106 caX3_netLoans (Nat.le_of_ble_eq_true rfl) rfl (Nat.le_of_ble_eq_true rfl) rfl rfl rfl (c_netLoans_1 (p := (p + 1)) (by omega) hnt (by rw [addL_len]; exact hl)) ?_
      rintro _ _ ⟨rfl, nt2, zn, rfl⟩
      refine aGo okX3_add 1 (f' := (124, [some (.inr 32), some (.inl x1), some (.inl x2), some (.inl x3), some (.inl x4), some (.inl (7 : Int))], [.inr 32], _)) rfl ?_
      refine b_vE (as := []) (rest := []) (k := 32) okX3_add rfl lkX3_109 caX3_weigh (Nat.le_of_ble_eq_true rfl) rfl (Nat.le_of_ble_eq_true rfl) rfl rfl rfl (c_weigh_1 (p := (p + 1)) ⟨by omega, by rw [List.length_set]; exact hk, by rw [List.length_set]; exact hf, by rw [List.length_set]; exact hc, hw, hsh, rng_set rk g1.1 g1.2, rng_set rf g2.1 g2.2, rng_set rc g3.1 g3.2, ht0, ht1⟩) ?_
      rintro _ _ ⟨rfl, w2, sh2, zw, zs, rfl⟩
      exact b_ret (v := none) ⟨rfl, rfl⟩ ⟨rfl, nt2, w2, sh2, zn, zw, zs, rfl⟩ rfl
    | succ j ih =>
      intro i  hij 
      have e0 : (addL p l i).length = 49 := by rw [addL_len]; exact hl
      refine aGo okX3_add 2 (f' := (78, [some (.inr 32), some (.inl x1), some (.inl x2), some (.inl x3), some (.inl x4), some (.inl (i : Int))], [.inl 7, .inl (i : Int)], _)) rfl ?_
      refine b_ge (tgt := 109) okX3_add rfl rfl ⟨by omega, by omega⟩ ⟨by omega, by omega⟩ (fun h78 => absurd h78 (by omega)) (fun h78 => ?_)
      refine aGo okX3_add 5 (f' := (89, [some (.inr 32), some (.inl x1), some (.inl x2), some (.inl x3), some (.inl x4), some (.inl (i : Int))], [.inl 0, .inl (i : Int), .inl (p : Int), .inr 32], _)) rfl ?_
      refine b_vN (as := [.inl (p : Int), .inl (i : Int), .inl 0]) (rest := []) (k := 32) okX3_add rfl lkX3_102 caX3_putLent (Nat.le_of_ble_eq_true rfl) rfl (Nat.le_of_ble_eq_true rfl) rfl rfl rfl (c_putLent_1 (i := p) (j := i) (by first | omega | (simp only [List.length_set]; omega)) (by omega) (by omega) 0) ?_
      refine b_cast (f' := (92, [some (.inr 32), some (.inl x1), some (.inl x2), some (.inl x3), some (.inl x4), some (.inl (i : Int))], [], [A0, (moSeg 32 (k.set p x1) (f.set p x2) (c.set p x3) (n.set p x4) (kp.set p 0) ((addL p l i).set (7 * p + i) 0) nt w sh (p : Int) t d wa), B, A3, B4, A5, C6])) rfl ?_
      refine aGo okX3_add 5 (f' := (100, [some (.inr 32), some (.inl x1), some (.inl x2), some (.inl x3), some (.inl x4), some (.inl (i : Int))], [.inl 0, .inl (p : Int), .inl (i : Int), .inr 32], _)) rfl ?_
      refine b_vN (as := [.inl (i : Int), .inl (p : Int), .inl 0]) (rest := []) (k := 32) okX3_add rfl lkX3_102 caX3_putLent (Nat.le_of_ble_eq_true rfl) rfl (Nat.le_of_ble_eq_true rfl) rfl rfl rfl (c_putLent_1 (i := i) (j := p) (by first | omega | (simp only [List.length_set]; omega)) (by omega) (by omega) 0) ?_
      refine b_cast (f' := (103, [some (.inr 32), some (.inl x1), some (.inl x2), some (.inl x3), some (.inl x4), some (.inl (i : Int))], [], [A0, (moSeg 32 (k.set p x1) (f.set p x2) (c.set p x3) (n.set p x4) (kp.set p 0) (((addL p l i).set (7 * p + i) 0).set (7 * i + p) 0) nt w sh (p : Int) t d wa), B, A3, B4, A5, C6])) rfl ?_
      refine aGo okX3_add 2 (f' := (74, [some (.inr 32), some (.inl x1), some (.inl x2), some (.inl x3), some (.inl x4), some (.inl ((i : Int) + 1))], [], _)) rfl ?_
      exact ih (i + 1) (by omega)
  refine aGo okX3_add 3 (f' := (6, [some (.inr 32), some (.inl x1), some (.inl x2), some (.inl x3), some (.inl x4), none], [.inl 7, .inl (p : Int)], _)) rfl ?_
  refine b_lt (tgt := 10) okX3_add rfl rfl ⟨by omega, by omega⟩ ⟨by omega, by omega⟩ (fun h6 => ?_) (fun h6 => absurd h6 (by omega))
  refine aGo okX3_add 5 (f' := (19, [some (.inr 32), some (.inl x1), some (.inl x2), some (.inl x3), some (.inl x4), none], [.inl x1, .inl (p : Int), .inr 33], _)) rfl ?_
  refine b_vN (as := [.inl (p : Int), .inl x1]) (rest := []) (k := 33) okX3_add rfl lkX3_98 caX4_put (Nat.le_of_ble_eq_true rfl) rfl (Nat.le_of_ble_eq_true rfl) rfl rfl rfl (c_put (i := p) rfl rfl (by first | omega | (simp only [List.length_set]; omega)) (by first | omega | (simp only [List.length_set]; omega)) x1) ?_
  refine b_cast (f' := (22, [some (.inr 32), some (.inl x1), some (.inl x2), some (.inl x3), some (.inl x4), none], [], [A0, (moSeg 32 (k.set p x1) f c n kp l nt w sh (p : Int) t d wa), B, A3, B4, A5, C6])) rfl ?_
  refine aGo okX3_add 5 (f' := (31, [some (.inr 32), some (.inl x1), some (.inl x2), some (.inl x3), some (.inl x4), none], [.inl x2, .inl (p : Int), .inr 35], _)) rfl ?_
  refine b_vN (as := [.inl (p : Int), .inl x2]) (rest := []) (k := 35) okX3_add rfl lkX3_98 caX4_put (Nat.le_of_ble_eq_true rfl) rfl (Nat.le_of_ble_eq_true rfl) rfl rfl rfl (c_put (i := p) rfl rfl (by first | omega | (simp only [List.length_set]; omega)) (by first | omega | (simp only [List.length_set]; omega)) x2) ?_
  refine b_cast (f' := (34, [some (.inr 32), some (.inl x1), some (.inl x2), some (.inl x3), some (.inl x4), none], [], [A0, (moSeg 32 (k.set p x1) (f.set p x2) c n kp l nt w sh (p : Int) t d wa), B, A3, B4, A5, C6])) rfl ?_
  refine aGo okX3_add 5 (f' := (43, [some (.inr 32), some (.inl x1), some (.inl x2), some (.inl x3), some (.inl x4), none], [.inl x3, .inl (p : Int), .inr 37], _)) rfl ?_
  refine b_vN (as := [.inl (p : Int), .inl x3]) (rest := []) (k := 37) okX3_add rfl lkX3_98 caX4_put (Nat.le_of_ble_eq_true rfl) rfl (Nat.le_of_ble_eq_true rfl) rfl rfl rfl (c_put (i := p) rfl rfl (by first | omega | (simp only [List.length_set]; omega)) (by first | omega | (simp only [List.length_set]; omega)) x3) ?_
  refine b_cast (f' := (46, [some (.inr 32), some (.inl x1), some (.inl x2), some (.inl x3), some (.inl x4), none], [], [A0, (moSeg 32 (k.set p x1) (f.set p x2) (c.set p x3) n kp l nt w sh (p : Int) t d wa), B, A3, B4, A5, C6])) rfl ?_
  refine aGo okX3_add 5 (f' := (56, [some (.inr 32), some (.inl x1), some (.inl x2), some (.inl x3), some (.inl x4), none], [.inl x4, .inl (p : Int), .inr 39], _)) rfl ?_
  refine b_vN (as := [.inl (p : Int), .inl x4]) (rest := []) (k := 39) okX3_add rfl lkX3_98 caX4_put (Nat.le_of_ble_eq_true rfl) rfl (Nat.le_of_ble_eq_true rfl) rfl rfl rfl (c_put (i := p) rfl rfl (by first | omega | (simp only [List.length_set]; omega)) (by first | omega | (simp only [List.length_set]; omega)) x4) ?_
  refine b_cast (f' := (59, [some (.inr 32), some (.inl x1), some (.inl x2), some (.inl x3), some (.inl x4), none], [], [A0, (moSeg 32 (k.set p x1) (f.set p x2) (c.set p x3) (n.set p x4) kp l nt w sh (p : Int) t d wa), B, A3, B4, A5, C6])) rfl ?_
  refine aGo okX3_add 5 (f' := (68, [some (.inr 32), some (.inl x1), some (.inl x2), some (.inl x3), some (.inl x4), none], [.inl 0, .inl (p : Int), .inr 41], _)) rfl ?_
  refine b_vN (as := [.inl (p : Int), .inl 0]) (rest := []) (k := 41) okX3_add rfl lkX3_98 caX4_put (Nat.le_of_ble_eq_true rfl) rfl (Nat.le_of_ble_eq_true rfl) rfl rfl rfl (c_put (i := p) rfl rfl (by first | omega | (simp only [List.length_set]; omega)) (by first | omega | (simp only [List.length_set]; omega)) 0) ?_
  refine b_cast (f' := (71, [some (.inr 32), some (.inl x1), some (.inl x2), some (.inl x3), some (.inl x4), none], [], [A0, (moSeg 32 (k.set p x1) (f.set p x2) (c.set p x3) (n.set p x4) (kp.set p 0) l nt w sh (p : Int) t d wa), B, A3, B4, A5, C6])) rfl ?_
  refine aGo okX3_add 2 (f' := (74, [some (.inr 32), some (.inl x1), some (.inl x2), some (.inl x3), some (.inl x4), some (.inl 0)], [], _)) rfl ?_
  exact lp 7 0 (by omega)
set_option maxRecDepth 100000 in
set_option maxHeartbeats 4000000 in
theorem c_remove_1 (hb : wH (p + 1) k f c w sh t) {g : Nat} (hg : g ≤ p) (hn : n.length = 7) (hkp : kp.length = 7) (hl : l.length = 49) (hnt : nt.length = 7) : aEv mX3_remove 4 0 0 N [.inr 32, .inl (g : Int)] [A0, (moSeg 32 k f c n kp l nt w sh (((p + 1) : Nat) : Int) t d wa), B, A3, B4, A5, C6] ((fun rv h => rv = none ∧ ∃ nt2 w2 sh2 : List Int, nOK p (colsL g (p + 1) (rowsL g (p + 1) l (p - g)) (p - g)) nt2 ∧ wOK p (shL g k (p - g)) (shL g f (p - g)) (shL g c (p - g)) w2 (wAll p (shL g k (p - g)) (shL g f (p - g)) (shL g c (p - g))) ∧ sOK p (shL g k (p - g)) (shL g f (p - g)) (shL g c (p - g)) sh2 t ∧ h = [A0, (moSeg 32 (shL g k (p - g)) (shL g f (p - g)) (shL g c (p - g)) (shL g n (p - g)) (shL g kp (p - g)) (colsL g (p + 1) (rowsL g (p + 1) l (p - g)) (p - g)) nt2 w2 sh2 (p : Int) t d (wAll p (shL g k (p - g)) (shL g f (p - g)) (shL g c (p - g)))), B, A3, B4, A5, C6])) := by
  obtain ⟨hp7, hk, hf, hc, hw, hsh, rk, rf, rc, ht0, ht1⟩ := hb
  refine aEv_of okX3_remove caX3_remove (Nat.le_of_ble_eq_true rfl) ?_
  have l2 : ∀ (j i : Nat), i + j = (p - g) → AW mX3_remove 4 0 0 N none (fun rv h => rv = none ∧ ∃ nt2 w2 sh2 : List Int, nOK p (colsL g (p + 1) (rowsL g (p + 1) l (p - g)) (p - g)) nt2 ∧ wOK p (shL g k (p - g)) (shL g f (p - g)) (shL g c (p - g)) w2 (wAll p (shL g k (p - g)) (shL g f (p - g)) (shL g c (p - g))) ∧ sOK p (shL g k (p - g)) (shL g f (p - g)) (shL g c (p - g)) sh2 t ∧ h = [A0, (moSeg 32 (shL g k (p - g)) (shL g f (p - g)) (shL g c (p - g)) (shL g n (p - g)) (shL g kp (p - g)) (colsL g (p + 1) (rowsL g (p + 1) l (p - g)) (p - g)) nt2 w2 sh2 (p : Int) t d (wAll p (shL g k (p - g)) (shL g f (p - g)) (shL g c (p - g)))), B, A3, B4, A5, C6]) (149, [some (.inr 32), some (.inl (g : Int)), some (.inl (((g + i) : Nat) : Int)), none], [], [A0, (moSeg 32 (shL g k (p - g)) (shL g f (p - g)) (shL g c (p - g)) (shL g n (p - g)) (shL g kp (p - g)) (colsL g (p + 1) (rowsL g (p + 1) l (p - g)) i) nt w sh (((p + 1) : Nat) : Int) t d wa), B, A3, B4, A5, C6]) := by
    intro j
    induction j with
    | zero =>
      intro i  hij 
      obtain rfl : (p - g) = i := by omega
      refine aGo okX3_remove 5 (f' := (156, [some (.inr 32), some (.inl (g : Int)), some (.inl (((g + (p - g)) : Nat) : Int)), none], [.inl (((p + 1) : Nat) : Int), .inl ((((g + (p - g)) : Nat) : Int) + 1)], _)) rfl ?_
      refine b_ge (tgt := 195) okX3_remove rfl rfl ⟨by omega, by omega⟩ ⟨by omega, by omega⟩ (fun h156 => ?_) (fun h156 => absurd h156 (by omega))
      refine aGo okX3_remove 6 (f' := (205, [some (.inr 32), some (.inl (g : Int)), some (.inl (((g + (p - g)) : Nat) : Int)), none], [], [A0, (moSeg 32 (shL g k (p - g)) (shL g f (p - g)) (shL g c (p - g)) (shL g n (p - g)) (shL g kp (p - g)) (colsL g (p + 1) (rowsL g (p + 1) l (p - g)) (p - g)) nt w sh ((((p + 1) : Nat) : Int) - 1) t d wa), B, A3, B4, A5, C6])) rfl ?_
      refine b_cast (f' := (205, [some (.inr 32), some (.inl (g : Int)), some (.inl (((g + (p - g)) : Nat) : Int)), none], [], [A0, (moSeg 32 (shL g k (p - g)) (shL g f (p - g)) (shL g c (p - g)) (shL g n (p - g)) (shL g kp (p - g)) (colsL g (p + 1) (rowsL g (p + 1) l (p - g)) (p - g)) nt w sh (p : Int) t d wa), B, A3, B4, A5, C6])) (by rw [show ((p + 1 : Nat) : Int) - 1 = (p : Int) by omega]) ?_
      refine aGo okX3_remove 1 (f' := (206, [some (.inr 32), some (.inl (g : Int)), some (.inl (((g + (p - g)) : Nat) : Int)), none], [.inr 32], _)) rfl ?_
      refine b_vE (as := []) (rest := []) (k := 32) okX3_remove rfl lkX3_106 caX3_netLoans (Nat.le_of_ble_eq_true rfl) rfl (Nat.le_of_ble_eq_true rfl) rfl rfl rfl (c_netLoans_1 (p := p) (by omega) hnt (by rw [colsL_len, rowsL_len]; exact hl)) ?_
      rintro _ _ ⟨rfl, nt2, zn, rfl⟩
      refine aGo okX3_remove 1 (f' := (210, [some (.inr 32), some (.inl (g : Int)), some (.inl (((g + (p - g)) : Nat) : Int)), none], [.inr 32], _)) rfl ?_
      refine b_vE (as := []) (rest := []) (k := 32) okX3_remove rfl lkX3_109 caX3_weigh (Nat.le_of_ble_eq_true rfl) rfl (Nat.le_of_ble_eq_true rfl) rfl rfl rfl (c_weigh_1 (p := p) ⟨by omega, by rw [shL_len]; exact hk, by rw [shL_len]; exact hf, by rw [shL_len]; exact hc, hw, hsh, shL_rng rk _, shL_rng rf _, shL_rng rc _, ht0, ht1⟩) ?_
      rintro _ _ ⟨rfl, w2, sh2, zw, zs, rfl⟩
      exact b_ret (v := none) ⟨rfl, rfl⟩ ⟨rfl, nt2, w2, sh2, zn, zw, zs, rfl⟩ rfl
    | succ j ih =>
      intro i  hij 
      have lq : ∀ (j2 x : Nat), x + j2 = p + 1 → AW mX3_remove 4 0 0 N none (fun rv h => rv = none ∧ ∃ nt2 w2 sh2 : List Int, nOK p (colsL g (p + 1) (rowsL g (p + 1) l (p - g)) (p - g)) nt2 ∧ wOK p (shL g k (p - g)) (shL g f (p - g)) (shL g c (p - g)) w2 (wAll p (shL g k (p - g)) (shL g f (p - g)) (shL g c (p - g))) ∧ sOK p (shL g k (p - g)) (shL g f (p - g)) (shL g c (p - g)) sh2 t ∧ h = [A0, (moSeg 32 (shL g k (p - g)) (shL g f (p - g)) (shL g c (p - g)) (shL g n (p - g)) (shL g kp (p - g)) (colsL g (p + 1) (rowsL g (p + 1) l (p - g)) (p - g)) nt2 w2 sh2 (p : Int) t d (wAll p (shL g k (p - g)) (shL g f (p - g)) (shL g c (p - g)))), B, A3, B4, A5, C6]) (161, [some (.inr 32), some (.inl (g : Int)), some (.inl (((g + i) : Nat) : Int)), some (.inl (x : Int))], [], [A0, (moSeg 32 (shL g k (p - g)) (shL g f (p - g)) (shL g c (p - g)) (shL g n (p - g)) (shL g kp (p - g)) (colL (colsL g (p + 1) (rowsL g (p + 1) l (p - g)) i) (g + i) x) nt w sh (((p + 1) : Nat) : Int) t d wa), B, A3, B4, A5, C6]) := by
        intro j2
        induction j2 with
        | zero =>
          intro x  hij2 
          obtain rfl : p + 1 = x := by omega
          refine aGo okX3_remove 3 (f' := (166, [some (.inr 32), some (.inl (g : Int)), some (.inl (((g + i) : Nat) : Int)), some (.inl (p + 1 : Int))], [.inl (((p + 1) : Nat) : Int), .inl (p + 1 : Int)], _)) rfl ?_
          refine b_ge (tgt := 189) okX3_remove rfl rfl ⟨by omega, by omega⟩ ⟨by omega, by omega⟩ (fun h166 => ?_) (fun h166 => absurd h166 (by omega))
          refine aGo okX3_remove 2 (f' := (149, [some (.inr 32), some (.inl (g : Int)), some (.inl ((((g + i) : Nat) : Int) + 1)), some (.inl (p + 1 : Int))], [], _)) rfl ?_
          refine b_lose (ls' := [some (.inr 32), some (.inl (g : Int)), some (.inl ((((g + i) : Nat) : Int) + 1)), none]) (lose3 _ _ _ _) ?_
          exact ih (i + 1) (by omega)
        | succ j2 ih2 =>
          intro x  hij2 
          have e0 : (colL (colsL g (p + 1) (rowsL g (p + 1) l (p - g)) i) (g + i) x).length = 49 := by rw [colL_len, colsL_len, rowsL_len]; exact hl
          refine aGo okX3_remove 3 (f' := (166, [some (.inr 32), some (.inl (g : Int)), some (.inl (((g + i) : Nat) : Int)), some (.inl (x : Int))], [.inl (((p + 1) : Nat) : Int), .inl (x : Int)], _)) rfl ?_
          refine b_ge (tgt := 189) okX3_remove rfl rfl ⟨by omega, by omega⟩ ⟨by omega, by omega⟩ (fun h166 => absurd h166 (by omega)) (fun h166 => ?_)
          refine aGo okX3_remove 8 (f' := (177, [some (.inr 32), some (.inl (g : Int)), some (.inl (((g + i) : Nat) : Int)), some (.inl (x : Int))], [.inl ((((g + i) : Nat) : Int) + 1), .inl (x : Int), .inr 32, .inl (((g + i) : Nat) : Int), .inl (x : Int), .inr 32], _)) rfl ?_
          refine b_vV (as := [.inl (x : Int), .inl ((((g + i) : Nat) : Int) + 1)]) (rest := [.inl (((g + i) : Nat) : Int), .inl (x : Int), .inr 32]) (k := 32) (.inl ((colL (colsL g (p + 1) (rowsL g (p + 1) l (p - g)) i) (g + i) x).getD (7 * x + ((g + i) + 1)) 0)) okX3_remove rfl lkX3_80 caX3_lentBy (Nat.le_of_ble_eq_true rfl) rfl (Nat.le_of_ble_eq_true rfl) rfl rfl rfl (c_lentBy_1 (i := x) (j := ((g + i) + 1)) (by first | omega | (simp only [List.length_set]; omega)) (by omega) (by omega)) ?_
          refine b_vN (as := [.inl (x : Int), .inl (((g + i) : Nat) : Int), .inl ((colL (colsL g (p + 1) (rowsL g (p + 1) l (p - g)) i) (g + i) x).getD (7 * x + ((g + i) + 1)) 0)]) (rest := []) (k := 32) okX3_remove rfl lkX3_102 caX3_putLent (Nat.le_of_ble_eq_true rfl) rfl (Nat.le_of_ble_eq_true rfl) rfl rfl rfl (c_putLent_1 (i := x) (j := (g + i)) (by first | omega | (simp only [List.length_set]; omega)) (by omega) (by omega) ((colL (colsL g (p + 1) (rowsL g (p + 1) l (p - g)) i) (g + i) x).getD (7 * x + ((g + i) + 1)) 0)) ?_
          refine b_cast (f' := (183, [some (.inr 32), some (.inl (g : Int)), some (.inl (((g + i) : Nat) : Int)), some (.inl (x : Int))], [], [A0, (moSeg 32 (shL g k (p - g)) (shL g f (p - g)) (shL g c (p - g)) (shL g n (p - g)) (shL g kp (p - g)) ((colL (colsL g (p + 1) (rowsL g (p + 1) l (p - g)) i) (g + i) x).set (7 * x + (g + i)) ((colL (colsL g (p + 1) (rowsL g (p + 1) l (p - g)) i) (g + i) x).getD (7 * x + ((g + i) + 1)) 0)) nt w sh (((p + 1) : Nat) : Int) t d wa), B, A3, B4, A5, C6])) rfl ?_
          refine aGo okX3_remove 2 (f' := (161, [some (.inr 32), some (.inl (g : Int)), some (.inl (((g + i) : Nat) : Int)), some (.inl ((x : Int) + 1))], [], _)) rfl ?_
          exact ih2 (x + 1) (by omega)
      refine aGo okX3_remove 5 (f' := (156, [some (.inr 32), some (.inl (g : Int)), some (.inl (((g + i) : Nat) : Int)), none], [.inl (((p + 1) : Nat) : Int), .inl ((((g + i) : Nat) : Int) + 1)], _)) rfl ?_
      refine b_ge (tgt := 195) okX3_remove rfl rfl ⟨by omega, by omega⟩ ⟨by omega, by omega⟩ (fun h156 => absurd h156 (by omega)) (fun h156 => ?_)
      refine aGo okX3_remove 2 (f' := (161, [some (.inr 32), some (.inl (g : Int)), some (.inl (((g + i) : Nat) : Int)), some (.inl 0)], [], _)) rfl ?_
      exact lq (p + 1) 0 (by omega)
  have l1 : ∀ (j i : Nat), i + j = (p - g) → AW mX3_remove 4 0 0 N none (fun rv h => rv = none ∧ ∃ nt2 w2 sh2 : List Int, nOK p (colsL g (p + 1) (rowsL g (p + 1) l (p - g)) (p - g)) nt2 ∧ wOK p (shL g k (p - g)) (shL g f (p - g)) (shL g c (p - g)) w2 (wAll p (shL g k (p - g)) (shL g f (p - g)) (shL g c (p - g))) ∧ sOK p (shL g k (p - g)) (shL g f (p - g)) (shL g c (p - g)) sh2 t ∧ h = [A0, (moSeg 32 (shL g k (p - g)) (shL g f (p - g)) (shL g c (p - g)) (shL g n (p - g)) (shL g kp (p - g)) (colsL g (p + 1) (rowsL g (p + 1) l (p - g)) (p - g)) nt2 w2 sh2 (p : Int) t d (wAll p (shL g k (p - g)) (shL g f (p - g)) (shL g c (p - g)))), B, A3, B4, A5, C6]) (11, [some (.inr 32), some (.inl (g : Int)), some (.inl (((g + i) : Nat) : Int)), none], [], [A0, (moSeg 32 (shL g k i) (shL g f i) (shL g c i) (shL g n i) (shL g kp i) (rowsL g (p + 1) l i) nt w sh (((p + 1) : Nat) : Int) t d wa), B, A3, B4, A5, C6]) := by
    intro j
    induction j with
    | zero =>
      intro i  hij 
      obtain rfl : (p - g) = i := by omega
      refine aGo okX3_remove 5 (f' := (18, [some (.inr 32), some (.inl (g : Int)), some (.inl (((g + (p - g)) : Nat) : Int)), none], [.inl (((p + 1) : Nat) : Int), .inl ((((g + (p - g)) : Nat) : Int) + 1)], _)) rfl ?_
      refine b_ge (tgt := 147) okX3_remove rfl rfl ⟨by omega, by omega⟩ ⟨by omega, by omega⟩ (fun h18 => ?_) (fun h18 => absurd h18 (by omega))
      refine aGo okX3_remove 2 (f' := (149, [some (.inr 32), some (.inl (g : Int)), some (.inl (g : Int)), none], [], _)) rfl ?_
      exact l2 (p - g) 0 (by omega)
    | succ j ih =>
      intro i  hij 
      have lq : ∀ (j2 x : Nat), x + j2 = p + 1 → AW mX3_remove 4 0 0 N none (fun rv h => rv = none ∧ ∃ nt2 w2 sh2 : List Int, nOK p (colsL g (p + 1) (rowsL g (p + 1) l (p - g)) (p - g)) nt2 ∧ wOK p (shL g k (p - g)) (shL g f (p - g)) (shL g c (p - g)) w2 (wAll p (shL g k (p - g)) (shL g f (p - g)) (shL g c (p - g))) ∧ sOK p (shL g k (p - g)) (shL g f (p - g)) (shL g c (p - g)) sh2 t ∧ h = [A0, (moSeg 32 (shL g k (p - g)) (shL g f (p - g)) (shL g c (p - g)) (shL g n (p - g)) (shL g kp (p - g)) (colsL g (p + 1) (rowsL g (p + 1) l (p - g)) (p - g)) nt2 w2 sh2 (p : Int) t d (wAll p (shL g k (p - g)) (shL g f (p - g)) (shL g c (p - g)))), B, A3, B4, A5, C6]) (113, [some (.inr 32), some (.inl (g : Int)), some (.inl (((g + i) : Nat) : Int)), some (.inl (x : Int))], [], [A0, (moSeg 32 (shL g k (i + 1)) (shL g f (i + 1)) (shL g c (i + 1)) (shL g n (i + 1)) (shL g kp (i + 1)) (rowL (rowsL g (p + 1) l i) (g + i) x) nt w sh (((p + 1) : Nat) : Int) t d wa), B, A3, B4, A5, C6]) := by
        intro j2
        induction j2 with
        | zero =>
          intro x  hij2 
          obtain rfl : p + 1 = x := by omega
          refine aGo okX3_remove 3 (f' := (118, [some (.inr 32), some (.inl (g : Int)), some (.inl (((g + i) : Nat) : Int)), some (.inl (p + 1 : Int))], [.inl (((p + 1) : Nat) : Int), .inl (p + 1 : Int)], _)) rfl ?_
          refine b_ge (tgt := 141) okX3_remove rfl rfl ⟨by omega, by omega⟩ ⟨by omega, by omega⟩ (fun h118 => ?_) (fun h118 => absurd h118 (by omega))
          refine aGo okX3_remove 2 (f' := (11, [some (.inr 32), some (.inl (g : Int)), some (.inl ((((g + i) : Nat) : Int) + 1)), some (.inl (p + 1 : Int))], [], _)) rfl ?_
          refine b_lose (ls' := [some (.inr 32), some (.inl (g : Int)), some (.inl ((((g + i) : Nat) : Int) + 1)), none]) (lose3 _ _ _ _) ?_
          exact ih (i + 1) (by omega)
        | succ j2 ih2 =>
          intro x  hij2 
          have e0 : (rowL (rowsL g (p + 1) l i) (g + i) x).length = 49 := by rw [rowL_len, rowsL_len]; exact hl
          refine aGo okX3_remove 3 (f' := (118, [some (.inr 32), some (.inl (g : Int)), some (.inl (((g + i) : Nat) : Int)), some (.inl (x : Int))], [.inl (((p + 1) : Nat) : Int), .inl (x : Int)], _)) rfl ?_
          refine b_ge (tgt := 141) okX3_remove rfl rfl ⟨by omega, by omega⟩ ⟨by omega, by omega⟩ (fun h118 => absurd h118 (by omega)) (fun h118 => ?_)
          refine aGo okX3_remove 8 (f' := (129, [some (.inr 32), some (.inl (g : Int)), some (.inl (((g + i) : Nat) : Int)), some (.inl (x : Int))], [.inl (x : Int), .inl ((((g + i) : Nat) : Int) + 1), .inr 32, .inl (x : Int), .inl (((g + i) : Nat) : Int), .inr 32], _)) rfl ?_
          refine b_vV (as := [.inl ((((g + i) : Nat) : Int) + 1), .inl (x : Int)]) (rest := [.inl (x : Int), .inl (((g + i) : Nat) : Int), .inr 32]) (k := 32) (.inl ((rowL (rowsL g (p + 1) l i) (g + i) x).getD (7 * ((g + i) + 1) + x) 0)) okX3_remove rfl lkX3_80 caX3_lentBy (Nat.le_of_ble_eq_true rfl) rfl (Nat.le_of_ble_eq_true rfl) rfl rfl rfl (c_lentBy_1 (i := ((g + i) + 1)) (j := x) (by first | omega | (simp only [List.length_set]; omega)) (by omega) (by omega)) ?_
          refine b_vN (as := [.inl (((g + i) : Nat) : Int), .inl (x : Int), .inl ((rowL (rowsL g (p + 1) l i) (g + i) x).getD (7 * ((g + i) + 1) + x) 0)]) (rest := []) (k := 32) okX3_remove rfl lkX3_102 caX3_putLent (Nat.le_of_ble_eq_true rfl) rfl (Nat.le_of_ble_eq_true rfl) rfl rfl rfl (c_putLent_1 (i := (g + i)) (j := x) (by first | omega | (simp only [List.length_set]; omega)) (by omega) (by omega) ((rowL (rowsL g (p + 1) l i) (g + i) x).getD (7 * ((g + i) + 1) + x) 0)) ?_
          refine b_cast (f' := (135, [some (.inr 32), some (.inl (g : Int)), some (.inl (((g + i) : Nat) : Int)), some (.inl (x : Int))], [], [A0, (moSeg 32 (shL g k (i + 1)) (shL g f (i + 1)) (shL g c (i + 1)) (shL g n (i + 1)) (shL g kp (i + 1)) ((rowL (rowsL g (p + 1) l i) (g + i) x).set (7 * (g + i) + x) ((rowL (rowsL g (p + 1) l i) (g + i) x).getD (7 * ((g + i) + 1) + x) 0)) nt w sh (((p + 1) : Nat) : Int) t d wa), B, A3, B4, A5, C6])) rfl ?_
          refine aGo okX3_remove 2 (f' := (113, [some (.inr 32), some (.inl (g : Int)), some (.inl (((g + i) : Nat) : Int)), some (.inl ((x : Int) + 1))], [], _)) rfl ?_
          exact ih2 (x + 1) (by omega)
      have e_k : (shL g k i).length = 7 := by rw [shL_len]; exact hk
      have e_f : (shL g f i).length = 7 := by rw [shL_len]; exact hf
      have e_c : (shL g c i).length = 7 := by rw [shL_len]; exact hc
      have e_n : (shL g n i).length = 7 := by rw [shL_len]; exact hn
      have e_kp : (shL g kp i).length = 7 := by rw [shL_len]; exact hkp
      refine aGo okX3_remove 5 (f' := (18, [some (.inr 32), some (.inl (g : Int)), some (.inl (((g + i) : Nat) : Int)), none], [.inl (((p + 1) : Nat) : Int), .inl ((((g + i) : Nat) : Int) + 1)], _)) rfl ?_
      refine b_ge (tgt := 147) okX3_remove rfl rfl ⟨by omega, by omega⟩ ⟨by omega, by omega⟩ (fun h18 => absurd h18 (by omega)) (fun h18 => ?_)
      refine aGo okX3_remove 8 (f' := (33, [some (.inr 32), some (.inl (g : Int)), some (.inl (((g + i) : Nat) : Int)), none], [.inl ((((g + i) : Nat) : Int) + 1), .inr 33, .inl (((g + i) : Nat) : Int), .inr 33], _)) rfl ?_
      refine b_vV (as := [.inl ((((g + i) : Nat) : Int) + 1)]) (rest := [.inl (((g + i) : Nat) : Int), .inr 33]) (k := 33) (.inl ((shL g k i).getD ((g + i) + 1) 0)) okX3_remove rfl lkX3_65 caX4_at (Nat.le_of_ble_eq_true rfl) rfl (Nat.le_of_ble_eq_true rfl) rfl rfl rfl (c_at (i := ((g + i) + 1)) rfl rfl (by first | omega | (simp only [List.length_set]; omega)) (by omega)) ?_
      refine b_vN (as := [.inl (((g + i) : Nat) : Int), .inl ((shL g k i).getD ((g + i) + 1) 0)]) (rest := []) (k := 33) okX3_remove rfl lkX3_98 caX4_put (Nat.le_of_ble_eq_true rfl) rfl (Nat.le_of_ble_eq_true rfl) rfl rfl rfl (c_put (i := (g + i)) rfl rfl (by first | omega | (simp only [List.length_set]; omega)) (by first | omega | (simp only [List.length_set]; omega)) ((shL g k i).getD ((g + i) + 1) 0)) ?_
      refine b_cast (f' := (39, [some (.inr 32), some (.inl (g : Int)), some (.inl (((g + i) : Nat) : Int)), none], [], [A0, (moSeg 32 ((shL g k i).set (g + i) ((shL g k i).getD ((g + i) + 1) 0)) (shL g f i) (shL g c i) (shL g n i) (shL g kp i) (rowsL g (p + 1) l i) nt w sh (((p + 1) : Nat) : Int) t d wa), B, A3, B4, A5, C6])) rfl ?_
      refine aGo okX3_remove 8 (f' := (51, [some (.inr 32), some (.inl (g : Int)), some (.inl (((g + i) : Nat) : Int)), none], [.inl ((((g + i) : Nat) : Int) + 1), .inr 35, .inl (((g + i) : Nat) : Int), .inr 35], _)) rfl ?_
      refine b_vV (as := [.inl ((((g + i) : Nat) : Int) + 1)]) (rest := [.inl (((g + i) : Nat) : Int), .inr 35]) (k := 35) (.inl ((shL g f i).getD ((g + i) + 1) 0)) okX3_remove rfl lkX3_65 caX4_at (Nat.le_of_ble_eq_true rfl) rfl (Nat.le_of_ble_eq_true rfl) rfl rfl rfl (c_at (i := ((g + i) + 1)) rfl rfl (by first | omega | (simp only [List.length_set]; omega)) (by omega)) ?_
      refine b_vN (as := [.inl (((g + i) : Nat) : Int), .inl ((shL g f i).getD ((g + i) + 1) 0)]) (rest := []) (k := 35) okX3_remove rfl lkX3_98 caX4_put (Nat.le_of_ble_eq_true rfl) rfl (Nat.le_of_ble_eq_true rfl) rfl rfl rfl (c_put (i := (g + i)) rfl rfl (by first | omega | (simp only [List.length_set]; omega)) (by first | omega | (simp only [List.length_set]; omega)) ((shL g f i).getD ((g + i) + 1) 0)) ?_
      refine b_cast (f' := (57, [some (.inr 32), some (.inl (g : Int)), some (.inl (((g + i) : Nat) : Int)), none], [], [A0, (moSeg 32 ((shL g k i).set (g + i) ((shL g k i).getD ((g + i) + 1) 0)) ((shL g f i).set (g + i) ((shL g f i).getD ((g + i) + 1) 0)) (shL g c i) (shL g n i) (shL g kp i) (rowsL g (p + 1) l i) nt w sh (((p + 1) : Nat) : Int) t d wa), B, A3, B4, A5, C6])) rfl ?_
      refine aGo okX3_remove 8 (f' := (69, [some (.inr 32), some (.inl (g : Int)), some (.inl (((g + i) : Nat) : Int)), none], [.inl ((((g + i) : Nat) : Int) + 1), .inr 37, .inl (((g + i) : Nat) : Int), .inr 37], _)) rfl ?_
      refine b_vV (as := [.inl ((((g + i) : Nat) : Int) + 1)]) (rest := [.inl (((g + i) : Nat) : Int), .inr 37]) (k := 37) (.inl ((shL g c i).getD ((g + i) + 1) 0)) okX3_remove rfl lkX3_65 caX4_at (Nat.le_of_ble_eq_true rfl) rfl (Nat.le_of_ble_eq_true rfl) rfl rfl rfl (c_at (i := ((g + i) + 1)) rfl rfl (by first | omega | (simp only [List.length_set]; omega)) (by omega)) ?_
      refine b_vN (as := [.inl (((g + i) : Nat) : Int), .inl ((shL g c i).getD ((g + i) + 1) 0)]) (rest := []) (k := 37) okX3_remove rfl lkX3_98 caX4_put (Nat.le_of_ble_eq_true rfl) rfl (Nat.le_of_ble_eq_true rfl) rfl rfl rfl (c_put (i := (g + i)) rfl rfl (by first | omega | (simp only [List.length_set]; omega)) (by first | omega | (simp only [List.length_set]; omega)) ((shL g c i).getD ((g + i) + 1) 0)) ?_
      refine b_cast (f' := (75, [some (.inr 32), some (.inl (g : Int)), some (.inl (((g + i) : Nat) : Int)), none], [], [A0, (moSeg 32 ((shL g k i).set (g + i) ((shL g k i).getD ((g + i) + 1) 0)) ((shL g f i).set (g + i) ((shL g f i).getD ((g + i) + 1) 0)) ((shL g c i).set (g + i) ((shL g c i).getD ((g + i) + 1) 0)) (shL g n i) (shL g kp i) (rowsL g (p + 1) l i) nt w sh (((p + 1) : Nat) : Int) t d wa), B, A3, B4, A5, C6])) rfl ?_
      refine aGo okX3_remove 8 (f' := (87, [some (.inr 32), some (.inl (g : Int)), some (.inl (((g + i) : Nat) : Int)), none], [.inl ((((g + i) : Nat) : Int) + 1), .inr 39, .inl (((g + i) : Nat) : Int), .inr 39], _)) rfl ?_
      refine b_vV (as := [.inl ((((g + i) : Nat) : Int) + 1)]) (rest := [.inl (((g + i) : Nat) : Int), .inr 39]) (k := 39) (.inl ((shL g n i).getD ((g + i) + 1) 0)) okX3_remove rfl lkX3_65 caX4_at (Nat.le_of_ble_eq_true rfl) rfl (Nat.le_of_ble_eq_true rfl) rfl rfl rfl (c_at (i := ((g + i) + 1)) rfl rfl (by first | omega | (simp only [List.length_set]; omega)) (by omega)) ?_
      refine b_vN (as := [.inl (((g + i) : Nat) : Int), .inl ((shL g n i).getD ((g + i) + 1) 0)]) (rest := []) (k := 39) okX3_remove rfl lkX3_98 caX4_put (Nat.le_of_ble_eq_true rfl) rfl (Nat.le_of_ble_eq_true rfl) rfl rfl rfl (c_put (i := (g + i)) rfl rfl (by first | omega | (simp only [List.length_set]; omega)) (by first | omega | (simp only [List.length_set]; omega)) ((shL g n i).getD ((g + i) + 1) 0)) ?_
      refine b_cast (f' := (93, [some (.inr 32), some (.inl (g : Int)), some (.inl (((g + i) : Nat) : Int)), none], [], [A0, (moSeg 32 ((shL g k i).set (g + i) ((shL g k i).getD ((g + i) + 1) 0)) ((shL g f i).set (g + i) ((shL g f i).getD ((g + i) + 1) 0)) ((shL g c i).set (g + i) ((shL g c i).getD ((g + i) + 1) 0)) ((shL g n i).set (g + i) ((shL g n i).getD ((g + i) + 1) 0)) (shL g kp i) (rowsL g (p + 1) l i) nt w sh (((p + 1) : Nat) : Int) t d wa), B, A3, B4, A5, C6])) rfl ?_
      refine aGo okX3_remove 8 (f' := (105, [some (.inr 32), some (.inl (g : Int)), some (.inl (((g + i) : Nat) : Int)), none], [.inl ((((g + i) : Nat) : Int) + 1), .inr 41, .inl (((g + i) : Nat) : Int), .inr 41], _)) rfl ?_
      refine b_vV (as := [.inl ((((g + i) : Nat) : Int) + 1)]) (rest := [.inl (((g + i) : Nat) : Int), .inr 41]) (k := 41) (.inl ((shL g kp i).getD ((g + i) + 1) 0)) okX3_remove rfl lkX3_65 caX4_at (Nat.le_of_ble_eq_true rfl) rfl (Nat.le_of_ble_eq_true rfl) rfl rfl rfl (c_at (i := ((g + i) + 1)) rfl rfl (by first | omega | (simp only [List.length_set]; omega)) (by omega)) ?_
      refine b_vN (as := [.inl (((g + i) : Nat) : Int), .inl ((shL g kp i).getD ((g + i) + 1) 0)]) (rest := []) (k := 41) okX3_remove rfl lkX3_98 caX4_put (Nat.le_of_ble_eq_true rfl) rfl (Nat.le_of_ble_eq_true rfl) rfl rfl rfl (c_put (i := (g + i)) rfl rfl (by first | omega | (simp only [List.length_set]; omega)) (by first | omega | (simp only [List.length_set]; omega)) ((shL g kp i).getD ((g + i) + 1) 0)) ?_
      refine b_cast (f' := (111, [some (.inr 32), some (.inl (g : Int)), some (.inl (((g + i) : Nat) : Int)), none], [], [A0, (moSeg 32 ((shL g k i).set (g + i) ((shL g k i).getD ((g + i) + 1) 0)) ((shL g f i).set (g + i) ((shL g f i).getD ((g + i) + 1) 0)) ((shL g c i).set (g + i) ((shL g c i).getD ((g + i) + 1) 0)) ((shL g n i).set (g + i) ((shL g n i).getD ((g + i) + 1) 0)) ((shL g kp i).set (g + i) ((shL g kp i).getD ((g + i) + 1) 0)) (rowsL g (p + 1) l i) nt w sh (((p + 1) : Nat) : Int) t d wa), B, A3, B4, A5, C6])) rfl ?_
      refine aGo okX3_remove 2 (f' := (113, [some (.inr 32), some (.inl (g : Int)), some (.inl (((g + i) : Nat) : Int)), some (.inl 0)], [], _)) rfl ?_
      exact lq (p + 1) 0 (by omega)
  refine aGo okX3_remove 2 (f' := (2, [some (.inr 32), some (.inl (g : Int)), none, none], [.inl (g : Int), .inr 32], _)) rfl ?_
  refine b_vV (as := [.inl (g : Int)]) (rest := []) (k := 32) (.inl 1) okX3_remove rfl lkX3_61 caX3_isThere (Nat.le_of_ble_eq_true rfl) rfl (Nat.le_of_ble_eq_true rfl) rfl rfl rfl (c_isThere_1_t (p := p + 1) (x := (g : Int)) (by omega) (by omega) (by omega)) ?_
  refine b0_ne (tgt := 9) okX3_remove rfl rfl ⟨by omega, by omega⟩ (fun h5 => ?_) (fun h5 => absurd h5 (by omega))
  refine aGo okX3_remove 2 (f' := (11, [some (.inr 32), some (.inl (g : Int)), some (.inl (g : Int)), none], [], _)) rfl ?_
  exact l1 (p - g) 0 (by omega)
set_option maxRecDepth 100000 in
set_option maxHeartbeats 4000000 in
theorem c_loansAboveNothing_1 (hp : p ≤ 7) (hl : l.length = 49) (rl : rng l 99) : aEv mX3_loansAboveNothing 2 0 0 N [.inr 32] [A0, (moSeg 32 k f c n kp l nt w sh (p : Int) t d wa), B, A3, B4, A5, C6] ((aQx (some (.inl (sumN p (fun i => loansN p l i p)))) [A0, (moSeg 32 k f c n kp l nt w sh (p : Int) t d wa), B, A3, B4, A5, C6])) := by
  refine aEv_of okX3_loansAboveNothing caX3_loansAboveNothing (Nat.le_of_ble_eq_true rfl) ?_
  have lp : ∀ (j i : Nat), i + j = p → AW mX3_loansAboveNothing 2 0 0 N none (aQx (some (.inl (sumN p (fun i => loansN p l i p)))) [A0, (moSeg 32 k f c n kp l nt w sh (p : Int) t d wa), B, A3, B4, A5, C6]) (4, [some (.inr 32), some (.inl (sumN i (fun i => loansN p l i p))), some (.inl (i : Int)), none], [], [A0, (moSeg 32 k f c n kp l nt w sh (p : Int) t d wa), B, A3, B4, A5, C6]) := by
    intro j
    induction j with
    | zero =>
      intro i  hij 
      obtain rfl : p = i := by omega
      refine aGo okX3_loansAboveNothing 3 (f' := (9, [some (.inr 32), some (.inl (sumN p (fun i => loansN p l i p))), some (.inl (p : Int)), none], [.inl (p : Int), .inl (p : Int)], _)) rfl ?_
      refine b_ge (tgt := 46) okX3_loansAboveNothing rfl rfl ⟨by omega, by omega⟩ ⟨by omega, by omega⟩ (fun h9 => ?_) (fun h9 => absurd h9 (by omega))
      refine aGo okX3_loansAboveNothing 1 (f' := (47, [some (.inr 32), some (.inl (sumN p (fun i => loansN p l i p))), some (.inl (p : Int)), none], [.inl (sumN p (fun i => loansN p l i p))], _)) rfl ?_
      exact b_ret (v := (some (.inl (sumN p (fun i => loansN p l i p))))) ⟨rfl, Or.inl rfl⟩ ⟨rfl, rfl⟩ rfl
    | succ j ih =>
      intro i  hij 
      have lq : ∀ (j2 x : Nat), x + j2 = p → AW mX3_loansAboveNothing 2 0 0 N none (aQx (some (.inl (sumN p (fun i => loansN p l i p)))) [A0, (moSeg 32 k f c n kp l nt w sh (p : Int) t d wa), B, A3, B4, A5, C6]) (14, [some (.inr 32), some (.inl ((sumN i (fun i => loansN p l i p)) + (loansN p l i x))), some (.inl (i : Int)), some (.inl (x : Int))], [], [A0, (moSeg 32 k f c n kp l nt w sh (p : Int) t d wa), B, A3, B4, A5, C6]) := by
        intro j2
        induction j2 with
        | zero =>
          intro x  hij2 
          obtain rfl : p = x := by omega
          refine aGo okX3_loansAboveNothing 3 (f' := (19, [some (.inr 32), some (.inl ((sumN i (fun i => loansN p l i p)) + (loansN p l i p))), some (.inl (i : Int)), some (.inl (p : Int))], [.inl (p : Int), .inl (p : Int)], _)) rfl ?_
          refine b_ge (tgt := 40) okX3_loansAboveNothing rfl rfl ⟨by omega, by omega⟩ ⟨by omega, by omega⟩ (fun h19 => ?_) (fun h19 => absurd h19 (by omega))
          refine aGo okX3_loansAboveNothing 2 (f' := (4, [some (.inr 32), some (.inl ((sumN i (fun i => loansN p l i p)) + (loansN p l i p))), some (.inl ((i : Int) + 1)), some (.inl (p : Int))], [], _)) rfl ?_
          refine b_lose (ls' := [some (.inr 32), some (.inl ((sumN i (fun i => loansN p l i p)) + (loansN p l i p))), some (.inl ((i : Int) + 1)), none]) (lose3 _ _ _ _) ?_
          exact ih (i + 1) (by omega)
        | succ j2 ih2 =>
          intro x  hij2 
          have r1 := rl (7 * i + x)
          refine aGo okX3_loansAboveNothing 3 (f' := (19, [some (.inr 32), some (.inl ((sumN i (fun i => loansN p l i p)) + (loansN p l i x))), some (.inl (i : Int)), some (.inl (x : Int))], [.inl (p : Int), .inl (x : Int)], _)) rfl ?_
          refine b_ge (tgt := 40) okX3_loansAboveNothing rfl rfl ⟨by omega, by omega⟩ ⟨by omega, by omega⟩ (fun h19 => absurd h19 (by omega)) (fun h19 => ?_)
          refine aGo okX3_loansAboveNothing 3 (f' := (25, [some (.inr 32), some (.inl ((sumN i (fun i => loansN p l i p)) + (loansN p l i x))), some (.inl (i : Int)), some (.inl (x : Int))], [.inl (x : Int), .inl (i : Int), .inr 32], _)) rfl ?_
          refine b_vV (as := [.inl (i : Int), .inl (x : Int)]) (rest := []) (k := 32) (.inl (l.getD (7 * i + x) 0)) okX3_loansAboveNothing rfl lkX3_80 caX3_lentBy (Nat.le_of_ble_eq_true rfl) rfl (Nat.le_of_ble_eq_true rfl) rfl rfl rfl (c_lentBy_1 (i := i) (j := x) (by first | omega | (simp only [List.length_set]; omega)) (by omega) (by omega)) ?_
          refine b0_le (tgt := 34) okX3_loansAboveNothing rfl rfl ⟨by omega, by omega⟩ (fun h28 => ?_) (fun h28 => ?_)
          · refine aGo okX3_loansAboveNothing 2 (f' := (14, [some (.inr 32), some (.inl ((sumN i (fun i => loansN p l i p)) + (loansN p l i x))), some (.inl (i : Int)), some (.inl ((x : Int) + 1))], [], _)) rfl ?_
            refine b_cast (f' := (14, [some (.inr 32), some (.inl ((sumN i (fun i => loansN p l i p)) + (loansN p l i (x + 1)))), some (.inl (i : Int)), some (.inl ((x : Int) + 1))], [], [A0, (moSeg 32 k f c n kp l nt w sh (p : Int) t d wa), B, A3, B4, A5, C6])) (congrArg (fun z : Int => ((14, [some (.inr 32), some (.inl z), some (.inl (i : Int)), some (.inl ((x : Int) + 1))], [], [A0, (moSeg 32 k f c n kp l nt w sh (p : Int) t d wa), B, A3, B4, A5, C6]) : aF)) (show sumN i (fun i => loansN p l i p) + loansN p l i x = sumN i (fun i => loansN p l i p) + (loansN p l i x + (if 0 < l.getD (7 * i + x) 0 then 1 else 0)) from by rw [if_neg (by omega)]; omega)) ?_
            exact ih2 (x + 1) (by omega)
          · refine aGo okX3_loansAboveNothing 3 (f' := (14, [some (.inr 32), some (.inl (((sumN i (fun i => loansN p l i p)) + (loansN p l i x)) + 1)), some (.inl (i : Int)), some (.inl ((x : Int) + 1))], [], _)) rfl ?_
            refine b_cast (f' := (14, [some (.inr 32), some (.inl ((sumN i (fun i => loansN p l i p)) + (loansN p l i (x + 1)))), some (.inl (i : Int)), some (.inl ((x : Int) + 1))], [], [A0, (moSeg 32 k f c n kp l nt w sh (p : Int) t d wa), B, A3, B4, A5, C6])) (congrArg (fun z : Int => ((14, [some (.inr 32), some (.inl z), some (.inl (i : Int)), some (.inl ((x : Int) + 1))], [], [A0, (moSeg 32 k f c n kp l nt w sh (p : Int) t d wa), B, A3, B4, A5, C6]) : aF)) (show sumN i (fun i => loansN p l i p) + loansN p l i x + 1 = sumN i (fun i => loansN p l i p) + (loansN p l i x + (if 0 < l.getD (7 * i + x) 0 then 1 else 0)) from by rw [if_pos (by omega)]; omega)) ?_
            exact ih2 (x + 1) (by omega)
      refine aGo okX3_loansAboveNothing 3 (f' := (9, [some (.inr 32), some (.inl (sumN i (fun i => loansN p l i p))), some (.inl (i : Int)), none], [.inl (p : Int), .inl (i : Int)], _)) rfl ?_
      refine b_ge (tgt := 46) okX3_loansAboveNothing rfl rfl ⟨by omega, by omega⟩ ⟨by omega, by omega⟩ (fun h9 => absurd h9 (by omega)) (fun h9 => ?_)
      refine aGo okX3_loansAboveNothing 2 (f' := (14, [some (.inr 32), some (.inl (sumN i (fun i => loansN p l i p))), some (.inl (i : Int)), some (.inl 0)], [], _)) rfl ?_
      refine b_cast (f' := (14, [some (.inr 32), some (.inl ((sumN i (fun i => loansN p l i p)) + (loansN p l i 0))), some (.inl (i : Int)), some (.inl 0)], [], [A0, (moSeg 32 k f c n kp l nt w sh (p : Int) t d wa), B, A3, B4, A5, C6])) (congrArg (fun z : Int => ((14, [some (.inr 32), some (.inl z), some (.inl (i : Int)), some (.inl 0)], [], [A0, (moSeg 32 k f c n kp l nt w sh (p : Int) t d wa), B, A3, B4, A5, C6]) : aF)) (show sumN i (fun i => loansN p l i p) = sumN i (fun i => loansN p l i p) + 0 from (Int.add_zero _).symm)) ?_
      exact lq p 0 (by omega)
  refine aGo okX3_loansAboveNothing 4 (f' := (4, [some (.inr 32), some (.inl 0), some (.inl 0), none], [], _)) rfl ?_
  exact lp p 0 (by omega)
set_option maxRecDepth 100000 in
set_option maxHeartbeats 4000000 in
theorem c_mostSteps_1 (hp : p ≤ 7) (hc : c.length = 7) (rc : rng c 35) : aEv mX3_mostSteps 3 0 0 N [.inr 32] [A0, (moSeg 32 k f c n kp l nt w sh (p : Int) t d wa), B, A3, B4, A5, C6] ((aQx (some (.inl (msO c p p))) [A0, (moSeg 32 k f c n kp l nt w sh (p : Int) t d wa), B, A3, B4, A5, C6])) := by
  refine aEv_of okX3_mostSteps caX3_mostSteps (Nat.le_of_ble_eq_true rfl) ?_
  have lp : ∀ (j i : Nat), i + j = p → AW mX3_mostSteps 3 0 0 N none (aQx (some (.inl (msO c p p))) [A0, (moSeg 32 k f c n kp l nt w sh (p : Int) t d wa), B, A3, B4, A5, C6]) (5, [some (.inr 32), some (.inl (msO c p i)), some (.inl (i : Int)), none], [], [A0, (moSeg 32 k f c n kp l nt w sh (p : Int) t d wa), B, A3, B4, A5, C6]) := by
    intro j
    induction j with
    | zero =>
      intro i  hij 
      obtain rfl : p = i := by omega
      refine aGo okX3_mostSteps 3 (f' := (10, [some (.inr 32), some (.inl (msO c p p)), some (.inl (p : Int)), none], [.inl (p : Int), .inl (p : Int)], _)) rfl ?_
      refine b_ge (tgt := 48) okX3_mostSteps rfl rfl ⟨by omega, by omega⟩ ⟨by omega, by omega⟩ (fun h10 => ?_) (fun h10 => absurd h10 (by omega))
      refine aGo okX3_mostSteps 1 (f' := (49, [some (.inr 32), some (.inl (msO c p p)), some (.inl (p : Int)), none], [.inl (msO c p p)], _)) rfl ?_
      exact b_ret (v := (some (.inl (msO c p p)))) ⟨rfl, Or.inl rfl⟩ ⟨rfl, rfl⟩ rfl
    | succ j ih =>
      intro i  hij 
      have lq : ∀ (j2 x : Nat), x + j2 = (p - (i + 1)) → AW mX3_mostSteps 3 0 0 N none (aQx (some (.inl (msO c p p))) [A0, (moSeg 32 k f c n kp l nt w sh (p : Int) t d wa), B, A3, B4, A5, C6]) (17, [some (.inr 32), some (.inl (msI c i (msO c p i) x)), some (.inl (i : Int)), some (.inl ((((i + 1) + x) : Nat) : Int))], [], [A0, (moSeg 32 k f c n kp l nt w sh (p : Int) t d wa), B, A3, B4, A5, C6]) := by
        intro j2
        induction j2 with
        | zero =>
          intro x  hij2 
          obtain rfl : (p - (i + 1)) = x := by omega
          refine aGo okX3_mostSteps 3 (f' := (22, [some (.inr 32), some (.inl (msI c i (msO c p i) (p - (i + 1)))), some (.inl (i : Int)), some (.inl ((((i + 1) + (p - (i + 1))) : Nat) : Int))], [.inl (p : Int), .inl ((((i + 1) + (p - (i + 1))) : Nat) : Int)], _)) rfl ?_
          refine b_ge (tgt := 42) okX3_mostSteps rfl rfl ⟨by omega, by omega⟩ ⟨by omega, by omega⟩ (fun h22 => ?_) (fun h22 => absurd h22 (by omega))
          refine aGo okX3_mostSteps 2 (f' := (5, [some (.inr 32), some (.inl (msI c i (msO c p i) (p - (i + 1)))), some (.inl ((i : Int) + 1)), some (.inl ((((i + 1) + (p - (i + 1))) : Nat) : Int))], [], _)) rfl ?_
          refine b_lose (ls' := [some (.inr 32), some (.inl (msI c i (msO c p i) (p - (i + 1)))), some (.inl ((i : Int) + 1)), none]) (lose3 _ _ _ _) ?_
          exact ih (i + 1) (by omega)
        | succ j2 ih2 =>
          intro x  hij2 
          have r1 := msI_le rc (msO_le rc (p := p) i) (a := i) x
          have r2 := stp_le (rc i) (rc ((i + 1) + x))
          refine aGo okX3_mostSteps 3 (f' := (22, [some (.inr 32), some (.inl (msI c i (msO c p i) x)), some (.inl (i : Int)), some (.inl ((((i + 1) + x) : Nat) : Int))], [.inl (p : Int), .inl ((((i + 1) + x) : Nat) : Int)], _)) rfl ?_
          refine b_ge (tgt := 42) okX3_mostSteps rfl rfl ⟨by omega, by omega⟩ ⟨by omega, by omega⟩ (fun h22 => absurd h22 (by omega)) (fun h22 => ?_)
          refine aGo okX3_mostSteps 4 (f' := (29, [some (.inr 32), some (.inl (msI c i (msO c p i) x)), some (.inl (i : Int)), some (.inl ((((i + 1) + x) : Nat) : Int))], [.inl ((((i + 1) + x) : Nat) : Int), .inl (i : Int), .inr 32, .inl (msI c i (msO c p i) x)], _)) rfl ?_
          refine b_vV (as := [.inl (i : Int), .inl ((((i + 1) + x) : Nat) : Int)]) (rest := [.inl (msI c i (msO c p i) x)]) (k := 32) (.inl (stp (c.getD i 0) (c.getD ((i + 1) + x) 0))) okX3_mostSteps rfl lkX3_83 caX3_stepsOf (Nat.le_of_ble_eq_true rfl) rfl (Nat.le_of_ble_eq_true rfl) rfl rfl rfl (c_stepsOf_1 (i := i) (j := ((i + 1) + x)) (by first | omega | (simp only [List.length_set]; omega)) rc (by omega) (by omega)) ?_
          refine b_max okX3_mostSteps rfl lkX3_86 ma_max_s ma_max_c (Nat.le_of_ble_eq_true rfl) (Nat.le_of_ble_eq_true rfl) ⟨by omega, by omega⟩ ⟨by omega, by omega⟩ ?_
          refine aGo okX3_mostSteps 3 (f' := (17, [some (.inr 32), some (.inl (max (msI c i (msO c p i) x) (stp (c.getD i 0) (c.getD ((i + 1) + x) 0)))), some (.inl (i : Int)), some (.inl (((((i + 1) + x) : Nat) : Int) + 1))], [], _)) rfl ?_
          exact ih2 (x + 1) (by omega)
      refine aGo okX3_mostSteps 3 (f' := (10, [some (.inr 32), some (.inl (msO c p i)), some (.inl (i : Int)), none], [.inl (p : Int), .inl (i : Int)], _)) rfl ?_
      refine b_ge (tgt := 48) okX3_mostSteps rfl rfl ⟨by omega, by omega⟩ ⟨by omega, by omega⟩ (fun h10 => absurd h10 (by omega)) (fun h10 => ?_)
      refine aGo okX3_mostSteps 4 (f' := (17, [some (.inr 32), some (.inl (msO c p i)), some (.inl (i : Int)), some (.inl ((i : Int) + 1))], [], _)) rfl ?_
      exact lq (p - (i + 1)) 0 (by omega)
  refine aGo okX3_mostSteps 4 (f' := (5, [some (.inr 32), some (.inl (-9)), some (.inl 0), none], [], _)) rfl ?_
  exact lp p 0 (by omega)
set_option maxRecDepth 100000 in
set_option maxHeartbeats 4000000 in
theorem c_nearestPair_1 (hp : p ≤ 7) (hc : c.length = 7) (rc : rng c 35) : aEv mX3_nearestPair 3 0 0 N [.inr 32] [A0, (moSeg 32 k f c n kp l nt w sh (p : Int) t d wa), B, A3, B4, A5, C6] ((aQx (some (.inl (npO c p p).1)) [A0, (moSeg 32 k f c n kp l nt w sh (p : Int) t d wa), B, A3, B4, A5, C6])) := by
  refine aEv_of okX3_nearestPair caX3_nearestPair (Nat.le_of_ble_eq_true rfl) ?_
  have lp : ∀ (j i : Nat), i + j = p → AW mX3_nearestPair 3 0 0 N none (aQx (some (.inl (npO c p p).1)) [A0, (moSeg 32 k f c n kp l nt w sh (p : Int) t d wa), B, A3, B4, A5, C6]) (8, [some (.inr 32), some (.inl ((npO c p i).1)), some (.inl ((npO c p i).2)), some (.inl (i : Int)), none], [], [A0, (moSeg 32 k f c n kp l nt w sh (p : Int) t d wa), B, A3, B4, A5, C6]) := by
    intro j
    induction j with
    | zero =>
      intro i  hij 
      obtain rfl : p = i := by omega
      refine aGo okX3_nearestPair 3 (f' := (13, [some (.inr 32), some (.inl ((npO c p p).1)), some (.inl ((npO c p p).2)), some (.inl (p : Int)), none], [.inl (p : Int), .inl (p : Int)], _)) rfl ?_
      refine b_ge (tgt := 69) okX3_nearestPair rfl rfl ⟨by omega, by omega⟩ ⟨by omega, by omega⟩ (fun h13 => ?_) (fun h13 => absurd h13 (by omega))
      refine aGo okX3_nearestPair 1 (f' := (70, [some (.inr 32), some (.inl ((npO c p p).1)), some (.inl ((npO c p p).2)), some (.inl (p : Int)), none], [.inl ((npO c p p).1)], _)) rfl ?_
      exact b_ret (v := (some (.inl ((npO c p p).1)))) ⟨rfl, Or.inl rfl⟩ ⟨rfl, rfl⟩ rfl
    | succ j ih =>
      intro i  hij 
      have lq : ∀ (j2 x : Nat), x + j2 = (p - (i + 1)) → AW mX3_nearestPair 3 0 0 N none (aQx (some (.inl (npO c p p).1)) [A0, (moSeg 32 k f c n kp l nt w sh (p : Int) t d wa), B, A3, B4, A5, C6]) (21, [some (.inr 32), some (.inl ((npI c i (npO c p i) x).1)), some (.inl ((npI c i (npO c p i) x).2)), some (.inl (i : Int)), some (.inl ((((i + 1) + x) : Nat) : Int))], [], [A0, (moSeg 32 k f c n kp l nt w sh (p : Int) t d wa), B, A3, B4, A5, C6]) := by
        intro j2
        induction j2 with
        | zero =>
          intro x  hij2 
          obtain rfl : (p - (i + 1)) = x := by omega
          refine aGo okX3_nearestPair 3 (f' := (27, [some (.inr 32), some (.inl ((npI c i (npO c p i) (p - (i + 1))).1)), some (.inl ((npI c i (npO c p i) (p - (i + 1))).2)), some (.inl (i : Int)), some (.inl ((((i + 1) + (p - (i + 1))) : Nat) : Int))], [.inl (p : Int), .inl ((((i + 1) + (p - (i + 1))) : Nat) : Int)], _)) rfl ?_
          refine b_ge (tgt := 63) okX3_nearestPair rfl rfl ⟨by omega, by omega⟩ ⟨by omega, by omega⟩ (fun h27 => ?_) (fun h27 => absurd h27 (by omega))
          refine aGo okX3_nearestPair 2 (f' := (8, [some (.inr 32), some (.inl ((npI c i (npO c p i) (p - (i + 1))).1)), some (.inl ((npI c i (npO c p i) (p - (i + 1))).2)), some (.inl ((i : Int) + 1)), some (.inl ((((i + 1) + (p - (i + 1))) : Nat) : Int))], [], _)) rfl ?_
          refine b_lose (ls' := [some (.inr 32), some (.inl ((npI c i (npO c p i) (p - (i + 1))).1)), some (.inl ((npI c i (npO c p i) (p - (i + 1))).2)), some (.inl ((i : Int) + 1)), none]) (lose4g _ _ _ _ _) ?_
          exact ih (i + 1) (by omega)
        | succ j2 ih2 =>
          intro x  hij2 
          have r0 := npOK_le (p := p) rc hp (npI_ok (p := p) (a := i) (npO_ok (c := c) (p := p) i (by omega)) x (by omega))
          have r2 := stp_le (rc i) (rc ((i + 1) + x))
          refine aGo okX3_nearestPair 3 (f' := (27, [some (.inr 32), some (.inl ((npI c i (npO c p i) x).1)), some (.inl ((npI c i (npO c p i) x).2)), some (.inl (i : Int)), some (.inl ((((i + 1) + x) : Nat) : Int))], [.inl (p : Int), .inl ((((i + 1) + x) : Nat) : Int)], _)) rfl ?_
          refine b_ge (tgt := 63) okX3_nearestPair rfl rfl ⟨by omega, by omega⟩ ⟨by omega, by omega⟩ (fun h27 => absurd h27 (by omega)) (fun h27 => ?_)
          refine aGo okX3_nearestPair 3 (f' := (34, [some (.inr 32), some (.inl ((npI c i (npO c p i) x).1)), some (.inl ((npI c i (npO c p i) x).2)), some (.inl (i : Int)), some (.inl ((((i + 1) + x) : Nat) : Int))], [.inl ((((i + 1) + x) : Nat) : Int), .inl (i : Int), .inr 32], _)) rfl ?_
          refine b_vV (as := [.inl (i : Int), .inl ((((i + 1) + x) : Nat) : Int)]) (rest := []) (k := 32) (.inl (stp (c.getD i 0) (c.getD ((i + 1) + x) 0))) okX3_nearestPair rfl lkX3_83 caX3_stepsOf (Nat.le_of_ble_eq_true rfl) rfl (Nat.le_of_ble_eq_true rfl) rfl rfl rfl (c_stepsOf_1 (i := i) (j := ((i + 1) + x)) (by first | omega | (simp only [List.length_set]; omega)) rc (by omega) (by omega)) ?_
          refine aGo okX3_nearestPair 1 (f' := (38, [some (.inr 32), some (.inl ((npI c i (npO c p i) x).1)), some (.inl ((npI c i (npO c p i) x).2)), some (.inl (i : Int)), some (.inl ((((i + 1) + x) : Nat) : Int))], [.inl ((npI c i (npO c p i) x).2), .inl (stp (c.getD i 0) (c.getD ((i + 1) + x) 0))], _)) rfl ?_
          refine b_ge (tgt := 57) okX3_nearestPair rfl rfl ⟨by omega, by omega⟩ ⟨by omega, by omega⟩ (fun h38 => ?_) (fun h38 => ?_)
          · refine aGo okX3_nearestPair 2 (f' := (21, [some (.inr 32), some (.inl ((npI c i (npO c p i) x).1)), some (.inl ((npI c i (npO c p i) x).2)), some (.inl (i : Int)), some (.inl (((((i + 1) + x) : Nat) : Int) + 1))], [], _)) rfl ?_
            refine b_cast (f' := (21, [some (.inr 32), some (.inl ((npI c i (npO c p i) (x + 1)).1)), some (.inl ((npI c i (npO c p i) (x + 1)).2)), some (.inl (i : Int)), some (.inl (((((i + 1) + x) : Nat) : Int) + 1))], [], [A0, (moSeg 32 k f c n kp l nt w sh (p : Int) t d wa), B, A3, B4, A5, C6])) (by simp only [npI_f h38]; first | done | rfl) ?_
            exact ih2 (x + 1) (by omega)
          · refine aGo okX3_nearestPair 3 (f' := (45, [some (.inr 32), some (.inl ((npI c i (npO c p i) x).1)), some (.inl ((npI c i (npO c p i) x).2)), some (.inl (i : Int)), some (.inl ((((i + 1) + x) : Nat) : Int))], [.inl ((((i + 1) + x) : Nat) : Int), .inl (i : Int), .inr 32], _)) rfl ?_
            refine b_vV (as := [.inl (i : Int), .inl ((((i + 1) + x) : Nat) : Int)]) (rest := []) (k := 32) (.inl (stp (c.getD i 0) (c.getD ((i + 1) + x) 0))) okX3_nearestPair rfl lkX3_83 caX3_stepsOf (Nat.le_of_ble_eq_true rfl) rfl (Nat.le_of_ble_eq_true rfl) rfl rfl rfl (c_stepsOf_1 (i := i) (j := ((i + 1) + x)) (by first | omega | (simp only [List.length_set]; omega)) rc (by omega) (by omega)) ?_
            refine aGo okX3_nearestPair 9 (f' := (21, [some (.inr 32), some (.inl ((10 * (i : Int)) + ((((i + 1) + x) : Nat) : Int))), some (.inl (stp (c.getD i 0) (c.getD ((i + 1) + x) 0))), some (.inl (i : Int)), some (.inl (((((i + 1) + x) : Nat) : Int) + 1))], [], _)) rfl ?_
            refine b_cast (f' := (21, [some (.inr 32), some (.inl ((npI c i (npO c p i) (x + 1)).1)), some (.inl ((npI c i (npO c p i) (x + 1)).2)), some (.inl (i : Int)), some (.inl (((((i + 1) + x) : Nat) : Int) + 1))], [], [A0, (moSeg 32 k f c n kp l nt w sh (p : Int) t d wa), B, A3, B4, A5, C6])) (by simp only [npI_t h38]; first | done | rfl) ?_
            exact ih2 (x + 1) (by omega)
      refine aGo okX3_nearestPair 3 (f' := (13, [some (.inr 32), some (.inl ((npO c p i).1)), some (.inl ((npO c p i).2)), some (.inl (i : Int)), none], [.inl (p : Int), .inl (i : Int)], _)) rfl ?_
      refine b_ge (tgt := 69) okX3_nearestPair rfl rfl ⟨by omega, by omega⟩ ⟨by omega, by omega⟩ (fun h13 => absurd h13 (by omega)) (fun h13 => ?_)
      refine aGo okX3_nearestPair 4 (f' := (21, [some (.inr 32), some (.inl ((npO c p i).1)), some (.inl ((npO c p i).2)), some (.inl (i : Int)), some (.inl ((i : Int) + 1))], [], _)) rfl ?_
      exact lq (p - (i + 1)) 0 (by omega)
  refine aGo okX3_nearestPair 6 (f' := (8, [some (.inr 32), some (.inl (-9)), some (.inl 11), some (.inl 0), none], [], _)) rfl ?_
  exact lp p 0 (by omega)
set_option maxRecDepth 100000 in
set_option maxHeartbeats 4000000 in
theorem c_leastSteps_1_f (hp : p ≤ 7) (hc : c.length = 7) (rc : rng c 35) (hz : (npO c p p).1 = -9) : aEv mX3_leastSteps 4 0 0 N [.inr 32] [A0, (moSeg 32 k f c n kp l nt w sh (p : Int) t d wa), B, A3, B4, A5, C6] ((aQx (some (.inl (-9))) [A0, (moSeg 32 k f c n kp l nt w sh (p : Int) t d wa), B, A3, B4, A5, C6])) := by
  refine aEv_of okX3_leastSteps caX3_leastSteps (Nat.le_of_ble_eq_true rfl) ?_
  have hz2 : -9 ≤ (npO c p p).1 := by omega
  refine aGo okX3_leastSteps 1 (f' := (1, [some (.inr 32), none], [.inr 32], _)) rfl ?_
  refine b_vV (as := []) (rest := []) (k := 32) (.inl ((npO c p p).1)) okX3_leastSteps rfl lkX3_91 caX3_nearestPair (Nat.le_of_ble_eq_true rfl) rfl (Nat.le_of_ble_eq_true rfl) rfl rfl rfl (c_nearestPair_1 hp hc rc) ?_
  refine aGo okX3_leastSteps 3 (f' := (8, [some (.inr 32), some (.inl ((npO c p p).1))], [.inl (-9), .inl ((npO c p p).1)], _)) rfl ?_
  refine b_ne (tgt := 16) okX3_leastSteps rfl rfl ⟨by omega, by omega⟩ ⟨by omega, by omega⟩ (fun h8 => absurd h8 (by omega)) (fun h8 => ?_)
  refine aGo okX3_leastSteps 2 (f' := (28, [some (.inr 32), some (.inl ((npO c p p).1))], [.inl (-9)], _)) rfl ?_
  exact b_ret (v := (some (.inl (-9)))) ⟨rfl, Or.inl rfl⟩ ⟨rfl, rfl⟩ rfl
set_option maxRecDepth 100000 in
set_option maxHeartbeats 4000000 in
theorem c_leastSteps_1_t (hp : p ≤ 7) (hc : c.length = 7) (rc : rng c 35) {a b : Nat} (ha : a < 10) (hb : b < 10) (hz : (npO c p p).1 = 10 * (a : Int) + (b : Int)) : aEv mX3_leastSteps 4 0 0 N [.inr 32] [A0, (moSeg 32 k f c n kp l nt w sh (p : Int) t d wa), B, A3, B4, A5, C6] ((aQx (some (.inl (stp (c.getD a 0) (c.getD b 0)))) [A0, (moSeg 32 k f c n kp l nt w sh (p : Int) t d wa), B, A3, B4, A5, C6])) := by
  refine aEv_of okX3_leastSteps caX3_leastSteps (Nat.le_of_ble_eq_true rfl) ?_
  refine aGo okX3_leastSteps 1 (f' := (1, [some (.inr 32), none], [.inr 32], _)) rfl ?_
  refine b_vV (as := []) (rest := []) (k := 32) (.inl ((npO c p p).1)) okX3_leastSteps rfl lkX3_91 caX3_nearestPair (Nat.le_of_ble_eq_true rfl) rfl (Nat.le_of_ble_eq_true rfl) rfl rfl rfl (c_nearestPair_1 hp hc rc) ?_
  refine aGo okX3_leastSteps 1 (f' := (5, [some (.inr 32), some (.inl ((npO c p p).1))], [], _)) rfl ?_
  refine b_cast (f' := (5, [some (.inr 32), some (.inl ((10 * (a : Int)) + (b : Int)))], [], [A0, (moSeg 32 k f c n kp l nt w sh (p : Int) t d wa), B, A3, B4, A5, C6])) (by rw [hz]) ?_
  refine aGo okX3_leastSteps 2 (f' := (8, [some (.inr 32), some (.inl ((10 * (a : Int)) + (b : Int)))], [.inl (-9), .inl ((10 * (a : Int)) + (b : Int))], _)) rfl ?_
  refine b_ne (tgt := 16) okX3_leastSteps rfl rfl ⟨by omega, by omega⟩ ⟨by omega, by omega⟩ (fun h8 => ?_) (fun h8 => absurd h8 (by omega))
  refine aGo okX3_leastSteps 3 (f' := (20, [some (.inr 32), some (.inl ((10 * (a : Int)) + (b : Int)))], [.inl 10, .inl ((10 * (a : Int)) + (b : Int)), .inr 32], _)) rfl ?_
  refine b_div okX3_leastSteps rfl ⟨by omega, by omega⟩ ⟨by omega, by omega⟩ ?_
  refine b_cast (f' := (21, [some (.inr 32), some (.inl ((10 * (a : Int)) + (b : Int)))], [.inl (a : Int), .inr 32], [A0, (moSeg 32 k f c n kp l nt w sh (p : Int) t d wa), B, A3, B4, A5, C6])) (by rw [show (10 * (a : Int) + (b : Int)) / 10 = (a : Int) by omega]) ?_
  refine aGo okX3_leastSteps 2 (f' := (24, [some (.inr 32), some (.inl ((10 * (a : Int)) + (b : Int)))], [.inl 10, .inl ((10 * (a : Int)) + (b : Int)), .inl (a : Int), .inr 32], _)) rfl ?_
  refine b_rem okX3_leastSteps rfl ⟨by omega, by omega⟩ ⟨by omega, by omega⟩ ?_
  refine b_cast (f' := (25, [some (.inr 32), some (.inl ((10 * (a : Int)) + (b : Int)))], [.inl (b : Int), .inl (a : Int), .inr 32], [A0, (moSeg 32 k f c n kp l nt w sh (p : Int) t d wa), B, A3, B4, A5, C6])) (by rw [show (10 * (a : Int) + (b : Int)) % 10 = (b : Int) by omega]) ?_
  refine b_vV (as := [.inl (a : Int), .inl (b : Int)]) (rest := []) (k := 32) (.inl (stp (c.getD a 0) (c.getD b 0))) okX3_leastSteps rfl lkX3_83 caX3_stepsOf (Nat.le_of_ble_eq_true rfl) rfl (Nat.le_of_ble_eq_true rfl) rfl rfl rfl (c_stepsOf_1 (i := a) (j := b) (by first | omega | (simp only [List.length_set]; omega)) rc (by omega) (by omega)) ?_
  exact b_ret (v := (some (.inl (stp (c.getD a 0) (c.getD b 0))))) ⟨rfl, Or.inl rfl⟩ ⟨rfl, rfl⟩ rfl
set_option maxRecDepth 100000 in
set_option maxHeartbeats 4000000 in
theorem c_setTotal_2 (hb : wH p k f c w sh t) (hwo : wOK p k f c w wa) {v : Int} (hv0 : 0 ≤ v) (hv1 : v ≤ 999) : aEv mX3_setTotal 2 0 0 N [.inr 64, .inl v] [A0, B, (moSeg 64 k f c n kp l nt w sh (p : Int) t d wa), A3, B4, A5, C6] ((fun rv h => rv = none ∧ ∃ sh2 : List Int, sOK p k f c sh2 v ∧ h = [A0, B, (moSeg 64 k f c n kp l nt w sh2 (p : Int) v d wa), A3, B4, A5, C6])) := by
  obtain ⟨hp7, hk, hf, hc, hw, hsh, rk, rf, rc, ht0, ht1⟩ := hb
  refine aEv_of okX3_setTotal caX3_setTotal (Nat.le_of_ble_eq_true rfl) ?_
  refine aGo okX3_setTotal 4 (f' := (6, [some (.inr 64), some (.inl v)], [.inr 64], [A0, B, (moSeg 64 k f c n kp l nt w sh (p : Int) v d wa), A3, B4, A5, C6])) rfl ?_
  refine b_vE (as := []) (rest := []) (k := 64) okX3_setTotal rfl lkX3_95 caX3_shareOut (Nat.le_of_ble_eq_true rfl) rfl (Nat.le_of_ble_eq_true rfl) rfl rfl rfl (c_shareOut_2 (W := wt p k f c) hp7 hsh hw ⟨hv0, hv1⟩ hwo.2.1 (fun q hq => wt_le hp7 rf rc q) hwo.2.2) ?_
  rintro _ _ ⟨rfl, sh2, z1, z2, rfl⟩
  exact b_ret (v := none) ⟨rfl, rfl⟩ ⟨rfl, sh2, ⟨z1, z2⟩, rfl⟩ rfl
set_option maxRecDepth 100000 in
set_option maxHeartbeats 4000000 in
theorem c_setLent_2 (hp : p ≤ 7) (hnt : nt.length = 7) (hl : l.length = 49) {i j : Nat} (hi : i < 7) (hj : j < 7) (v : Int) : aEv mX3_setLent 3 0 0 N [.inr 64, .inl (i : Int), .inl (j : Int), .inl v] [A0, B, (moSeg 64 k f c n kp l nt w sh (p : Int) t d wa), A3, B4, A5, C6] ((fun rv h => rv = none ∧ ∃ nt2 : List Int, nOK p (l.set (7 * i + j) v) nt2 ∧ h = [A0, B, (moSeg 64 k f c n kp (l.set (7 * i + j) v) nt2 w sh (p : Int) t d wa), A3, B4, A5, C6])) := by
  refine aEv_of okX3_setLent caX3_setLent (Nat.le_of_ble_eq_true rfl) ?_
  refine aGo okX3_setLent 4 (f' := (4, [some (.inr 64), some (.inl (i : Int)), some (.inl (j : Int)), some (.inl v)], [.inl v, .inl (j : Int), .inl (i : Int), .inr 64], _)) rfl ?_
  refine b_vN (as := [.inl (i : Int), .inl (j : Int), .inl v]) (rest := []) (k := 64) okX3_setLent rfl lkX3_102 caX3_putLent (Nat.le_of_ble_eq_true rfl) rfl (Nat.le_of_ble_eq_true rfl) rfl rfl rfl (c_putLent_2 (i := i) (j := j) (by first | omega | (simp only [List.length_set]; omega)) (by omega) (by omega) v) ?_
  refine b_cast (f' := (7, [some (.inr 64), some (.inl (i : Int)), some (.inl (j : Int)), some (.inl v)], [], [A0, B, (moSeg 64 k f c n kp (l.set (7 * i + j) v) nt w sh (p : Int) t d wa), A3, B4, A5, C6])) rfl ?_
  refine aGo okX3_setLent 1 (f' := (8, [some (.inr 64), some (.inl (i : Int)), some (.inl (j : Int)), some (.inl v)], [.inr 64], _)) rfl ?_
  refine b_vE (as := []) (rest := []) (k := 64) okX3_setLent rfl lkX3_106 caX3_netLoans (Nat.le_of_ble_eq_true rfl) rfl (Nat.le_of_ble_eq_true rfl) rfl rfl rfl (c_netLoans_2 (p := p) hp hnt (by rw [List.length_set]; exact hl)) ?_
  rintro _ _ ⟨rfl, nt2, zn, rfl⟩
  exact b_ret (v := none) ⟨rfl, rfl⟩ ⟨rfl, nt2, zn, rfl⟩ rfl
set_option maxRecDepth 100000 in
set_option maxHeartbeats 4000000 in
theorem c_setKind_2 (hb : wH p k f c w sh t) {i : Nat} (hi : i < 7) {v : Int} (hv0 : 0 ≤ v) (hv1 : v ≤ 5) : aEv mX3_setKind 4 0 0 N [.inr 64, .inl (i : Int), .inl v] [A0, B, (moSeg 64 k f c n kp l nt w sh (p : Int) t d wa), A3, B4, A5, C6] ((fun rv h => rv = none ∧ ∃ w2 sh2 : List Int, wOK p (k.set i v) f c w2 (wAll p (k.set i v) f c) ∧ sOK p (k.set i v) f c sh2 t ∧ h = [A0, B, (moSeg 64 (k.set i v) f c n kp l nt w2 sh2 (p : Int) t d (wAll p (k.set i v) f c)), A3, B4, A5, C6])) := by
  obtain ⟨hp7, hk, hf, hc, hw, hsh, rk, rf, rc, ht0, ht1⟩ := hb
  refine aEv_of okX3_setKind caX3_setKind (Nat.le_of_ble_eq_true rfl) ?_
  refine aGo okX3_setKind 4 (f' := (6, [some (.inr 64), some (.inl (i : Int)), some (.inl v)], [.inl v, .inl (i : Int), .inr 65], _)) rfl ?_
  refine b_vN (as := [.inl (i : Int), .inl v]) (rest := []) (k := 65) okX3_setKind rfl lkX3_98 caX4_put (Nat.le_of_ble_eq_true rfl) rfl (Nat.le_of_ble_eq_true rfl) rfl rfl rfl (c_put (i := i) rfl rfl (by first | omega | (simp only [List.length_set]; omega)) (by first | omega | (simp only [List.length_set]; omega)) v) ?_
  refine b_cast (f' := (9, [some (.inr 64), some (.inl (i : Int)), some (.inl v)], [], [A0, B, (moSeg 64 (k.set i v) f c n kp l nt w sh (p : Int) t d wa), A3, B4, A5, C6])) rfl ?_
  refine aGo okX3_setKind 1 (f' := (10, [some (.inr 64), some (.inl (i : Int)), some (.inl v)], [.inr 64], _)) rfl ?_
  refine b_vE (as := []) (rest := []) (k := 64) okX3_setKind rfl lkX3_109 caX3_weigh (Nat.le_of_ble_eq_true rfl) rfl (Nat.le_of_ble_eq_true rfl) rfl rfl rfl (c_weigh_2 (p := p) ⟨hp7, (by rw [List.length_set]; exact hk), hf, hc, hw, hsh, (rng_set rk hv0 hv1), rf, rc, ht0, ht1⟩) ?_
  rintro _ _ ⟨rfl, w2, sh2, zw, zs, rfl⟩
  exact b_ret (v := none) ⟨rfl, rfl⟩ ⟨rfl, w2, sh2, zw, zs, rfl⟩ rfl
set_option maxRecDepth 100000 in
set_option maxHeartbeats 4000000 in
theorem c_setFigure_2 (hb : wH p k f c w sh t) {i : Nat} (hi : i < 7) {v : Int} (hv0 : 0 ≤ v) (hv1 : v ≤ 9) : aEv mX3_setFigure 4 0 0 N [.inr 64, .inl (i : Int), .inl v] [A0, B, (moSeg 64 k f c n kp l nt w sh (p : Int) t d wa), A3, B4, A5, C6] ((fun rv h => rv = none ∧ ∃ w2 sh2 : List Int, wOK p k (f.set i v) c w2 (wAll p k (f.set i v) c) ∧ sOK p k (f.set i v) c sh2 t ∧ h = [A0, B, (moSeg 64 k (f.set i v) c n kp l nt w2 sh2 (p : Int) t d (wAll p k (f.set i v) c)), A3, B4, A5, C6])) := by
  obtain ⟨hp7, hk, hf, hc, hw, hsh, rk, rf, rc, ht0, ht1⟩ := hb
  refine aEv_of okX3_setFigure caX3_setFigure (Nat.le_of_ble_eq_true rfl) ?_
  refine aGo okX3_setFigure 4 (f' := (6, [some (.inr 64), some (.inl (i : Int)), some (.inl v)], [.inl v, .inl (i : Int), .inr 67], _)) rfl ?_
  refine b_vN (as := [.inl (i : Int), .inl v]) (rest := []) (k := 67) okX3_setFigure rfl lkX3_98 caX4_put (Nat.le_of_ble_eq_true rfl) rfl (Nat.le_of_ble_eq_true rfl) rfl rfl rfl (c_put (i := i) rfl rfl (by first | omega | (simp only [List.length_set]; omega)) (by first | omega | (simp only [List.length_set]; omega)) v) ?_
  refine b_cast (f' := (9, [some (.inr 64), some (.inl (i : Int)), some (.inl v)], [], [A0, B, (moSeg 64 k (f.set i v) c n kp l nt w sh (p : Int) t d wa), A3, B4, A5, C6])) rfl ?_
  refine aGo okX3_setFigure 1 (f' := (10, [some (.inr 64), some (.inl (i : Int)), some (.inl v)], [.inr 64], _)) rfl ?_
  refine b_vE (as := []) (rest := []) (k := 64) okX3_setFigure rfl lkX3_109 caX3_weigh (Nat.le_of_ble_eq_true rfl) rfl (Nat.le_of_ble_eq_true rfl) rfl rfl rfl (c_weigh_2 (p := p) ⟨hp7, hk, (by rw [List.length_set]; exact hf), hc, hw, hsh, rk, (rng_set rf hv0 hv1), rc, ht0, ht1⟩) ?_
  rintro _ _ ⟨rfl, w2, sh2, zw, zs, rfl⟩
  exact b_ret (v := none) ⟨rfl, rfl⟩ ⟨rfl, w2, sh2, zw, zs, rfl⟩ rfl
set_option maxRecDepth 100000 in
set_option maxHeartbeats 4000000 in
theorem c_place_2 (hb : wH p k f c w sh t) {i : Nat} (hi : i < 7) {v : Int} (hv0 : 0 ≤ v) (hv1 : v ≤ 35) : aEv mX3_place 4 0 0 N [.inr 64, .inl (i : Int), .inl v] [A0, B, (moSeg 64 k f c n kp l nt w sh (p : Int) t d wa), A3, B4, A5, C6] ((fun rv h => rv = none ∧ ∃ w2 sh2 : List Int, wOK p k f (c.set i v) w2 (wAll p k f (c.set i v)) ∧ sOK p k f (c.set i v) sh2 t ∧ h = [A0, B, (moSeg 64 k f (c.set i v) n kp l nt w2 sh2 (p : Int) t d (wAll p k f (c.set i v))), A3, B4, A5, C6])) := by
  obtain ⟨hp7, hk, hf, hc, hw, hsh, rk, rf, rc, ht0, ht1⟩ := hb
  refine aEv_of okX3_place caX3_place (Nat.le_of_ble_eq_true rfl) ?_
  refine aGo okX3_place 4 (f' := (6, [some (.inr 64), some (.inl (i : Int)), some (.inl v)], [.inl v, .inl (i : Int), .inr 69], _)) rfl ?_
  refine b_vN (as := [.inl (i : Int), .inl v]) (rest := []) (k := 69) okX3_place rfl lkX3_98 caX4_put (Nat.le_of_ble_eq_true rfl) rfl (Nat.le_of_ble_eq_true rfl) rfl rfl rfl (c_put (i := i) rfl rfl (by first | omega | (simp only [List.length_set]; omega)) (by first | omega | (simp only [List.length_set]; omega)) v) ?_
  refine b_cast (f' := (9, [some (.inr 64), some (.inl (i : Int)), some (.inl v)], [], [A0, B, (moSeg 64 k f (c.set i v) n kp l nt w sh (p : Int) t d wa), A3, B4, A5, C6])) rfl ?_
  refine aGo okX3_place 1 (f' := (10, [some (.inr 64), some (.inl (i : Int)), some (.inl v)], [.inr 64], _)) rfl ?_
  refine b_vE (as := []) (rest := []) (k := 64) okX3_place rfl lkX3_109 caX3_weigh (Nat.le_of_ble_eq_true rfl) rfl (Nat.le_of_ble_eq_true rfl) rfl rfl rfl (c_weigh_2 (p := p) ⟨hp7, hk, hf, (by rw [List.length_set]; exact hc), hw, hsh, rk, rf, (rng_set rc hv0 hv1), ht0, ht1⟩) ?_
  rintro _ _ ⟨rfl, w2, sh2, zw, zs, rfl⟩
  exact b_ret (v := none) ⟨rfl, rfl⟩ ⟨rfl, w2, sh2, zw, zs, rfl⟩ rfl
set_option maxRecDepth 100000 in
set_option maxHeartbeats 4000000 in
theorem c_add_2 (hb : wH p k f c w sh t) (hp6 : p ≤ 6) (hn : n.length = 7) (hkp : kp.length = 7) (hl : l.length = 49) (hnt : nt.length = 7) {x1 x2 x3 x4 : Int} (g1 : 0 ≤ x1 ∧ x1 ≤ 5) (g2 : 0 ≤ x2 ∧ x2 ≤ 9) (g3 : 0 ≤ x3 ∧ x3 ≤ 35) : aEv mX3_add 4 0 0 N [.inr 64, .inl x1, .inl x2, .inl x3, .inl x4] [A0, B, (moSeg 64 k f c n kp l nt w sh (p : Int) t d wa), A3, B4, A5, C6] ((fun rv h => rv = none ∧ ∃ nt2 w2 sh2 : List Int, nOK (p + 1) (addL p l 7) nt2 ∧ wOK (p + 1) (k.set p x1) (f.set p x2) (c.set p x3) w2 (wAll (p + 1) (k.set p x1) (f.set p x2) (c.set p x3)) ∧ sOK (p + 1) (k.set p x1) (f.set p x2) (c.set p x3) sh2 t ∧ h = [A0, B, (moSeg 64 (k.set p x1) (f.set p x2) (c.set p x3) (n.set p x4) (kp.set p 0) (addL p l 7) nt2 w2 sh2 (((p + 1) : Nat) : Int) t d (wAll (p + 1) (k.set p x1) (f.set p x2) (c.set p x3))), A3, B4, A5, C6])) := by
  obtain ⟨hp7, hk, hf, hc, hw, hsh, rk, rf, rc, ht0, ht1⟩ := hb
  refine aEv_of okX3_add caX3_add (Nat.le_of_ble_eq_true rfl) ?_
  have lp : ∀ (j i : Nat), i + j = 7 → AW mX3_add 4 0 0 N none (fun rv h => rv = none ∧ ∃ nt2 w2 sh2 : List Int, nOK (p + 1) (addL p l 7) nt2 ∧ wOK (p + 1) (k.set p x1) (f.set p x2) (c.set p x3) w2 (wAll (p + 1) (k.set p x1) (f.set p x2) (c.set p x3)) ∧ sOK (p + 1) (k.set p x1) (f.set p x2) (c.set p x3) sh2 t ∧ h = [A0, B, (moSeg 64 (k.set p x1) (f.set p x2) (c.set p x3) (n.set p x4) (kp.set p 0) (addL p l 7) nt2 w2 sh2 (((p + 1) : Nat) : Int) t d (wAll (p + 1) (k.set p x1) (f.set p x2) (c.set p x3))), A3, B4, A5, C6]) (74, [some (.inr 64), some (.inl x1), some (.inl x2), some (.inl x3), some (.inl x4), some (.inl (i : Int))], [], [A0, B, (moSeg 64 (k.set p x1) (f.set p x2) (c.set p x3) (n.set p x4) (kp.set p 0) (addL p l i) nt w sh (p : Int) t d wa), A3, B4, A5, C6]) := by
    intro j
    induction j with
    | zero =>
      intro i  hij 
      obtain rfl : 7 = i := by omega
      refine aGo okX3_add 2 (f' := (78, [some (.inr 64), some (.inl x1), some (.inl x2), some (.inl x3), some (.inl x4), some (.inl (7 : Int))], [.inl 7, .inl (7 : Int)], _)) rfl ?_
      refine b_ge (tgt := 109) okX3_add rfl rfl ⟨by omega, by omega⟩ ⟨by omega, by omega⟩ (fun h78 => ?_) (fun h78 => absurd h78 (by omega))
      refine aGo okX3_add 6 (f' := (119, [some (.inr 64), some (.inl x1), some (.inl x2), some (.inl x3), some (.inl x4), some (.inl (7 : Int))], [], [A0, B, (moSeg 64 (k.set p x1) (f.set p x2) (c.set p x3) (n.set p x4) (kp.set p 0) (addL p l 7) nt w sh ((p : Int) + 1) t d wa), A3, B4, A5, C6])) rfl ?_
      refine b_cast (f' := (119, [some (.inr 64), some (.inl x1), some (.inl x2), some (.inl x3), some (.inl x4), some (.inl (7 : Int))], [], [A0, B, (moSeg 64 (k.set p x1) (f.set p x2) (c.set p x3) (n.set p x4) (kp.set p 0) (addL p l 7) nt w sh (((p + 1) : Nat) : Int) t d wa), A3, B4, A5, C6])) (rfl) ?_
      refine aGo okX3_add 1 (f' := (120, [some (.inr 64), some (.inl x1), some (.inl x2), some (.inl x3), some (.inl x4), some (.inl (7 : Int))], [.inr 64], _)) rfl ?_
      refine b_vE (as := []) (rest := []) (k := 64) okX3_add rfl lkX3_106 caX3_netLoans (Nat.le_of_ble_eq_true rfl) rfl (Nat.le_of_ble_eq_true rfl) rfl rfl rfl (c_netLoans_2 (p := (p + 1)) (by omega) hnt (by rw [addL_len]; exact hl)) ?_
      rintro _ _ ⟨rfl, nt2, zn, rfl⟩
      refine aGo okX3_add 1 (f' := (124, [some (.inr 64), some (.inl x1), some (.inl x2), some (.inl x3), some (.inl x4), some (.inl (7 : Int))], [.inr 64], _)) rfl ?_
      refine b_vE (as := []) (rest := []) (k := 64) okX3_add rfl lkX3_109 caX3_weigh (Nat.le_of_ble_eq_true rfl) rfl (Nat.le_of_ble_eq_true rfl) rfl rfl rfl (c_weigh_2 (p := (p + 1)) ⟨by omega, by rw [List.length_set]; exact hk, by rw [List.length_set]; exact hf, by rw [List.length_set]; exact hc, hw, hsh, rng_set rk g1.1 g1.2, rng_set rf g2.1 g2.2, rng_set rc g3.1 g3.2, ht0, ht1⟩) ?_
      rintro _ _ ⟨rfl, w2, sh2, zw, zs, rfl⟩
      exact b_ret (v := none) ⟨rfl, rfl⟩ ⟨rfl, nt2, w2, sh2, zn, zw, zs, rfl⟩ rfl
    | succ j ih =>
      intro i  hij 
      have e0 : (addL p l i).length = 49 := by rw [addL_len]; exact hl
      refine aGo okX3_add 2 (f' := (78, [some (.inr 64), some (.inl x1), some (.inl x2), some (.inl x3), some (.inl x4), some (.inl (i : Int))], [.inl 7, .inl (i : Int)], _)) rfl ?_
      refine b_ge (tgt := 109) okX3_add rfl rfl ⟨by omega, by omega⟩ ⟨by omega, by omega⟩ (fun h78 => absurd h78 (by omega)) (fun h78 => ?_)
      refine aGo okX3_add 5 (f' := (89, [some (.inr 64), some (.inl x1), some (.inl x2), some (.inl x3), some (.inl x4), some (.inl (i : Int))], [.inl 0, .inl (i : Int), .inl (p : Int), .inr 64], _)) rfl ?_
      refine b_vN (as := [.inl (p : Int), .inl (i : Int), .inl 0]) (rest := []) (k := 64) okX3_add rfl lkX3_102 caX3_putLent (Nat.le_of_ble_eq_true rfl) rfl (Nat.le_of_ble_eq_true rfl) rfl rfl rfl (c_putLent_2 (i := p) (j := i) (by first | omega | (simp only [List.length_set]; omega)) (by omega) (by omega) 0) ?_
      refine b_cast (f' := (92, [some (.inr 64), some (.inl x1), some (.inl x2), some (.inl x3), some (.inl x4), some (.inl (i : Int))], [], [A0, B, (moSeg 64 (k.set p x1) (f.set p x2) (c.set p x3) (n.set p x4) (kp.set p 0) ((addL p l i).set (7 * p + i) 0) nt w sh (p : Int) t d wa), A3, B4, A5, C6])) rfl ?_
      refine aGo okX3_add 5 (f' := (100, [some (.inr 64), some (.inl x1), some (.inl x2), some (.inl x3), some (.inl x4), some (.inl (i : Int))], [.inl 0, .inl (p : Int), .inl (i : Int), .inr 64], _)) rfl ?_
      refine b_vN (as := [.inl (i : Int), .inl (p : Int), .inl 0]) (rest := []) (k := 64) okX3_add rfl lkX3_102 caX3_putLent (Nat.le_of_ble_eq_true rfl) rfl (Nat.le_of_ble_eq_true rfl) rfl rfl rfl (c_putLent_2 (i := i) (j := p) (by first | omega | (simp only [List.length_set]; omega)) (by omega) (by omega) 0) ?_
      refine b_cast (f' := (103, [some (.inr 64), some (.inl x1), some (.inl x2), some (.inl x3), some (.inl x4), some (.inl (i : Int))], [], [A0, B, (moSeg 64 (k.set p x1) (f.set p x2) (c.set p x3) (n.set p x4) (kp.set p 0) (((addL p l i).set (7 * p + i) 0).set (7 * i + p) 0) nt w sh (p : Int) t d wa), A3, B4, A5, C6])) rfl ?_
      refine aGo okX3_add 2 (f' := (74, [some (.inr 64), some (.inl x1), some (.inl x2), some (.inl x3), some (.inl x4), some (.inl ((i : Int) + 1))], [], _)) rfl ?_
      exact ih (i + 1) (by omega)
  refine aGo okX3_add 3 (f' := (6, [some (.inr 64), some (.inl x1), some (.inl x2), some (.inl x3), some (.inl x4), none], [.inl 7, .inl (p : Int)], _)) rfl ?_
  refine b_lt (tgt := 10) okX3_add rfl rfl ⟨by omega, by omega⟩ ⟨by omega, by omega⟩ (fun h6 => ?_) (fun h6 => absurd h6 (by omega))
  refine aGo okX3_add 5 (f' := (19, [some (.inr 64), some (.inl x1), some (.inl x2), some (.inl x3), some (.inl x4), none], [.inl x1, .inl (p : Int), .inr 65], _)) rfl ?_
  refine b_vN (as := [.inl (p : Int), .inl x1]) (rest := []) (k := 65) okX3_add rfl lkX3_98 caX4_put (Nat.le_of_ble_eq_true rfl) rfl (Nat.le_of_ble_eq_true rfl) rfl rfl rfl (c_put (i := p) rfl rfl (by first | omega | (simp only [List.length_set]; omega)) (by first | omega | (simp only [List.length_set]; omega)) x1) ?_
  refine b_cast (f' := (22, [some (.inr 64), some (.inl x1), some (.inl x2), some (.inl x3), some (.inl x4), none], [], [A0, B, (moSeg 64 (k.set p x1) f c n kp l nt w sh (p : Int) t d wa), A3, B4, A5, C6])) rfl ?_
  refine aGo okX3_add 5 (f' := (31, [some (.inr 64), some (.inl x1), some (.inl x2), some (.inl x3), some (.inl x4), none], [.inl x2, .inl (p : Int), .inr 67], _)) rfl ?_
  refine b_vN (as := [.inl (p : Int), .inl x2]) (rest := []) (k := 67) okX3_add rfl lkX3_98 caX4_put (Nat.le_of_ble_eq_true rfl) rfl (Nat.le_of_ble_eq_true rfl) rfl rfl rfl (c_put (i := p) rfl rfl (by first | omega | (simp only [List.length_set]; omega)) (by first | omega | (simp only [List.length_set]; omega)) x2) ?_
  refine b_cast (f' := (34, [some (.inr 64), some (.inl x1), some (.inl x2), some (.inl x3), some (.inl x4), none], [], [A0, B, (moSeg 64 (k.set p x1) (f.set p x2) c n kp l nt w sh (p : Int) t d wa), A3, B4, A5, C6])) rfl ?_
  refine aGo okX3_add 5 (f' := (43, [some (.inr 64), some (.inl x1), some (.inl x2), some (.inl x3), some (.inl x4), none], [.inl x3, .inl (p : Int), .inr 69], _)) rfl ?_
  refine b_vN (as := [.inl (p : Int), .inl x3]) (rest := []) (k := 69) okX3_add rfl lkX3_98 caX4_put (Nat.le_of_ble_eq_true rfl) rfl (Nat.le_of_ble_eq_true rfl) rfl rfl rfl (c_put (i := p) rfl rfl (by first | omega | (simp only [List.length_set]; omega)) (by first | omega | (simp only [List.length_set]; omega)) x3) ?_
  refine b_cast (f' := (46, [some (.inr 64), some (.inl x1), some (.inl x2), some (.inl x3), some (.inl x4), none], [], [A0, B, (moSeg 64 (k.set p x1) (f.set p x2) (c.set p x3) n kp l nt w sh (p : Int) t d wa), A3, B4, A5, C6])) rfl ?_
  refine aGo okX3_add 5 (f' := (56, [some (.inr 64), some (.inl x1), some (.inl x2), some (.inl x3), some (.inl x4), none], [.inl x4, .inl (p : Int), .inr 71], _)) rfl ?_
  refine b_vN (as := [.inl (p : Int), .inl x4]) (rest := []) (k := 71) okX3_add rfl lkX3_98 caX4_put (Nat.le_of_ble_eq_true rfl) rfl (Nat.le_of_ble_eq_true rfl) rfl rfl rfl (c_put (i := p) rfl rfl (by first | omega | (simp only [List.length_set]; omega)) (by first | omega | (simp only [List.length_set]; omega)) x4) ?_
  refine b_cast (f' := (59, [some (.inr 64), some (.inl x1), some (.inl x2), some (.inl x3), some (.inl x4), none], [], [A0, B, (moSeg 64 (k.set p x1) (f.set p x2) (c.set p x3) (n.set p x4) kp l nt w sh (p : Int) t d wa), A3, B4, A5, C6])) rfl ?_
  refine aGo okX3_add 5 (f' := (68, [some (.inr 64), some (.inl x1), some (.inl x2), some (.inl x3), some (.inl x4), none], [.inl 0, .inl (p : Int), .inr 73], _)) rfl ?_
  refine b_vN (as := [.inl (p : Int), .inl 0]) (rest := []) (k := 73) okX3_add rfl lkX3_98 caX4_put (Nat.le_of_ble_eq_true rfl) rfl (Nat.le_of_ble_eq_true rfl) rfl rfl rfl (c_put (i := p) rfl rfl (by first | omega | (simp only [List.length_set]; omega)) (by first | omega | (simp only [List.length_set]; omega)) 0) ?_
  refine b_cast (f' := (71, [some (.inr 64), some (.inl x1), some (.inl x2), some (.inl x3), some (.inl x4), none], [], [A0, B, (moSeg 64 (k.set p x1) (f.set p x2) (c.set p x3) (n.set p x4) (kp.set p 0) l nt w sh (p : Int) t d wa), A3, B4, A5, C6])) rfl ?_
  refine aGo okX3_add 2 (f' := (74, [some (.inr 64), some (.inl x1), some (.inl x2), some (.inl x3), some (.inl x4), some (.inl 0)], [], _)) rfl ?_
  exact lp 7 0 (by omega)
set_option maxRecDepth 100000 in
set_option maxHeartbeats 4000000 in
theorem c_remove_2 (hb : wH (p + 1) k f c w sh t) {g : Nat} (hg : g ≤ p) (hn : n.length = 7) (hkp : kp.length = 7) (hl : l.length = 49) (hnt : nt.length = 7) : aEv mX3_remove 4 0 0 N [.inr 64, .inl (g : Int)] [A0, B, (moSeg 64 k f c n kp l nt w sh (((p + 1) : Nat) : Int) t d wa), A3, B4, A5, C6] ((fun rv h => rv = none ∧ ∃ nt2 w2 sh2 : List Int, nOK p (colsL g (p + 1) (rowsL g (p + 1) l (p - g)) (p - g)) nt2 ∧ wOK p (shL g k (p - g)) (shL g f (p - g)) (shL g c (p - g)) w2 (wAll p (shL g k (p - g)) (shL g f (p - g)) (shL g c (p - g))) ∧ sOK p (shL g k (p - g)) (shL g f (p - g)) (shL g c (p - g)) sh2 t ∧ h = [A0, B, (moSeg 64 (shL g k (p - g)) (shL g f (p - g)) (shL g c (p - g)) (shL g n (p - g)) (shL g kp (p - g)) (colsL g (p + 1) (rowsL g (p + 1) l (p - g)) (p - g)) nt2 w2 sh2 (p : Int) t d (wAll p (shL g k (p - g)) (shL g f (p - g)) (shL g c (p - g)))), A3, B4, A5, C6])) := by
  obtain ⟨hp7, hk, hf, hc, hw, hsh, rk, rf, rc, ht0, ht1⟩ := hb
  refine aEv_of okX3_remove caX3_remove (Nat.le_of_ble_eq_true rfl) ?_
  have l2 : ∀ (j i : Nat), i + j = (p - g) → AW mX3_remove 4 0 0 N none (fun rv h => rv = none ∧ ∃ nt2 w2 sh2 : List Int, nOK p (colsL g (p + 1) (rowsL g (p + 1) l (p - g)) (p - g)) nt2 ∧ wOK p (shL g k (p - g)) (shL g f (p - g)) (shL g c (p - g)) w2 (wAll p (shL g k (p - g)) (shL g f (p - g)) (shL g c (p - g))) ∧ sOK p (shL g k (p - g)) (shL g f (p - g)) (shL g c (p - g)) sh2 t ∧ h = [A0, B, (moSeg 64 (shL g k (p - g)) (shL g f (p - g)) (shL g c (p - g)) (shL g n (p - g)) (shL g kp (p - g)) (colsL g (p + 1) (rowsL g (p + 1) l (p - g)) (p - g)) nt2 w2 sh2 (p : Int) t d (wAll p (shL g k (p - g)) (shL g f (p - g)) (shL g c (p - g)))), A3, B4, A5, C6]) (149, [some (.inr 64), some (.inl (g : Int)), some (.inl (((g + i) : Nat) : Int)), none], [], [A0, B, (moSeg 64 (shL g k (p - g)) (shL g f (p - g)) (shL g c (p - g)) (shL g n (p - g)) (shL g kp (p - g)) (colsL g (p + 1) (rowsL g (p + 1) l (p - g)) i) nt w sh (((p + 1) : Nat) : Int) t d wa), A3, B4, A5, C6]) := by
    intro j
    induction j with
    | zero =>
      intro i  hij 
      obtain rfl : (p - g) = i := by omega
      refine aGo okX3_remove 5 (f' := (156, [some (.inr 64), some (.inl (g : Int)), some (.inl (((g + (p - g)) : Nat) : Int)), none], [.inl (((p + 1) : Nat) : Int), .inl ((((g + (p - g)) : Nat) : Int) + 1)], _)) rfl ?_
      refine b_ge (tgt := 195) okX3_remove rfl rfl ⟨by omega, by omega⟩ ⟨by omega, by omega⟩ (fun h156 => ?_) (fun h156 => absurd h156 (by omega))
      refine aGo okX3_remove 6 (f' := (205, [some (.inr 64), some (.inl (g : Int)), some (.inl (((g + (p - g)) : Nat) : Int)), none], [], [A0, B, (moSeg 64 (shL g k (p - g)) (shL g f (p - g)) (shL g c (p - g)) (shL g n (p - g)) (shL g kp (p - g)) (colsL g (p + 1) (rowsL g (p + 1) l (p - g)) (p - g)) nt w sh ((((p + 1) : Nat) : Int) - 1) t d wa), A3, B4, A5, C6])) rfl ?_
      refine b_cast (f' := (205, [some (.inr 64), some (.inl (g : Int)), some (.inl (((g + (p - g)) : Nat) : Int)), none], [], [A0, B, (moSeg 64 (shL g k (p - g)) (shL g f (p - g)) (shL g c (p - g)) (shL g n (p - g)) (shL g kp (p - g)) (colsL g (p + 1) (rowsL g (p + 1) l (p - g)) (p - g)) nt w sh (p : Int) t d wa), A3, B4, A5, C6])) (by rw [show ((p + 1 : Nat) : Int) - 1 = (p : Int) by omega]) ?_
      refine aGo okX3_remove 1 (f' := (206, [some (.inr 64), some (.inl (g : Int)), some (.inl (((g + (p - g)) : Nat) : Int)), none], [.inr 64], _)) rfl ?_
      refine b_vE (as := []) (rest := []) (k := 64) okX3_remove rfl lkX3_106 caX3_netLoans (Nat.le_of_ble_eq_true rfl) rfl (Nat.le_of_ble_eq_true rfl) rfl rfl rfl (c_netLoans_2 (p := p) (by omega) hnt (by rw [colsL_len, rowsL_len]; exact hl)) ?_
      rintro _ _ ⟨rfl, nt2, zn, rfl⟩
      refine aGo okX3_remove 1 (f' := (210, [some (.inr 64), some (.inl (g : Int)), some (.inl (((g + (p - g)) : Nat) : Int)), none], [.inr 64], _)) rfl ?_
      refine b_vE (as := []) (rest := []) (k := 64) okX3_remove rfl lkX3_109 caX3_weigh (Nat.le_of_ble_eq_true rfl) rfl (Nat.le_of_ble_eq_true rfl) rfl rfl rfl (c_weigh_2 (p := p) ⟨by omega, by rw [shL_len]; exact hk, by rw [shL_len]; exact hf, by rw [shL_len]; exact hc, hw, hsh, shL_rng rk _, shL_rng rf _, shL_rng rc _, ht0, ht1⟩) ?_
      rintro _ _ ⟨rfl, w2, sh2, zw, zs, rfl⟩
      exact b_ret (v := none) ⟨rfl, rfl⟩ ⟨rfl, nt2, w2, sh2, zn, zw, zs, rfl⟩ rfl
    | succ j ih =>
      intro i  hij 
      have lq : ∀ (j2 x : Nat), x + j2 = p + 1 → AW mX3_remove 4 0 0 N none (fun rv h => rv = none ∧ ∃ nt2 w2 sh2 : List Int, nOK p (colsL g (p + 1) (rowsL g (p + 1) l (p - g)) (p - g)) nt2 ∧ wOK p (shL g k (p - g)) (shL g f (p - g)) (shL g c (p - g)) w2 (wAll p (shL g k (p - g)) (shL g f (p - g)) (shL g c (p - g))) ∧ sOK p (shL g k (p - g)) (shL g f (p - g)) (shL g c (p - g)) sh2 t ∧ h = [A0, B, (moSeg 64 (shL g k (p - g)) (shL g f (p - g)) (shL g c (p - g)) (shL g n (p - g)) (shL g kp (p - g)) (colsL g (p + 1) (rowsL g (p + 1) l (p - g)) (p - g)) nt2 w2 sh2 (p : Int) t d (wAll p (shL g k (p - g)) (shL g f (p - g)) (shL g c (p - g)))), A3, B4, A5, C6]) (161, [some (.inr 64), some (.inl (g : Int)), some (.inl (((g + i) : Nat) : Int)), some (.inl (x : Int))], [], [A0, B, (moSeg 64 (shL g k (p - g)) (shL g f (p - g)) (shL g c (p - g)) (shL g n (p - g)) (shL g kp (p - g)) (colL (colsL g (p + 1) (rowsL g (p + 1) l (p - g)) i) (g + i) x) nt w sh (((p + 1) : Nat) : Int) t d wa), A3, B4, A5, C6]) := by
        intro j2
        induction j2 with
        | zero =>
          intro x  hij2 
          obtain rfl : p + 1 = x := by omega
          refine aGo okX3_remove 3 (f' := (166, [some (.inr 64), some (.inl (g : Int)), some (.inl (((g + i) : Nat) : Int)), some (.inl (p + 1 : Int))], [.inl (((p + 1) : Nat) : Int), .inl (p + 1 : Int)], _)) rfl ?_
          refine b_ge (tgt := 189) okX3_remove rfl rfl ⟨by omega, by omega⟩ ⟨by omega, by omega⟩ (fun h166 => ?_) (fun h166 => absurd h166 (by omega))
          refine aGo okX3_remove 2 (f' := (149, [some (.inr 64), some (.inl (g : Int)), some (.inl ((((g + i) : Nat) : Int) + 1)), some (.inl (p + 1 : Int))], [], _)) rfl ?_
          refine b_lose (ls' := [some (.inr 64), some (.inl (g : Int)), some (.inl ((((g + i) : Nat) : Int) + 1)), none]) (lose3 _ _ _ _) ?_
          exact ih (i + 1) (by omega)
        | succ j2 ih2 =>
          intro x  hij2 
          have e0 : (colL (colsL g (p + 1) (rowsL g (p + 1) l (p - g)) i) (g + i) x).length = 49 := by rw [colL_len, colsL_len, rowsL_len]; exact hl
          refine aGo okX3_remove 3 (f' := (166, [some (.inr 64), some (.inl (g : Int)), some (.inl (((g + i) : Nat) : Int)), some (.inl (x : Int))], [.inl (((p + 1) : Nat) : Int), .inl (x : Int)], _)) rfl ?_
          refine b_ge (tgt := 189) okX3_remove rfl rfl ⟨by omega, by omega⟩ ⟨by omega, by omega⟩ (fun h166 => absurd h166 (by omega)) (fun h166 => ?_)
          refine aGo okX3_remove 8 (f' := (177, [some (.inr 64), some (.inl (g : Int)), some (.inl (((g + i) : Nat) : Int)), some (.inl (x : Int))], [.inl ((((g + i) : Nat) : Int) + 1), .inl (x : Int), .inr 64, .inl (((g + i) : Nat) : Int), .inl (x : Int), .inr 64], _)) rfl ?_
          refine b_vV (as := [.inl (x : Int), .inl ((((g + i) : Nat) : Int) + 1)]) (rest := [.inl (((g + i) : Nat) : Int), .inl (x : Int), .inr 64]) (k := 64) (.inl ((colL (colsL g (p + 1) (rowsL g (p + 1) l (p - g)) i) (g + i) x).getD (7 * x + ((g + i) + 1)) 0)) okX3_remove rfl lkX3_80 caX3_lentBy (Nat.le_of_ble_eq_true rfl) rfl (Nat.le_of_ble_eq_true rfl) rfl rfl rfl (c_lentBy_2 (i := x) (j := ((g + i) + 1)) (by first | omega | (simp only [List.length_set]; omega)) (by omega) (by omega)) ?_
          refine b_vN (as := [.inl (x : Int), .inl (((g + i) : Nat) : Int), .inl ((colL (colsL g (p + 1) (rowsL g (p + 1) l (p - g)) i) (g + i) x).getD (7 * x + ((g + i) + 1)) 0)]) (rest := []) (k := 64) okX3_remove rfl lkX3_102 caX3_putLent (Nat.le_of_ble_eq_true rfl) rfl (Nat.le_of_ble_eq_true rfl) rfl rfl rfl (c_putLent_2 (i := x) (j := (g + i)) (by first | omega | (simp only [List.length_set]; omega)) (by omega) (by omega) ((colL (colsL g (p + 1) (rowsL g (p + 1) l (p - g)) i) (g + i) x).getD (7 * x + ((g + i) + 1)) 0)) ?_
          refine b_cast (f' := (183, [some (.inr 64), some (.inl (g : Int)), some (.inl (((g + i) : Nat) : Int)), some (.inl (x : Int))], [], [A0, B, (moSeg 64 (shL g k (p - g)) (shL g f (p - g)) (shL g c (p - g)) (shL g n (p - g)) (shL g kp (p - g)) ((colL (colsL g (p + 1) (rowsL g (p + 1) l (p - g)) i) (g + i) x).set (7 * x + (g + i)) ((colL (colsL g (p + 1) (rowsL g (p + 1) l (p - g)) i) (g + i) x).getD (7 * x + ((g + i) + 1)) 0)) nt w sh (((p + 1) : Nat) : Int) t d wa), A3, B4, A5, C6])) rfl ?_
          refine aGo okX3_remove 2 (f' := (161, [some (.inr 64), some (.inl (g : Int)), some (.inl (((g + i) : Nat) : Int)), some (.inl ((x : Int) + 1))], [], _)) rfl ?_
          exact ih2 (x + 1) (by omega)
      refine aGo okX3_remove 5 (f' := (156, [some (.inr 64), some (.inl (g : Int)), some (.inl (((g + i) : Nat) : Int)), none], [.inl (((p + 1) : Nat) : Int), .inl ((((g + i) : Nat) : Int) + 1)], _)) rfl ?_
      refine b_ge (tgt := 195) okX3_remove rfl rfl ⟨by omega, by omega⟩ ⟨by omega, by omega⟩ (fun h156 => absurd h156 (by omega)) (fun h156 => ?_)
      refine aGo okX3_remove 2 (f' := (161, [some (.inr 64), some (.inl (g : Int)), some (.inl (((g + i) : Nat) : Int)), some (.inl 0)], [], _)) rfl ?_
      exact lq (p + 1) 0 (by omega)
  have l1 : ∀ (j i : Nat), i + j = (p - g) → AW mX3_remove 4 0 0 N none (fun rv h => rv = none ∧ ∃ nt2 w2 sh2 : List Int, nOK p (colsL g (p + 1) (rowsL g (p + 1) l (p - g)) (p - g)) nt2 ∧ wOK p (shL g k (p - g)) (shL g f (p - g)) (shL g c (p - g)) w2 (wAll p (shL g k (p - g)) (shL g f (p - g)) (shL g c (p - g))) ∧ sOK p (shL g k (p - g)) (shL g f (p - g)) (shL g c (p - g)) sh2 t ∧ h = [A0, B, (moSeg 64 (shL g k (p - g)) (shL g f (p - g)) (shL g c (p - g)) (shL g n (p - g)) (shL g kp (p - g)) (colsL g (p + 1) (rowsL g (p + 1) l (p - g)) (p - g)) nt2 w2 sh2 (p : Int) t d (wAll p (shL g k (p - g)) (shL g f (p - g)) (shL g c (p - g)))), A3, B4, A5, C6]) (11, [some (.inr 64), some (.inl (g : Int)), some (.inl (((g + i) : Nat) : Int)), none], [], [A0, B, (moSeg 64 (shL g k i) (shL g f i) (shL g c i) (shL g n i) (shL g kp i) (rowsL g (p + 1) l i) nt w sh (((p + 1) : Nat) : Int) t d wa), A3, B4, A5, C6]) := by
    intro j
    induction j with
    | zero =>
      intro i  hij 
      obtain rfl : (p - g) = i := by omega
      refine aGo okX3_remove 5 (f' := (18, [some (.inr 64), some (.inl (g : Int)), some (.inl (((g + (p - g)) : Nat) : Int)), none], [.inl (((p + 1) : Nat) : Int), .inl ((((g + (p - g)) : Nat) : Int) + 1)], _)) rfl ?_
      refine b_ge (tgt := 147) okX3_remove rfl rfl ⟨by omega, by omega⟩ ⟨by omega, by omega⟩ (fun h18 => ?_) (fun h18 => absurd h18 (by omega))
      refine aGo okX3_remove 2 (f' := (149, [some (.inr 64), some (.inl (g : Int)), some (.inl (g : Int)), none], [], _)) rfl ?_
      exact l2 (p - g) 0 (by omega)
    | succ j ih =>
      intro i  hij 
      have lq : ∀ (j2 x : Nat), x + j2 = p + 1 → AW mX3_remove 4 0 0 N none (fun rv h => rv = none ∧ ∃ nt2 w2 sh2 : List Int, nOK p (colsL g (p + 1) (rowsL g (p + 1) l (p - g)) (p - g)) nt2 ∧ wOK p (shL g k (p - g)) (shL g f (p - g)) (shL g c (p - g)) w2 (wAll p (shL g k (p - g)) (shL g f (p - g)) (shL g c (p - g))) ∧ sOK p (shL g k (p - g)) (shL g f (p - g)) (shL g c (p - g)) sh2 t ∧ h = [A0, B, (moSeg 64 (shL g k (p - g)) (shL g f (p - g)) (shL g c (p - g)) (shL g n (p - g)) (shL g kp (p - g)) (colsL g (p + 1) (rowsL g (p + 1) l (p - g)) (p - g)) nt2 w2 sh2 (p : Int) t d (wAll p (shL g k (p - g)) (shL g f (p - g)) (shL g c (p - g)))), A3, B4, A5, C6]) (113, [some (.inr 64), some (.inl (g : Int)), some (.inl (((g + i) : Nat) : Int)), some (.inl (x : Int))], [], [A0, B, (moSeg 64 (shL g k (i + 1)) (shL g f (i + 1)) (shL g c (i + 1)) (shL g n (i + 1)) (shL g kp (i + 1)) (rowL (rowsL g (p + 1) l i) (g + i) x) nt w sh (((p + 1) : Nat) : Int) t d wa), A3, B4, A5, C6]) := by
        intro j2
        induction j2 with
        | zero =>
          intro x  hij2 
          obtain rfl : p + 1 = x := by omega
          refine aGo okX3_remove 3 (f' := (118, [some (.inr 64), some (.inl (g : Int)), some (.inl (((g + i) : Nat) : Int)), some (.inl (p + 1 : Int))], [.inl (((p + 1) : Nat) : Int), .inl (p + 1 : Int)], _)) rfl ?_
          refine b_ge (tgt := 141) okX3_remove rfl rfl ⟨by omega, by omega⟩ ⟨by omega, by omega⟩ (fun h118 => ?_) (fun h118 => absurd h118 (by omega))
          refine aGo okX3_remove 2 (f' := (11, [some (.inr 64), some (.inl (g : Int)), some (.inl ((((g + i) : Nat) : Int) + 1)), some (.inl (p + 1 : Int))], [], _)) rfl ?_
          refine b_lose (ls' := [some (.inr 64), some (.inl (g : Int)), some (.inl ((((g + i) : Nat) : Int) + 1)), none]) (lose3 _ _ _ _) ?_
          exact ih (i + 1) (by omega)
        | succ j2 ih2 =>
          intro x  hij2 
          have e0 : (rowL (rowsL g (p + 1) l i) (g + i) x).length = 49 := by rw [rowL_len, rowsL_len]; exact hl
          refine aGo okX3_remove 3 (f' := (118, [some (.inr 64), some (.inl (g : Int)), some (.inl (((g + i) : Nat) : Int)), some (.inl (x : Int))], [.inl (((p + 1) : Nat) : Int), .inl (x : Int)], _)) rfl ?_
          refine b_ge (tgt := 141) okX3_remove rfl rfl ⟨by omega, by omega⟩ ⟨by omega, by omega⟩ (fun h118 => absurd h118 (by omega)) (fun h118 => ?_)
          refine aGo okX3_remove 8 (f' := (129, [some (.inr 64), some (.inl (g : Int)), some (.inl (((g + i) : Nat) : Int)), some (.inl (x : Int))], [.inl (x : Int), .inl ((((g + i) : Nat) : Int) + 1), .inr 64, .inl (x : Int), .inl (((g + i) : Nat) : Int), .inr 64], _)) rfl ?_
          refine b_vV (as := [.inl ((((g + i) : Nat) : Int) + 1), .inl (x : Int)]) (rest := [.inl (x : Int), .inl (((g + i) : Nat) : Int), .inr 64]) (k := 64) (.inl ((rowL (rowsL g (p + 1) l i) (g + i) x).getD (7 * ((g + i) + 1) + x) 0)) okX3_remove rfl lkX3_80 caX3_lentBy (Nat.le_of_ble_eq_true rfl) rfl (Nat.le_of_ble_eq_true rfl) rfl rfl rfl (c_lentBy_2 (i := ((g + i) + 1)) (j := x) (by first | omega | (simp only [List.length_set]; omega)) (by omega) (by omega)) ?_
          refine b_vN (as := [.inl (((g + i) : Nat) : Int), .inl (x : Int), .inl ((rowL (rowsL g (p + 1) l i) (g + i) x).getD (7 * ((g + i) + 1) + x) 0)]) (rest := []) (k := 64) okX3_remove rfl lkX3_102 caX3_putLent (Nat.le_of_ble_eq_true rfl) rfl (Nat.le_of_ble_eq_true rfl) rfl rfl rfl (c_putLent_2 (i := (g + i)) (j := x) (by first | omega | (simp only [List.length_set]; omega)) (by omega) (by omega) ((rowL (rowsL g (p + 1) l i) (g + i) x).getD (7 * ((g + i) + 1) + x) 0)) ?_
          refine b_cast (f' := (135, [some (.inr 64), some (.inl (g : Int)), some (.inl (((g + i) : Nat) : Int)), some (.inl (x : Int))], [], [A0, B, (moSeg 64 (shL g k (i + 1)) (shL g f (i + 1)) (shL g c (i + 1)) (shL g n (i + 1)) (shL g kp (i + 1)) ((rowL (rowsL g (p + 1) l i) (g + i) x).set (7 * (g + i) + x) ((rowL (rowsL g (p + 1) l i) (g + i) x).getD (7 * ((g + i) + 1) + x) 0)) nt w sh (((p + 1) : Nat) : Int) t d wa), A3, B4, A5, C6])) rfl ?_
          refine aGo okX3_remove 2 (f' := (113, [some (.inr 64), some (.inl (g : Int)), some (.inl (((g + i) : Nat) : Int)), some (.inl ((x : Int) + 1))], [], _)) rfl ?_
          exact ih2 (x + 1) (by omega)
      have e_k : (shL g k i).length = 7 := by rw [shL_len]; exact hk
      have e_f : (shL g f i).length = 7 := by rw [shL_len]; exact hf
      have e_c : (shL g c i).length = 7 := by rw [shL_len]; exact hc
      have e_n : (shL g n i).length = 7 := by rw [shL_len]; exact hn
      have e_kp : (shL g kp i).length = 7 := by rw [shL_len]; exact hkp
      refine aGo okX3_remove 5 (f' := (18, [some (.inr 64), some (.inl (g : Int)), some (.inl (((g + i) : Nat) : Int)), none], [.inl (((p + 1) : Nat) : Int), .inl ((((g + i) : Nat) : Int) + 1)], _)) rfl ?_
      refine b_ge (tgt := 147) okX3_remove rfl rfl ⟨by omega, by omega⟩ ⟨by omega, by omega⟩ (fun h18 => absurd h18 (by omega)) (fun h18 => ?_)
      refine aGo okX3_remove 8 (f' := (33, [some (.inr 64), some (.inl (g : Int)), some (.inl (((g + i) : Nat) : Int)), none], [.inl ((((g + i) : Nat) : Int) + 1), .inr 65, .inl (((g + i) : Nat) : Int), .inr 65], _)) rfl ?_
      refine b_vV (as := [.inl ((((g + i) : Nat) : Int) + 1)]) (rest := [.inl (((g + i) : Nat) : Int), .inr 65]) (k := 65) (.inl ((shL g k i).getD ((g + i) + 1) 0)) okX3_remove rfl lkX3_65 caX4_at (Nat.le_of_ble_eq_true rfl) rfl (Nat.le_of_ble_eq_true rfl) rfl rfl rfl (c_at (i := ((g + i) + 1)) rfl rfl (by first | omega | (simp only [List.length_set]; omega)) (by omega)) ?_
      refine b_vN (as := [.inl (((g + i) : Nat) : Int), .inl ((shL g k i).getD ((g + i) + 1) 0)]) (rest := []) (k := 65) okX3_remove rfl lkX3_98 caX4_put (Nat.le_of_ble_eq_true rfl) rfl (Nat.le_of_ble_eq_true rfl) rfl rfl rfl (c_put (i := (g + i)) rfl rfl (by first | omega | (simp only [List.length_set]; omega)) (by first | omega | (simp only [List.length_set]; omega)) ((shL g k i).getD ((g + i) + 1) 0)) ?_
      refine b_cast (f' := (39, [some (.inr 64), some (.inl (g : Int)), some (.inl (((g + i) : Nat) : Int)), none], [], [A0, B, (moSeg 64 ((shL g k i).set (g + i) ((shL g k i).getD ((g + i) + 1) 0)) (shL g f i) (shL g c i) (shL g n i) (shL g kp i) (rowsL g (p + 1) l i) nt w sh (((p + 1) : Nat) : Int) t d wa), A3, B4, A5, C6])) rfl ?_
      refine aGo okX3_remove 8 (f' := (51, [some (.inr 64), some (.inl (g : Int)), some (.inl (((g + i) : Nat) : Int)), none], [.inl ((((g + i) : Nat) : Int) + 1), .inr 67, .inl (((g + i) : Nat) : Int), .inr 67], _)) rfl ?_
      refine b_vV (as := [.inl ((((g + i) : Nat) : Int) + 1)]) (rest := [.inl (((g + i) : Nat) : Int), .inr 67]) (k := 67) (.inl ((shL g f i).getD ((g + i) + 1) 0)) okX3_remove rfl lkX3_65 caX4_at (Nat.le_of_ble_eq_true rfl) rfl (Nat.le_of_ble_eq_true rfl) rfl rfl rfl (c_at (i := ((g + i) + 1)) rfl rfl (by first | omega | (simp only [List.length_set]; omega)) (by omega)) ?_
      refine b_vN (as := [.inl (((g + i) : Nat) : Int), .inl ((shL g f i).getD ((g + i) + 1) 0)]) (rest := []) (k := 67) okX3_remove rfl lkX3_98 caX4_put (Nat.le_of_ble_eq_true rfl) rfl (Nat.le_of_ble_eq_true rfl) rfl rfl rfl (c_put (i := (g + i)) rfl rfl (by first | omega | (simp only [List.length_set]; omega)) (by first | omega | (simp only [List.length_set]; omega)) ((shL g f i).getD ((g + i) + 1) 0)) ?_
      refine b_cast (f' := (57, [some (.inr 64), some (.inl (g : Int)), some (.inl (((g + i) : Nat) : Int)), none], [], [A0, B, (moSeg 64 ((shL g k i).set (g + i) ((shL g k i).getD ((g + i) + 1) 0)) ((shL g f i).set (g + i) ((shL g f i).getD ((g + i) + 1) 0)) (shL g c i) (shL g n i) (shL g kp i) (rowsL g (p + 1) l i) nt w sh (((p + 1) : Nat) : Int) t d wa), A3, B4, A5, C6])) rfl ?_
      refine aGo okX3_remove 8 (f' := (69, [some (.inr 64), some (.inl (g : Int)), some (.inl (((g + i) : Nat) : Int)), none], [.inl ((((g + i) : Nat) : Int) + 1), .inr 69, .inl (((g + i) : Nat) : Int), .inr 69], _)) rfl ?_
      refine b_vV (as := [.inl ((((g + i) : Nat) : Int) + 1)]) (rest := [.inl (((g + i) : Nat) : Int), .inr 69]) (k := 69) (.inl ((shL g c i).getD ((g + i) + 1) 0)) okX3_remove rfl lkX3_65 caX4_at (Nat.le_of_ble_eq_true rfl) rfl (Nat.le_of_ble_eq_true rfl) rfl rfl rfl (c_at (i := ((g + i) + 1)) rfl rfl (by first | omega | (simp only [List.length_set]; omega)) (by omega)) ?_
      refine b_vN (as := [.inl (((g + i) : Nat) : Int), .inl ((shL g c i).getD ((g + i) + 1) 0)]) (rest := []) (k := 69) okX3_remove rfl lkX3_98 caX4_put (Nat.le_of_ble_eq_true rfl) rfl (Nat.le_of_ble_eq_true rfl) rfl rfl rfl (c_put (i := (g + i)) rfl rfl (by first | omega | (simp only [List.length_set]; omega)) (by first | omega | (simp only [List.length_set]; omega)) ((shL g c i).getD ((g + i) + 1) 0)) ?_
      refine b_cast (f' := (75, [some (.inr 64), some (.inl (g : Int)), some (.inl (((g + i) : Nat) : Int)), none], [], [A0, B, (moSeg 64 ((shL g k i).set (g + i) ((shL g k i).getD ((g + i) + 1) 0)) ((shL g f i).set (g + i) ((shL g f i).getD ((g + i) + 1) 0)) ((shL g c i).set (g + i) ((shL g c i).getD ((g + i) + 1) 0)) (shL g n i) (shL g kp i) (rowsL g (p + 1) l i) nt w sh (((p + 1) : Nat) : Int) t d wa), A3, B4, A5, C6])) rfl ?_
      refine aGo okX3_remove 8 (f' := (87, [some (.inr 64), some (.inl (g : Int)), some (.inl (((g + i) : Nat) : Int)), none], [.inl ((((g + i) : Nat) : Int) + 1), .inr 71, .inl (((g + i) : Nat) : Int), .inr 71], _)) rfl ?_
      refine b_vV (as := [.inl ((((g + i) : Nat) : Int) + 1)]) (rest := [.inl (((g + i) : Nat) : Int), .inr 71]) (k := 71) (.inl ((shL g n i).getD ((g + i) + 1) 0)) okX3_remove rfl lkX3_65 caX4_at (Nat.le_of_ble_eq_true rfl) rfl (Nat.le_of_ble_eq_true rfl) rfl rfl rfl (c_at (i := ((g + i) + 1)) rfl rfl (by first | omega | (simp only [List.length_set]; omega)) (by omega)) ?_
      refine b_vN (as := [.inl (((g + i) : Nat) : Int), .inl ((shL g n i).getD ((g + i) + 1) 0)]) (rest := []) (k := 71) okX3_remove rfl lkX3_98 caX4_put (Nat.le_of_ble_eq_true rfl) rfl (Nat.le_of_ble_eq_true rfl) rfl rfl rfl (c_put (i := (g + i)) rfl rfl (by first | omega | (simp only [List.length_set]; omega)) (by first | omega | (simp only [List.length_set]; omega)) ((shL g n i).getD ((g + i) + 1) 0)) ?_
      refine b_cast (f' := (93, [some (.inr 64), some (.inl (g : Int)), some (.inl (((g + i) : Nat) : Int)), none], [], [A0, B, (moSeg 64 ((shL g k i).set (g + i) ((shL g k i).getD ((g + i) + 1) 0)) ((shL g f i).set (g + i) ((shL g f i).getD ((g + i) + 1) 0)) ((shL g c i).set (g + i) ((shL g c i).getD ((g + i) + 1) 0)) ((shL g n i).set (g + i) ((shL g n i).getD ((g + i) + 1) 0)) (shL g kp i) (rowsL g (p + 1) l i) nt w sh (((p + 1) : Nat) : Int) t d wa), A3, B4, A5, C6])) rfl ?_
      refine aGo okX3_remove 8 (f' := (105, [some (.inr 64), some (.inl (g : Int)), some (.inl (((g + i) : Nat) : Int)), none], [.inl ((((g + i) : Nat) : Int) + 1), .inr 73, .inl (((g + i) : Nat) : Int), .inr 73], _)) rfl ?_
      refine b_vV (as := [.inl ((((g + i) : Nat) : Int) + 1)]) (rest := [.inl (((g + i) : Nat) : Int), .inr 73]) (k := 73) (.inl ((shL g kp i).getD ((g + i) + 1) 0)) okX3_remove rfl lkX3_65 caX4_at (Nat.le_of_ble_eq_true rfl) rfl (Nat.le_of_ble_eq_true rfl) rfl rfl rfl (c_at (i := ((g + i) + 1)) rfl rfl (by first | omega | (simp only [List.length_set]; omega)) (by omega)) ?_
      refine b_vN (as := [.inl (((g + i) : Nat) : Int), .inl ((shL g kp i).getD ((g + i) + 1) 0)]) (rest := []) (k := 73) okX3_remove rfl lkX3_98 caX4_put (Nat.le_of_ble_eq_true rfl) rfl (Nat.le_of_ble_eq_true rfl) rfl rfl rfl (c_put (i := (g + i)) rfl rfl (by first | omega | (simp only [List.length_set]; omega)) (by first | omega | (simp only [List.length_set]; omega)) ((shL g kp i).getD ((g + i) + 1) 0)) ?_
      refine b_cast (f' := (111, [some (.inr 64), some (.inl (g : Int)), some (.inl (((g + i) : Nat) : Int)), none], [], [A0, B, (moSeg 64 ((shL g k i).set (g + i) ((shL g k i).getD ((g + i) + 1) 0)) ((shL g f i).set (g + i) ((shL g f i).getD ((g + i) + 1) 0)) ((shL g c i).set (g + i) ((shL g c i).getD ((g + i) + 1) 0)) ((shL g n i).set (g + i) ((shL g n i).getD ((g + i) + 1) 0)) ((shL g kp i).set (g + i) ((shL g kp i).getD ((g + i) + 1) 0)) (rowsL g (p + 1) l i) nt w sh (((p + 1) : Nat) : Int) t d wa), A3, B4, A5, C6])) rfl ?_
      refine aGo okX3_remove 2 (f' := (113, [some (.inr 64), some (.inl (g : Int)), some (.inl (((g + i) : Nat) : Int)), some (.inl 0)], [], _)) rfl ?_
      exact lq (p + 1) 0 (by omega)
  refine aGo okX3_remove 2 (f' := (2, [some (.inr 64), some (.inl (g : Int)), none, none], [.inl (g : Int), .inr 64], _)) rfl ?_
  refine b_vV (as := [.inl (g : Int)]) (rest := []) (k := 64) (.inl 1) okX3_remove rfl lkX3_61 caX3_isThere (Nat.le_of_ble_eq_true rfl) rfl (Nat.le_of_ble_eq_true rfl) rfl rfl rfl (c_isThere_2_t (p := p + 1) (x := (g : Int)) (by omega) (by omega) (by omega)) ?_
  refine b0_ne (tgt := 9) okX3_remove rfl rfl ⟨by omega, by omega⟩ (fun h5 => ?_) (fun h5 => absurd h5 (by omega))
  refine aGo okX3_remove 2 (f' := (11, [some (.inr 64), some (.inl (g : Int)), some (.inl (g : Int)), none], [], _)) rfl ?_
  exact l1 (p - g) 0 (by omega)
set_option maxRecDepth 100000 in
set_option maxHeartbeats 4000000 in
theorem c_loansAboveNothing_2 (hp : p ≤ 7) (hl : l.length = 49) (rl : rng l 99) : aEv mX3_loansAboveNothing 2 0 0 N [.inr 64] [A0, B, (moSeg 64 k f c n kp l nt w sh (p : Int) t d wa), A3, B4, A5, C6] ((aQx (some (.inl (sumN p (fun i => loansN p l i p)))) [A0, B, (moSeg 64 k f c n kp l nt w sh (p : Int) t d wa), A3, B4, A5, C6])) := by
  refine aEv_of okX3_loansAboveNothing caX3_loansAboveNothing (Nat.le_of_ble_eq_true rfl) ?_
  have lp : ∀ (j i : Nat), i + j = p → AW mX3_loansAboveNothing 2 0 0 N none (aQx (some (.inl (sumN p (fun i => loansN p l i p)))) [A0, B, (moSeg 64 k f c n kp l nt w sh (p : Int) t d wa), A3, B4, A5, C6]) (4, [some (.inr 64), some (.inl (sumN i (fun i => loansN p l i p))), some (.inl (i : Int)), none], [], [A0, B, (moSeg 64 k f c n kp l nt w sh (p : Int) t d wa), A3, B4, A5, C6]) := by
    intro j
    induction j with
    | zero =>
      intro i  hij 
      obtain rfl : p = i := by omega
      refine aGo okX3_loansAboveNothing 3 (f' := (9, [some (.inr 64), some (.inl (sumN p (fun i => loansN p l i p))), some (.inl (p : Int)), none], [.inl (p : Int), .inl (p : Int)], _)) rfl ?_
      refine b_ge (tgt := 46) okX3_loansAboveNothing rfl rfl ⟨by omega, by omega⟩ ⟨by omega, by omega⟩ (fun h9 => ?_) (fun h9 => absurd h9 (by omega))
      refine aGo okX3_loansAboveNothing 1 (f' := (47, [some (.inr 64), some (.inl (sumN p (fun i => loansN p l i p))), some (.inl (p : Int)), none], [.inl (sumN p (fun i => loansN p l i p))], _)) rfl ?_
      exact b_ret (v := (some (.inl (sumN p (fun i => loansN p l i p))))) ⟨rfl, Or.inl rfl⟩ ⟨rfl, rfl⟩ rfl
    | succ j ih =>
      intro i  hij 
      have lq : ∀ (j2 x : Nat), x + j2 = p → AW mX3_loansAboveNothing 2 0 0 N none (aQx (some (.inl (sumN p (fun i => loansN p l i p)))) [A0, B, (moSeg 64 k f c n kp l nt w sh (p : Int) t d wa), A3, B4, A5, C6]) (14, [some (.inr 64), some (.inl ((sumN i (fun i => loansN p l i p)) + (loansN p l i x))), some (.inl (i : Int)), some (.inl (x : Int))], [], [A0, B, (moSeg 64 k f c n kp l nt w sh (p : Int) t d wa), A3, B4, A5, C6]) := by
        intro j2
        induction j2 with
        | zero =>
          intro x  hij2 
          obtain rfl : p = x := by omega
          refine aGo okX3_loansAboveNothing 3 (f' := (19, [some (.inr 64), some (.inl ((sumN i (fun i => loansN p l i p)) + (loansN p l i p))), some (.inl (i : Int)), some (.inl (p : Int))], [.inl (p : Int), .inl (p : Int)], _)) rfl ?_
          refine b_ge (tgt := 40) okX3_loansAboveNothing rfl rfl ⟨by omega, by omega⟩ ⟨by omega, by omega⟩ (fun h19 => ?_) (fun h19 => absurd h19 (by omega))
          refine aGo okX3_loansAboveNothing 2 (f' := (4, [some (.inr 64), some (.inl ((sumN i (fun i => loansN p l i p)) + (loansN p l i p))), some (.inl ((i : Int) + 1)), some (.inl (p : Int))], [], _)) rfl ?_
          refine b_lose (ls' := [some (.inr 64), some (.inl ((sumN i (fun i => loansN p l i p)) + (loansN p l i p))), some (.inl ((i : Int) + 1)), none]) (lose3 _ _ _ _) ?_
          exact ih (i + 1) (by omega)
        | succ j2 ih2 =>
          intro x  hij2 
          have r1 := rl (7 * i + x)
          refine aGo okX3_loansAboveNothing 3 (f' := (19, [some (.inr 64), some (.inl ((sumN i (fun i => loansN p l i p)) + (loansN p l i x))), some (.inl (i : Int)), some (.inl (x : Int))], [.inl (p : Int), .inl (x : Int)], _)) rfl ?_
          refine b_ge (tgt := 40) okX3_loansAboveNothing rfl rfl ⟨by omega, by omega⟩ ⟨by omega, by omega⟩ (fun h19 => absurd h19 (by omega)) (fun h19 => ?_)
          refine aGo okX3_loansAboveNothing 3 (f' := (25, [some (.inr 64), some (.inl ((sumN i (fun i => loansN p l i p)) + (loansN p l i x))), some (.inl (i : Int)), some (.inl (x : Int))], [.inl (x : Int), .inl (i : Int), .inr 64], _)) rfl ?_
          refine b_vV (as := [.inl (i : Int), .inl (x : Int)]) (rest := []) (k := 64) (.inl (l.getD (7 * i + x) 0)) okX3_loansAboveNothing rfl lkX3_80 caX3_lentBy (Nat.le_of_ble_eq_true rfl) rfl (Nat.le_of_ble_eq_true rfl) rfl rfl rfl (c_lentBy_2 (i := i) (j := x) (by first | omega | (simp only [List.length_set]; omega)) (by omega) (by omega)) ?_
          refine b0_le (tgt := 34) okX3_loansAboveNothing rfl rfl ⟨by omega, by omega⟩ (fun h28 => ?_) (fun h28 => ?_)
          · refine aGo okX3_loansAboveNothing 2 (f' := (14, [some (.inr 64), some (.inl ((sumN i (fun i => loansN p l i p)) + (loansN p l i x))), some (.inl (i : Int)), some (.inl ((x : Int) + 1))], [], _)) rfl ?_
            refine b_cast (f' := (14, [some (.inr 64), some (.inl ((sumN i (fun i => loansN p l i p)) + (loansN p l i (x + 1)))), some (.inl (i : Int)), some (.inl ((x : Int) + 1))], [], [A0, B, (moSeg 64 k f c n kp l nt w sh (p : Int) t d wa), A3, B4, A5, C6])) (congrArg (fun z : Int => ((14, [some (.inr 64), some (.inl z), some (.inl (i : Int)), some (.inl ((x : Int) + 1))], [], [A0, B, (moSeg 64 k f c n kp l nt w sh (p : Int) t d wa), A3, B4, A5, C6]) : aF)) (show sumN i (fun i => loansN p l i p) + loansN p l i x = sumN i (fun i => loansN p l i p) + (loansN p l i x + (if 0 < l.getD (7 * i + x) 0 then 1 else 0)) from by rw [if_neg (by omega)]; omega)) ?_
            exact ih2 (x + 1) (by omega)
          · refine aGo okX3_loansAboveNothing 3 (f' := (14, [some (.inr 64), some (.inl (((sumN i (fun i => loansN p l i p)) + (loansN p l i x)) + 1)), some (.inl (i : Int)), some (.inl ((x : Int) + 1))], [], _)) rfl ?_
            refine b_cast (f' := (14, [some (.inr 64), some (.inl ((sumN i (fun i => loansN p l i p)) + (loansN p l i (x + 1)))), some (.inl (i : Int)), some (.inl ((x : Int) + 1))], [], [A0, B, (moSeg 64 k f c n kp l nt w sh (p : Int) t d wa), A3, B4, A5, C6])) (congrArg (fun z : Int => ((14, [some (.inr 64), some (.inl z), some (.inl (i : Int)), some (.inl ((x : Int) + 1))], [], [A0, B, (moSeg 64 k f c n kp l nt w sh (p : Int) t d wa), A3, B4, A5, C6]) : aF)) (show sumN i (fun i => loansN p l i p) + loansN p l i x + 1 = sumN i (fun i => loansN p l i p) + (loansN p l i x + (if 0 < l.getD (7 * i + x) 0 then 1 else 0)) from by rw [if_pos (by omega)]; omega)) ?_
            exact ih2 (x + 1) (by omega)
      refine aGo okX3_loansAboveNothing 3 (f' := (9, [some (.inr 64), some (.inl (sumN i (fun i => loansN p l i p))), some (.inl (i : Int)), none], [.inl (p : Int), .inl (i : Int)], _)) rfl ?_
      refine b_ge (tgt := 46) okX3_loansAboveNothing rfl rfl ⟨by omega, by omega⟩ ⟨by omega, by omega⟩ (fun h9 => absurd h9 (by omega)) (fun h9 => ?_)
      refine aGo okX3_loansAboveNothing 2 (f' := (14, [some (.inr 64), some (.inl (sumN i (fun i => loansN p l i p))), some (.inl (i : Int)), some (.inl 0)], [], _)) rfl ?_
      refine b_cast (f' := (14, [some (.inr 64), some (.inl ((sumN i (fun i => loansN p l i p)) + (loansN p l i 0))), some (.inl (i : Int)), some (.inl 0)], [], [A0, B, (moSeg 64 k f c n kp l nt w sh (p : Int) t d wa), A3, B4, A5, C6])) (congrArg (fun z : Int => ((14, [some (.inr 64), some (.inl z), some (.inl (i : Int)), some (.inl 0)], [], [A0, B, (moSeg 64 k f c n kp l nt w sh (p : Int) t d wa), A3, B4, A5, C6]) : aF)) (show sumN i (fun i => loansN p l i p) = sumN i (fun i => loansN p l i p) + 0 from (Int.add_zero _).symm)) ?_
      exact lq p 0 (by omega)
  refine aGo okX3_loansAboveNothing 4 (f' := (4, [some (.inr 64), some (.inl 0), some (.inl 0), none], [], _)) rfl ?_
  exact lp p 0 (by omega)
set_option maxRecDepth 100000 in
set_option maxHeartbeats 4000000 in
theorem c_mostSteps_2 (hp : p ≤ 7) (hc : c.length = 7) (rc : rng c 35) : aEv mX3_mostSteps 3 0 0 N [.inr 64] [A0, B, (moSeg 64 k f c n kp l nt w sh (p : Int) t d wa), A3, B4, A5, C6] ((aQx (some (.inl (msO c p p))) [A0, B, (moSeg 64 k f c n kp l nt w sh (p : Int) t d wa), A3, B4, A5, C6])) := by
  refine aEv_of okX3_mostSteps caX3_mostSteps (Nat.le_of_ble_eq_true rfl) ?_
  have lp : ∀ (j i : Nat), i + j = p → AW mX3_mostSteps 3 0 0 N none (aQx (some (.inl (msO c p p))) [A0, B, (moSeg 64 k f c n kp l nt w sh (p : Int) t d wa), A3, B4, A5, C6]) (5, [some (.inr 64), some (.inl (msO c p i)), some (.inl (i : Int)), none], [], [A0, B, (moSeg 64 k f c n kp l nt w sh (p : Int) t d wa), A3, B4, A5, C6]) := by
    intro j
    induction j with
    | zero =>
      intro i  hij 
      obtain rfl : p = i := by omega
      refine aGo okX3_mostSteps 3 (f' := (10, [some (.inr 64), some (.inl (msO c p p)), some (.inl (p : Int)), none], [.inl (p : Int), .inl (p : Int)], _)) rfl ?_
      refine b_ge (tgt := 48) okX3_mostSteps rfl rfl ⟨by omega, by omega⟩ ⟨by omega, by omega⟩ (fun h10 => ?_) (fun h10 => absurd h10 (by omega))
      refine aGo okX3_mostSteps 1 (f' := (49, [some (.inr 64), some (.inl (msO c p p)), some (.inl (p : Int)), none], [.inl (msO c p p)], _)) rfl ?_
      exact b_ret (v := (some (.inl (msO c p p)))) ⟨rfl, Or.inl rfl⟩ ⟨rfl, rfl⟩ rfl
    | succ j ih =>
      intro i  hij 
      have lq : ∀ (j2 x : Nat), x + j2 = (p - (i + 1)) → AW mX3_mostSteps 3 0 0 N none (aQx (some (.inl (msO c p p))) [A0, B, (moSeg 64 k f c n kp l nt w sh (p : Int) t d wa), A3, B4, A5, C6]) (17, [some (.inr 64), some (.inl (msI c i (msO c p i) x)), some (.inl (i : Int)), some (.inl ((((i + 1) + x) : Nat) : Int))], [], [A0, B, (moSeg 64 k f c n kp l nt w sh (p : Int) t d wa), A3, B4, A5, C6]) := by
        intro j2
        induction j2 with
        | zero =>
          intro x  hij2 
          obtain rfl : (p - (i + 1)) = x := by omega
          refine aGo okX3_mostSteps 3 (f' := (22, [some (.inr 64), some (.inl (msI c i (msO c p i) (p - (i + 1)))), some (.inl (i : Int)), some (.inl ((((i + 1) + (p - (i + 1))) : Nat) : Int))], [.inl (p : Int), .inl ((((i + 1) + (p - (i + 1))) : Nat) : Int)], _)) rfl ?_
          refine b_ge (tgt := 42) okX3_mostSteps rfl rfl ⟨by omega, by omega⟩ ⟨by omega, by omega⟩ (fun h22 => ?_) (fun h22 => absurd h22 (by omega))
          refine aGo okX3_mostSteps 2 (f' := (5, [some (.inr 64), some (.inl (msI c i (msO c p i) (p - (i + 1)))), some (.inl ((i : Int) + 1)), some (.inl ((((i + 1) + (p - (i + 1))) : Nat) : Int))], [], _)) rfl ?_
          refine b_lose (ls' := [some (.inr 64), some (.inl (msI c i (msO c p i) (p - (i + 1)))), some (.inl ((i : Int) + 1)), none]) (lose3 _ _ _ _) ?_
          exact ih (i + 1) (by omega)
        | succ j2 ih2 =>
          intro x  hij2 
          have r1 := msI_le rc (msO_le rc (p := p) i) (a := i) x
          have r2 := stp_le (rc i) (rc ((i + 1) + x))
          refine aGo okX3_mostSteps 3 (f' := (22, [some (.inr 64), some (.inl (msI c i (msO c p i) x)), some (.inl (i : Int)), some (.inl ((((i + 1) + x) : Nat) : Int))], [.inl (p : Int), .inl ((((i + 1) + x) : Nat) : Int)], _)) rfl ?_
          refine b_ge (tgt := 42) okX3_mostSteps rfl rfl ⟨by omega, by omega⟩ ⟨by omega, by omega⟩ (fun h22 => absurd h22 (by omega)) (fun h22 => ?_)
          refine aGo okX3_mostSteps 4 (f' := (29, [some (.inr 64), some (.inl (msI c i (msO c p i) x)), some (.inl (i : Int)), some (.inl ((((i + 1) + x) : Nat) : Int))], [.inl ((((i + 1) + x) : Nat) : Int), .inl (i : Int), .inr 64, .inl (msI c i (msO c p i) x)], _)) rfl ?_
          refine b_vV (as := [.inl (i : Int), .inl ((((i + 1) + x) : Nat) : Int)]) (rest := [.inl (msI c i (msO c p i) x)]) (k := 64) (.inl (stp (c.getD i 0) (c.getD ((i + 1) + x) 0))) okX3_mostSteps rfl lkX3_83 caX3_stepsOf (Nat.le_of_ble_eq_true rfl) rfl (Nat.le_of_ble_eq_true rfl) rfl rfl rfl (c_stepsOf_2 (i := i) (j := ((i + 1) + x)) (by first | omega | (simp only [List.length_set]; omega)) rc (by omega) (by omega)) ?_
          refine b_max okX3_mostSteps rfl lkX3_86 ma_max_s ma_max_c (Nat.le_of_ble_eq_true rfl) (Nat.le_of_ble_eq_true rfl) ⟨by omega, by omega⟩ ⟨by omega, by omega⟩ ?_
          refine aGo okX3_mostSteps 3 (f' := (17, [some (.inr 64), some (.inl (max (msI c i (msO c p i) x) (stp (c.getD i 0) (c.getD ((i + 1) + x) 0)))), some (.inl (i : Int)), some (.inl (((((i + 1) + x) : Nat) : Int) + 1))], [], _)) rfl ?_
          exact ih2 (x + 1) (by omega)
      refine aGo okX3_mostSteps 3 (f' := (10, [some (.inr 64), some (.inl (msO c p i)), some (.inl (i : Int)), none], [.inl (p : Int), .inl (i : Int)], _)) rfl ?_
      refine b_ge (tgt := 48) okX3_mostSteps rfl rfl ⟨by omega, by omega⟩ ⟨by omega, by omega⟩ (fun h10 => absurd h10 (by omega)) (fun h10 => ?_)
      refine aGo okX3_mostSteps 4 (f' := (17, [some (.inr 64), some (.inl (msO c p i)), some (.inl (i : Int)), some (.inl ((i : Int) + 1))], [], _)) rfl ?_
      exact lq (p - (i + 1)) 0 (by omega)
  refine aGo okX3_mostSteps 4 (f' := (5, [some (.inr 64), some (.inl (-9)), some (.inl 0), none], [], _)) rfl ?_
  exact lp p 0 (by omega)
set_option maxRecDepth 100000 in
set_option maxHeartbeats 4000000 in
theorem c_nearestPair_2 (hp : p ≤ 7) (hc : c.length = 7) (rc : rng c 35) : aEv mX3_nearestPair 3 0 0 N [.inr 64] [A0, B, (moSeg 64 k f c n kp l nt w sh (p : Int) t d wa), A3, B4, A5, C6] ((aQx (some (.inl (npO c p p).1)) [A0, B, (moSeg 64 k f c n kp l nt w sh (p : Int) t d wa), A3, B4, A5, C6])) := by
  refine aEv_of okX3_nearestPair caX3_nearestPair (Nat.le_of_ble_eq_true rfl) ?_
  have lp : ∀ (j i : Nat), i + j = p → AW mX3_nearestPair 3 0 0 N none (aQx (some (.inl (npO c p p).1)) [A0, B, (moSeg 64 k f c n kp l nt w sh (p : Int) t d wa), A3, B4, A5, C6]) (8, [some (.inr 64), some (.inl ((npO c p i).1)), some (.inl ((npO c p i).2)), some (.inl (i : Int)), none], [], [A0, B, (moSeg 64 k f c n kp l nt w sh (p : Int) t d wa), A3, B4, A5, C6]) := by
    intro j
    induction j with
    | zero =>
      intro i  hij 
      obtain rfl : p = i := by omega
      refine aGo okX3_nearestPair 3 (f' := (13, [some (.inr 64), some (.inl ((npO c p p).1)), some (.inl ((npO c p p).2)), some (.inl (p : Int)), none], [.inl (p : Int), .inl (p : Int)], _)) rfl ?_
      refine b_ge (tgt := 69) okX3_nearestPair rfl rfl ⟨by omega, by omega⟩ ⟨by omega, by omega⟩ (fun h13 => ?_) (fun h13 => absurd h13 (by omega))
      refine aGo okX3_nearestPair 1 (f' := (70, [some (.inr 64), some (.inl ((npO c p p).1)), some (.inl ((npO c p p).2)), some (.inl (p : Int)), none], [.inl ((npO c p p).1)], _)) rfl ?_
      exact b_ret (v := (some (.inl ((npO c p p).1)))) ⟨rfl, Or.inl rfl⟩ ⟨rfl, rfl⟩ rfl
    | succ j ih =>
      intro i  hij 
      have lq : ∀ (j2 x : Nat), x + j2 = (p - (i + 1)) → AW mX3_nearestPair 3 0 0 N none (aQx (some (.inl (npO c p p).1)) [A0, B, (moSeg 64 k f c n kp l nt w sh (p : Int) t d wa), A3, B4, A5, C6]) (21, [some (.inr 64), some (.inl ((npI c i (npO c p i) x).1)), some (.inl ((npI c i (npO c p i) x).2)), some (.inl (i : Int)), some (.inl ((((i + 1) + x) : Nat) : Int))], [], [A0, B, (moSeg 64 k f c n kp l nt w sh (p : Int) t d wa), A3, B4, A5, C6]) := by
        intro j2
        induction j2 with
        | zero =>
          intro x  hij2 
          obtain rfl : (p - (i + 1)) = x := by omega
          refine aGo okX3_nearestPair 3 (f' := (27, [some (.inr 64), some (.inl ((npI c i (npO c p i) (p - (i + 1))).1)), some (.inl ((npI c i (npO c p i) (p - (i + 1))).2)), some (.inl (i : Int)), some (.inl ((((i + 1) + (p - (i + 1))) : Nat) : Int))], [.inl (p : Int), .inl ((((i + 1) + (p - (i + 1))) : Nat) : Int)], _)) rfl ?_
          refine b_ge (tgt := 63) okX3_nearestPair rfl rfl ⟨by omega, by omega⟩ ⟨by omega, by omega⟩ (fun h27 => ?_) (fun h27 => absurd h27 (by omega))
          refine aGo okX3_nearestPair 2 (f' := (8, [some (.inr 64), some (.inl ((npI c i (npO c p i) (p - (i + 1))).1)), some (.inl ((npI c i (npO c p i) (p - (i + 1))).2)), some (.inl ((i : Int) + 1)), some (.inl ((((i + 1) + (p - (i + 1))) : Nat) : Int))], [], _)) rfl ?_
          refine b_lose (ls' := [some (.inr 64), some (.inl ((npI c i (npO c p i) (p - (i + 1))).1)), some (.inl ((npI c i (npO c p i) (p - (i + 1))).2)), some (.inl ((i : Int) + 1)), none]) (lose4g _ _ _ _ _) ?_
          exact ih (i + 1) (by omega)
        | succ j2 ih2 =>
          intro x  hij2 
          have r0 := npOK_le (p := p) rc hp (npI_ok (p := p) (a := i) (npO_ok (c := c) (p := p) i (by omega)) x (by omega))
          have r2 := stp_le (rc i) (rc ((i + 1) + x))
          refine aGo okX3_nearestPair 3 (f' := (27, [some (.inr 64), some (.inl ((npI c i (npO c p i) x).1)), some (.inl ((npI c i (npO c p i) x).2)), some (.inl (i : Int)), some (.inl ((((i + 1) + x) : Nat) : Int))], [.inl (p : Int), .inl ((((i + 1) + x) : Nat) : Int)], _)) rfl ?_
          refine b_ge (tgt := 63) okX3_nearestPair rfl rfl ⟨by omega, by omega⟩ ⟨by omega, by omega⟩ (fun h27 => absurd h27 (by omega)) (fun h27 => ?_)
          refine aGo okX3_nearestPair 3 (f' := (34, [some (.inr 64), some (.inl ((npI c i (npO c p i) x).1)), some (.inl ((npI c i (npO c p i) x).2)), some (.inl (i : Int)), some (.inl ((((i + 1) + x) : Nat) : Int))], [.inl ((((i + 1) + x) : Nat) : Int), .inl (i : Int), .inr 64], _)) rfl ?_
          refine b_vV (as := [.inl (i : Int), .inl ((((i + 1) + x) : Nat) : Int)]) (rest := []) (k := 64) (.inl (stp (c.getD i 0) (c.getD ((i + 1) + x) 0))) okX3_nearestPair rfl lkX3_83 caX3_stepsOf (Nat.le_of_ble_eq_true rfl) rfl (Nat.le_of_ble_eq_true rfl) rfl rfl rfl (c_stepsOf_2 (i := i) (j := ((i + 1) + x)) (by first | omega | (simp only [List.length_set]; omega)) rc (by omega) (by omega)) ?_
          refine aGo okX3_nearestPair 1 (f' := (38, [some (.inr 64), some (.inl ((npI c i (npO c p i) x).1)), some (.inl ((npI c i (npO c p i) x).2)), some (.inl (i : Int)), some (.inl ((((i + 1) + x) : Nat) : Int))], [.inl ((npI c i (npO c p i) x).2), .inl (stp (c.getD i 0) (c.getD ((i + 1) + x) 0))], _)) rfl ?_
          refine b_ge (tgt := 57) okX3_nearestPair rfl rfl ⟨by omega, by omega⟩ ⟨by omega, by omega⟩ (fun h38 => ?_) (fun h38 => ?_)
          · refine aGo okX3_nearestPair 2 (f' := (21, [some (.inr 64), some (.inl ((npI c i (npO c p i) x).1)), some (.inl ((npI c i (npO c p i) x).2)), some (.inl (i : Int)), some (.inl (((((i + 1) + x) : Nat) : Int) + 1))], [], _)) rfl ?_
            refine b_cast (f' := (21, [some (.inr 64), some (.inl ((npI c i (npO c p i) (x + 1)).1)), some (.inl ((npI c i (npO c p i) (x + 1)).2)), some (.inl (i : Int)), some (.inl (((((i + 1) + x) : Nat) : Int) + 1))], [], [A0, B, (moSeg 64 k f c n kp l nt w sh (p : Int) t d wa), A3, B4, A5, C6])) (by simp only [npI_f h38]; first | done | rfl) ?_
            exact ih2 (x + 1) (by omega)
          · refine aGo okX3_nearestPair 3 (f' := (45, [some (.inr 64), some (.inl ((npI c i (npO c p i) x).1)), some (.inl ((npI c i (npO c p i) x).2)), some (.inl (i : Int)), some (.inl ((((i + 1) + x) : Nat) : Int))], [.inl ((((i + 1) + x) : Nat) : Int), .inl (i : Int), .inr 64], _)) rfl ?_
            refine b_vV (as := [.inl (i : Int), .inl ((((i + 1) + x) : Nat) : Int)]) (rest := []) (k := 64) (.inl (stp (c.getD i 0) (c.getD ((i + 1) + x) 0))) okX3_nearestPair rfl lkX3_83 caX3_stepsOf (Nat.le_of_ble_eq_true rfl) rfl (Nat.le_of_ble_eq_true rfl) rfl rfl rfl (c_stepsOf_2 (i := i) (j := ((i + 1) + x)) (by first | omega | (simp only [List.length_set]; omega)) rc (by omega) (by omega)) ?_
            refine aGo okX3_nearestPair 9 (f' := (21, [some (.inr 64), some (.inl ((10 * (i : Int)) + ((((i + 1) + x) : Nat) : Int))), some (.inl (stp (c.getD i 0) (c.getD ((i + 1) + x) 0))), some (.inl (i : Int)), some (.inl (((((i + 1) + x) : Nat) : Int) + 1))], [], _)) rfl ?_
            refine b_cast (f' := (21, [some (.inr 64), some (.inl ((npI c i (npO c p i) (x + 1)).1)), some (.inl ((npI c i (npO c p i) (x + 1)).2)), some (.inl (i : Int)), some (.inl (((((i + 1) + x) : Nat) : Int) + 1))], [], [A0, B, (moSeg 64 k f c n kp l nt w sh (p : Int) t d wa), A3, B4, A5, C6])) (by simp only [npI_t h38]; first | done | rfl) ?_
            exact ih2 (x + 1) (by omega)
      refine aGo okX3_nearestPair 3 (f' := (13, [some (.inr 64), some (.inl ((npO c p i).1)), some (.inl ((npO c p i).2)), some (.inl (i : Int)), none], [.inl (p : Int), .inl (i : Int)], _)) rfl ?_
      refine b_ge (tgt := 69) okX3_nearestPair rfl rfl ⟨by omega, by omega⟩ ⟨by omega, by omega⟩ (fun h13 => absurd h13 (by omega)) (fun h13 => ?_)
      refine aGo okX3_nearestPair 4 (f' := (21, [some (.inr 64), some (.inl ((npO c p i).1)), some (.inl ((npO c p i).2)), some (.inl (i : Int)), some (.inl ((i : Int) + 1))], [], _)) rfl ?_
      exact lq (p - (i + 1)) 0 (by omega)
  refine aGo okX3_nearestPair 6 (f' := (8, [some (.inr 64), some (.inl (-9)), some (.inl 11), some (.inl 0), none], [], _)) rfl ?_
  exact lp p 0 (by omega)
set_option maxRecDepth 100000 in
set_option maxHeartbeats 4000000 in
theorem c_leastSteps_2_f (hp : p ≤ 7) (hc : c.length = 7) (rc : rng c 35) (hz : (npO c p p).1 = -9) : aEv mX3_leastSteps 4 0 0 N [.inr 64] [A0, B, (moSeg 64 k f c n kp l nt w sh (p : Int) t d wa), A3, B4, A5, C6] ((aQx (some (.inl (-9))) [A0, B, (moSeg 64 k f c n kp l nt w sh (p : Int) t d wa), A3, B4, A5, C6])) := by
  refine aEv_of okX3_leastSteps caX3_leastSteps (Nat.le_of_ble_eq_true rfl) ?_
  have hz2 : -9 ≤ (npO c p p).1 := by omega
  refine aGo okX3_leastSteps 1 (f' := (1, [some (.inr 64), none], [.inr 64], _)) rfl ?_
  refine b_vV (as := []) (rest := []) (k := 64) (.inl ((npO c p p).1)) okX3_leastSteps rfl lkX3_91 caX3_nearestPair (Nat.le_of_ble_eq_true rfl) rfl (Nat.le_of_ble_eq_true rfl) rfl rfl rfl (c_nearestPair_2 hp hc rc) ?_
  refine aGo okX3_leastSteps 3 (f' := (8, [some (.inr 64), some (.inl ((npO c p p).1))], [.inl (-9), .inl ((npO c p p).1)], _)) rfl ?_
  refine b_ne (tgt := 16) okX3_leastSteps rfl rfl ⟨by omega, by omega⟩ ⟨by omega, by omega⟩ (fun h8 => absurd h8 (by omega)) (fun h8 => ?_)
  refine aGo okX3_leastSteps 2 (f' := (28, [some (.inr 64), some (.inl ((npO c p p).1))], [.inl (-9)], _)) rfl ?_
  exact b_ret (v := (some (.inl (-9)))) ⟨rfl, Or.inl rfl⟩ ⟨rfl, rfl⟩ rfl
set_option maxRecDepth 100000 in
set_option maxHeartbeats 4000000 in
theorem c_leastSteps_2_t (hp : p ≤ 7) (hc : c.length = 7) (rc : rng c 35) {a b : Nat} (ha : a < 10) (hb : b < 10) (hz : (npO c p p).1 = 10 * (a : Int) + (b : Int)) : aEv mX3_leastSteps 4 0 0 N [.inr 64] [A0, B, (moSeg 64 k f c n kp l nt w sh (p : Int) t d wa), A3, B4, A5, C6] ((aQx (some (.inl (stp (c.getD a 0) (c.getD b 0)))) [A0, B, (moSeg 64 k f c n kp l nt w sh (p : Int) t d wa), A3, B4, A5, C6])) := by
  refine aEv_of okX3_leastSteps caX3_leastSteps (Nat.le_of_ble_eq_true rfl) ?_
  refine aGo okX3_leastSteps 1 (f' := (1, [some (.inr 64), none], [.inr 64], _)) rfl ?_
  refine b_vV (as := []) (rest := []) (k := 64) (.inl ((npO c p p).1)) okX3_leastSteps rfl lkX3_91 caX3_nearestPair (Nat.le_of_ble_eq_true rfl) rfl (Nat.le_of_ble_eq_true rfl) rfl rfl rfl (c_nearestPair_2 hp hc rc) ?_
  refine aGo okX3_leastSteps 1 (f' := (5, [some (.inr 64), some (.inl ((npO c p p).1))], [], _)) rfl ?_
  refine b_cast (f' := (5, [some (.inr 64), some (.inl ((10 * (a : Int)) + (b : Int)))], [], [A0, B, (moSeg 64 k f c n kp l nt w sh (p : Int) t d wa), A3, B4, A5, C6])) (by rw [hz]) ?_
  refine aGo okX3_leastSteps 2 (f' := (8, [some (.inr 64), some (.inl ((10 * (a : Int)) + (b : Int)))], [.inl (-9), .inl ((10 * (a : Int)) + (b : Int))], _)) rfl ?_
  refine b_ne (tgt := 16) okX3_leastSteps rfl rfl ⟨by omega, by omega⟩ ⟨by omega, by omega⟩ (fun h8 => ?_) (fun h8 => absurd h8 (by omega))
  refine aGo okX3_leastSteps 3 (f' := (20, [some (.inr 64), some (.inl ((10 * (a : Int)) + (b : Int)))], [.inl 10, .inl ((10 * (a : Int)) + (b : Int)), .inr 64], _)) rfl ?_
  refine b_div okX3_leastSteps rfl ⟨by omega, by omega⟩ ⟨by omega, by omega⟩ ?_
  refine b_cast (f' := (21, [some (.inr 64), some (.inl ((10 * (a : Int)) + (b : Int)))], [.inl (a : Int), .inr 64], [A0, B, (moSeg 64 k f c n kp l nt w sh (p : Int) t d wa), A3, B4, A5, C6])) (by rw [show (10 * (a : Int) + (b : Int)) / 10 = (a : Int) by omega]) ?_
  refine aGo okX3_leastSteps 2 (f' := (24, [some (.inr 64), some (.inl ((10 * (a : Int)) + (b : Int)))], [.inl 10, .inl ((10 * (a : Int)) + (b : Int)), .inl (a : Int), .inr 64], _)) rfl ?_
  refine b_rem okX3_leastSteps rfl ⟨by omega, by omega⟩ ⟨by omega, by omega⟩ ?_
  refine b_cast (f' := (25, [some (.inr 64), some (.inl ((10 * (a : Int)) + (b : Int)))], [.inl (b : Int), .inl (a : Int), .inr 64], [A0, B, (moSeg 64 k f c n kp l nt w sh (p : Int) t d wa), A3, B4, A5, C6])) (by rw [show (10 * (a : Int) + (b : Int)) % 10 = (b : Int) by omega]) ?_
  refine b_vV (as := [.inl (a : Int), .inl (b : Int)]) (rest := []) (k := 64) (.inl (stp (c.getD a 0) (c.getD b 0))) okX3_leastSteps rfl lkX3_83 caX3_stepsOf (Nat.le_of_ble_eq_true rfl) rfl (Nat.le_of_ble_eq_true rfl) rfl rfl rfl (c_stepsOf_2 (i := a) (j := b) (by first | omega | (simp only [List.length_set]; omega)) rc (by omega) (by omega)) ?_
  exact b_ret (v := (some (.inl (stp (c.getD a 0) (c.getD b 0))))) ⟨rfl, Or.inl rfl⟩ ⟨rfl, rfl⟩ rfl
variable {B1 B2 : List (Option aE)} {k0 f0 c0 n0 kp0 l0 nt0 w0 sh0 : List Int} {P0 t0 d0 wa0 P : Int}
def lens (k f c n kp l nt w sh : List Int) : Prop := k.length = 7 ∧ f.length = 7 ∧ c.length = 7 ∧ n.length = 7 ∧ kp.length = 7 ∧ l.length = 49 ∧ nt.length = 7 ∧ w.length = 7 ∧ sh.length = 7
set_option maxRecDepth 100000 in
set_option maxHeartbeats 4000000 in
theorem c_take_21 (h1 : lens k f c n kp l nt w sh) (h2 : lens k0 f0 c0 n0 kp0 l0 nt0 w0 sh0) : aEv mX3_takeFrom 2 0 0 N [.inr 64, .inr 32] [A0, (moSeg 32 k f c n kp l nt w sh P t d wa), (moSeg 64 k0 f0 c0 n0 kp0 l0 nt0 w0 sh0 P0 t0 d0 wa0), A3, B4, A5, C6] ((aQx (none) [A0, (moSeg 32 k f c n kp l nt w sh P t d wa), (moSeg 64 k f c n kp l nt w sh P t d wa), A3, B4, A5, C6])) := by
  obtain ⟨e1, e2, e3, e4, e5, e6, e7, e8, e9⟩ := h1
  obtain ⟨g1, g2, g3, g4, g5, g6, g7, g8, g9⟩ := h2
  refine aEv_of okX3_takeFrom caX3_takeFrom (Nat.le_of_ble_eq_true rfl) ?_
  refine aGo okX3_takeFrom 4 (f' := (8, [some (.inr 64), some (.inr 32)], [.inr 33, .inr 65], _)) rfl ?_
  refine b_vN (as := [.inr 33]) (rest := []) (k := 65) okX3_takeFrom rfl lkX3_57 caX4_takeFrom (Nat.le_of_ble_eq_true rfl) rfl (Nat.le_of_ble_eq_true rfl) rfl rfl rfl (c_takeFrom (l := k0) (m := k) (fun _ => rfl) (fun _ => rfl) (fun _ => rfl) (fun _ => rfl) (fun _ _ => rfl) rfl rfl rfl rfl rfl (by omega) (by omega)) ?_
  refine b_cast (f' := (11, [some (.inr 64), some (.inr 32)], [], [A0, (moSeg 32 k f c n kp l nt w sh P t d wa), (moSeg 64 k f0 c0 n0 kp0 l0 nt0 w0 sh0 P0 t0 d0 wa0), A3, B4, A5, C6])) rfl ?_
  refine aGo okX3_takeFrom 4 (f' := (19, [some (.inr 64), some (.inr 32)], [.inr 35, .inr 67], _)) rfl ?_
  refine b_vN (as := [.inr 35]) (rest := []) (k := 67) okX3_takeFrom rfl lkX3_57 caX4_takeFrom (Nat.le_of_ble_eq_true rfl) rfl (Nat.le_of_ble_eq_true rfl) rfl rfl rfl (c_takeFrom (l := f0) (m := f) (fun _ => rfl) (fun _ => rfl) (fun _ => rfl) (fun _ => rfl) (fun _ _ => rfl) rfl rfl rfl rfl rfl (by omega) (by omega)) ?_
  refine b_cast (f' := (22, [some (.inr 64), some (.inr 32)], [], [A0, (moSeg 32 k f c n kp l nt w sh P t d wa), (moSeg 64 k f c0 n0 kp0 l0 nt0 w0 sh0 P0 t0 d0 wa0), A3, B4, A5, C6])) rfl ?_
  refine aGo okX3_takeFrom 4 (f' := (30, [some (.inr 64), some (.inr 32)], [.inr 37, .inr 69], _)) rfl ?_
  refine b_vN (as := [.inr 37]) (rest := []) (k := 69) okX3_takeFrom rfl lkX3_57 caX4_takeFrom (Nat.le_of_ble_eq_true rfl) rfl (Nat.le_of_ble_eq_true rfl) rfl rfl rfl (c_takeFrom (l := c0) (m := c) (fun _ => rfl) (fun _ => rfl) (fun _ => rfl) (fun _ => rfl) (fun _ _ => rfl) rfl rfl rfl rfl rfl (by omega) (by omega)) ?_
  refine b_cast (f' := (33, [some (.inr 64), some (.inr 32)], [], [A0, (moSeg 32 k f c n kp l nt w sh P t d wa), (moSeg 64 k f c n0 kp0 l0 nt0 w0 sh0 P0 t0 d0 wa0), A3, B4, A5, C6])) rfl ?_
  refine aGo okX3_takeFrom 4 (f' := (41, [some (.inr 64), some (.inr 32)], [.inr 39, .inr 71], _)) rfl ?_
  refine b_vN (as := [.inr 39]) (rest := []) (k := 71) okX3_takeFrom rfl lkX3_57 caX4_takeFrom (Nat.le_of_ble_eq_true rfl) rfl (Nat.le_of_ble_eq_true rfl) rfl rfl rfl (c_takeFrom (l := n0) (m := n) (fun _ => rfl) (fun _ => rfl) (fun _ => rfl) (fun _ => rfl) (fun _ _ => rfl) rfl rfl rfl rfl rfl (by omega) (by omega)) ?_
  refine b_cast (f' := (44, [some (.inr 64), some (.inr 32)], [], [A0, (moSeg 32 k f c n kp l nt w sh P t d wa), (moSeg 64 k f c n kp0 l0 nt0 w0 sh0 P0 t0 d0 wa0), A3, B4, A5, C6])) rfl ?_
  refine aGo okX3_takeFrom 4 (f' := (52, [some (.inr 64), some (.inr 32)], [.inr 41, .inr 73], _)) rfl ?_
  refine b_vN (as := [.inr 41]) (rest := []) (k := 73) okX3_takeFrom rfl lkX3_57 caX4_takeFrom (Nat.le_of_ble_eq_true rfl) rfl (Nat.le_of_ble_eq_true rfl) rfl rfl rfl (c_takeFrom (l := kp0) (m := kp) (fun _ => rfl) (fun _ => rfl) (fun _ => rfl) (fun _ => rfl) (fun _ _ => rfl) rfl rfl rfl rfl rfl (by omega) (by omega)) ?_
  refine b_cast (f' := (55, [some (.inr 64), some (.inr 32)], [], [A0, (moSeg 32 k f c n kp l nt w sh P t d wa), (moSeg 64 k f c n kp l0 nt0 w0 sh0 P0 t0 d0 wa0), A3, B4, A5, C6])) rfl ?_
  refine aGo okX3_takeFrom 4 (f' := (63, [some (.inr 64), some (.inr 32)], [.inr 43, .inr 75], _)) rfl ?_
  refine b_vN (as := [.inr 43]) (rest := []) (k := 75) okX3_takeFrom rfl lkX3_57 caX4_takeFrom (Nat.le_of_ble_eq_true rfl) rfl (Nat.le_of_ble_eq_true rfl) rfl rfl rfl (c_takeFrom (l := l0) (m := l) (fun _ => rfl) (fun _ => rfl) (fun _ => rfl) (fun _ => rfl) (fun _ _ => rfl) rfl rfl rfl rfl rfl (by omega) (by omega)) ?_
  refine b_cast (f' := (66, [some (.inr 64), some (.inr 32)], [], [A0, (moSeg 32 k f c n kp l nt w sh P t d wa), (moSeg 64 k f c n kp l nt0 w0 sh0 P0 t0 d0 wa0), A3, B4, A5, C6])) rfl ?_
  refine aGo okX3_takeFrom 4 (f' := (74, [some (.inr 64), some (.inr 32)], [.inr 45, .inr 77], _)) rfl ?_
  refine b_vN (as := [.inr 45]) (rest := []) (k := 77) okX3_takeFrom rfl lkX3_57 caX4_takeFrom (Nat.le_of_ble_eq_true rfl) rfl (Nat.le_of_ble_eq_true rfl) rfl rfl rfl (c_takeFrom (l := nt0) (m := nt) (fun _ => rfl) (fun _ => rfl) (fun _ => rfl) (fun _ => rfl) (fun _ _ => rfl) rfl rfl rfl rfl rfl (by omega) (by omega)) ?_
  refine b_cast (f' := (77, [some (.inr 64), some (.inr 32)], [], [A0, (moSeg 32 k f c n kp l nt w sh P t d wa), (moSeg 64 k f c n kp l nt w0 sh0 P0 t0 d0 wa0), A3, B4, A5, C6])) rfl ?_
  refine aGo okX3_takeFrom 4 (f' := (85, [some (.inr 64), some (.inr 32)], [.inr 47, .inr 79], _)) rfl ?_
  refine b_vN (as := [.inr 47]) (rest := []) (k := 79) okX3_takeFrom rfl lkX3_57 caX4_takeFrom (Nat.le_of_ble_eq_true rfl) rfl (Nat.le_of_ble_eq_true rfl) rfl rfl rfl (c_takeFrom (l := w0) (m := w) (fun _ => rfl) (fun _ => rfl) (fun _ => rfl) (fun _ => rfl) (fun _ _ => rfl) rfl rfl rfl rfl rfl (by omega) (by omega)) ?_
  refine b_cast (f' := (88, [some (.inr 64), some (.inr 32)], [], [A0, (moSeg 32 k f c n kp l nt w sh P t d wa), (moSeg 64 k f c n kp l nt w sh0 P0 t0 d0 wa0), A3, B4, A5, C6])) rfl ?_
  refine aGo okX3_takeFrom 4 (f' := (96, [some (.inr 64), some (.inr 32)], [.inr 49, .inr 81], _)) rfl ?_
  refine b_vN (as := [.inr 49]) (rest := []) (k := 81) okX3_takeFrom rfl lkX3_57 caX4_takeFrom (Nat.le_of_ble_eq_true rfl) rfl (Nat.le_of_ble_eq_true rfl) rfl rfl rfl (c_takeFrom (l := sh0) (m := sh) (fun _ => rfl) (fun _ => rfl) (fun _ => rfl) (fun _ => rfl) (fun _ _ => rfl) rfl rfl rfl rfl rfl (by omega) (by omega)) ?_
  refine b_cast (f' := (99, [some (.inr 64), some (.inr 32)], [], [A0, (moSeg 32 k f c n kp l nt w sh P t d wa), (moSeg 64 k f c n kp l nt w sh P0 t0 d0 wa0), A3, B4, A5, C6])) rfl ?_
  refine aGo okX3_takeFrom 16 (f' := (131, [some (.inr 64), some (.inr 32)], [], [A0, (moSeg 32 k f c n kp l nt w sh P t d wa), (moSeg 64 k f c n kp l nt w sh P t d wa), A3, B4, A5, C6])) rfl ?_
  exact b_ret (v := none) ⟨rfl, rfl⟩ ⟨rfl, rfl⟩ rfl
set_option maxRecDepth 100000 in
set_option maxHeartbeats 4000000 in
theorem c_take_12 (h1 : lens k f c n kp l nt w sh) (h2 : lens k0 f0 c0 n0 kp0 l0 nt0 w0 sh0) : aEv mX3_takeFrom 2 0 0 N [.inr 32, .inr 64] [A0, (moSeg 32 k0 f0 c0 n0 kp0 l0 nt0 w0 sh0 P0 t0 d0 wa0), (moSeg 64 k f c n kp l nt w sh P t d wa), A3, B4, A5, C6] ((aQx (none) [A0, (moSeg 32 k f c n kp l nt w sh P t d wa), (moSeg 64 k f c n kp l nt w sh P t d wa), A3, B4, A5, C6])) := by
  obtain ⟨e1, e2, e3, e4, e5, e6, e7, e8, e9⟩ := h1
  obtain ⟨g1, g2, g3, g4, g5, g6, g7, g8, g9⟩ := h2
  refine aEv_of okX3_takeFrom caX3_takeFrom (Nat.le_of_ble_eq_true rfl) ?_
  refine aGo okX3_takeFrom 4 (f' := (8, [some (.inr 32), some (.inr 64)], [.inr 65, .inr 33], _)) rfl ?_
  refine b_vN (as := [.inr 65]) (rest := []) (k := 33) okX3_takeFrom rfl lkX3_57 caX4_takeFrom (Nat.le_of_ble_eq_true rfl) rfl (Nat.le_of_ble_eq_true rfl) rfl rfl rfl (c_takeFrom (l := k0) (m := k) (fun _ => rfl) (fun _ => rfl) (fun _ => rfl) (fun _ => rfl) (fun _ _ => rfl) rfl rfl rfl rfl rfl (by omega) (by omega)) ?_
  refine b_cast (f' := (11, [some (.inr 32), some (.inr 64)], [], [A0, (moSeg 32 k f0 c0 n0 kp0 l0 nt0 w0 sh0 P0 t0 d0 wa0), (moSeg 64 k f c n kp l nt w sh P t d wa), A3, B4, A5, C6])) rfl ?_
  refine aGo okX3_takeFrom 4 (f' := (19, [some (.inr 32), some (.inr 64)], [.inr 67, .inr 35], _)) rfl ?_
  refine b_vN (as := [.inr 67]) (rest := []) (k := 35) okX3_takeFrom rfl lkX3_57 caX4_takeFrom (Nat.le_of_ble_eq_true rfl) rfl (Nat.le_of_ble_eq_true rfl) rfl rfl rfl (c_takeFrom (l := f0) (m := f) (fun _ => rfl) (fun _ => rfl) (fun _ => rfl) (fun _ => rfl) (fun _ _ => rfl) rfl rfl rfl rfl rfl (by omega) (by omega)) ?_
  refine b_cast (f' := (22, [some (.inr 32), some (.inr 64)], [], [A0, (moSeg 32 k f c0 n0 kp0 l0 nt0 w0 sh0 P0 t0 d0 wa0), (moSeg 64 k f c n kp l nt w sh P t d wa), A3, B4, A5, C6])) rfl ?_
  refine aGo okX3_takeFrom 4 (f' := (30, [some (.inr 32), some (.inr 64)], [.inr 69, .inr 37], _)) rfl ?_
  refine b_vN (as := [.inr 69]) (rest := []) (k := 37) okX3_takeFrom rfl lkX3_57 caX4_takeFrom (Nat.le_of_ble_eq_true rfl) rfl (Nat.le_of_ble_eq_true rfl) rfl rfl rfl (c_takeFrom (l := c0) (m := c) (fun _ => rfl) (fun _ => rfl) (fun _ => rfl) (fun _ => rfl) (fun _ _ => rfl) rfl rfl rfl rfl rfl (by omega) (by omega)) ?_
  refine b_cast (f' := (33, [some (.inr 32), some (.inr 64)], [], [A0, (moSeg 32 k f c n0 kp0 l0 nt0 w0 sh0 P0 t0 d0 wa0), (moSeg 64 k f c n kp l nt w sh P t d wa), A3, B4, A5, C6])) rfl ?_
  refine aGo okX3_takeFrom 4 (f' := (41, [some (.inr 32), some (.inr 64)], [.inr 71, .inr 39], _)) rfl ?_
  refine b_vN (as := [.inr 71]) (rest := []) (k := 39) okX3_takeFrom rfl lkX3_57 caX4_takeFrom (Nat.le_of_ble_eq_true rfl) rfl (Nat.le_of_ble_eq_true rfl) rfl rfl rfl (c_takeFrom (l := n0) (m := n) (fun _ => rfl) (fun _ => rfl) (fun _ => rfl) (fun _ => rfl) (fun _ _ => rfl) rfl rfl rfl rfl rfl (by omega) (by omega)) ?_
  refine b_cast (f' := (44, [some (.inr 32), some (.inr 64)], [], [A0, (moSeg 32 k f c n kp0 l0 nt0 w0 sh0 P0 t0 d0 wa0), (moSeg 64 k f c n kp l nt w sh P t d wa), A3, B4, A5, C6])) rfl ?_
  refine aGo okX3_takeFrom 4 (f' := (52, [some (.inr 32), some (.inr 64)], [.inr 73, .inr 41], _)) rfl ?_
  refine b_vN (as := [.inr 73]) (rest := []) (k := 41) okX3_takeFrom rfl lkX3_57 caX4_takeFrom (Nat.le_of_ble_eq_true rfl) rfl (Nat.le_of_ble_eq_true rfl) rfl rfl rfl (c_takeFrom (l := kp0) (m := kp) (fun _ => rfl) (fun _ => rfl) (fun _ => rfl) (fun _ => rfl) (fun _ _ => rfl) rfl rfl rfl rfl rfl (by omega) (by omega)) ?_
  refine b_cast (f' := (55, [some (.inr 32), some (.inr 64)], [], [A0, (moSeg 32 k f c n kp l0 nt0 w0 sh0 P0 t0 d0 wa0), (moSeg 64 k f c n kp l nt w sh P t d wa), A3, B4, A5, C6])) rfl ?_
  refine aGo okX3_takeFrom 4 (f' := (63, [some (.inr 32), some (.inr 64)], [.inr 75, .inr 43], _)) rfl ?_
  refine b_vN (as := [.inr 75]) (rest := []) (k := 43) okX3_takeFrom rfl lkX3_57 caX4_takeFrom (Nat.le_of_ble_eq_true rfl) rfl (Nat.le_of_ble_eq_true rfl) rfl rfl rfl (c_takeFrom (l := l0) (m := l) (fun _ => rfl) (fun _ => rfl) (fun _ => rfl) (fun _ => rfl) (fun _ _ => rfl) rfl rfl rfl rfl rfl (by omega) (by omega)) ?_
  refine b_cast (f' := (66, [some (.inr 32), some (.inr 64)], [], [A0, (moSeg 32 k f c n kp l nt0 w0 sh0 P0 t0 d0 wa0), (moSeg 64 k f c n kp l nt w sh P t d wa), A3, B4, A5, C6])) rfl ?_
  refine aGo okX3_takeFrom 4 (f' := (74, [some (.inr 32), some (.inr 64)], [.inr 77, .inr 45], _)) rfl ?_
  refine b_vN (as := [.inr 77]) (rest := []) (k := 45) okX3_takeFrom rfl lkX3_57 caX4_takeFrom (Nat.le_of_ble_eq_true rfl) rfl (Nat.le_of_ble_eq_true rfl) rfl rfl rfl (c_takeFrom (l := nt0) (m := nt) (fun _ => rfl) (fun _ => rfl) (fun _ => rfl) (fun _ => rfl) (fun _ _ => rfl) rfl rfl rfl rfl rfl (by omega) (by omega)) ?_
  refine b_cast (f' := (77, [some (.inr 32), some (.inr 64)], [], [A0, (moSeg 32 k f c n kp l nt w0 sh0 P0 t0 d0 wa0), (moSeg 64 k f c n kp l nt w sh P t d wa), A3, B4, A5, C6])) rfl ?_
  refine aGo okX3_takeFrom 4 (f' := (85, [some (.inr 32), some (.inr 64)], [.inr 79, .inr 47], _)) rfl ?_
  refine b_vN (as := [.inr 79]) (rest := []) (k := 47) okX3_takeFrom rfl lkX3_57 caX4_takeFrom (Nat.le_of_ble_eq_true rfl) rfl (Nat.le_of_ble_eq_true rfl) rfl rfl rfl (c_takeFrom (l := w0) (m := w) (fun _ => rfl) (fun _ => rfl) (fun _ => rfl) (fun _ => rfl) (fun _ _ => rfl) rfl rfl rfl rfl rfl (by omega) (by omega)) ?_
  refine b_cast (f' := (88, [some (.inr 32), some (.inr 64)], [], [A0, (moSeg 32 k f c n kp l nt w sh0 P0 t0 d0 wa0), (moSeg 64 k f c n kp l nt w sh P t d wa), A3, B4, A5, C6])) rfl ?_
  refine aGo okX3_takeFrom 4 (f' := (96, [some (.inr 32), some (.inr 64)], [.inr 81, .inr 49], _)) rfl ?_
  refine b_vN (as := [.inr 81]) (rest := []) (k := 49) okX3_takeFrom rfl lkX3_57 caX4_takeFrom (Nat.le_of_ble_eq_true rfl) rfl (Nat.le_of_ble_eq_true rfl) rfl rfl rfl (c_takeFrom (l := sh0) (m := sh) (fun _ => rfl) (fun _ => rfl) (fun _ => rfl) (fun _ => rfl) (fun _ _ => rfl) rfl rfl rfl rfl rfl (by omega) (by omega)) ?_
  refine b_cast (f' := (99, [some (.inr 32), some (.inr 64)], [], [A0, (moSeg 32 k f c n kp l nt w sh P0 t0 d0 wa0), (moSeg 64 k f c n kp l nt w sh P t d wa), A3, B4, A5, C6])) rfl ?_
  refine aGo okX3_takeFrom 16 (f' := (131, [some (.inr 32), some (.inr 64)], [], [A0, (moSeg 32 k f c n kp l nt w sh P t d wa), (moSeg 64 k f c n kp l nt w sh P t d wa), A3, B4, A5, C6])) rfl ?_
  exact b_ret (v := none) ⟨rfl, rfl⟩ ⟨rfl, rfl⟩ rfl
set_option maxRecDepth 100000 in
set_option maxHeartbeats 4000000 in
theorem c_take_41 (h1 : lens k f c n kp l nt w sh) (h2 : lens k0 f0 c0 n0 kp0 l0 nt0 w0 sh0) : aEv mX3_takeFrom 2 0 0 N [.inr 128, .inr 32] [A0, (moSeg 32 k f c n kp l nt w sh P t d wa), B2, A3, (moSeg 128 k0 f0 c0 n0 kp0 l0 nt0 w0 sh0 P0 t0 d0 wa0), A5, C6] ((aQx (none) [A0, (moSeg 32 k f c n kp l nt w sh P t d wa), B2, A3, (moSeg 128 k f c n kp l nt w sh P t d wa), A5, C6])) := by
  obtain ⟨e1, e2, e3, e4, e5, e6, e7, e8, e9⟩ := h1
  obtain ⟨g1, g2, g3, g4, g5, g6, g7, g8, g9⟩ := h2
  refine aEv_of okX3_takeFrom caX3_takeFrom (Nat.le_of_ble_eq_true rfl) ?_
  refine aGo okX3_takeFrom 4 (f' := (8, [some (.inr 128), some (.inr 32)], [.inr 33, .inr 129], _)) rfl ?_
  refine b_vN (as := [.inr 33]) (rest := []) (k := 129) okX3_takeFrom rfl lkX3_57 caX4_takeFrom (Nat.le_of_ble_eq_true rfl) rfl (Nat.le_of_ble_eq_true rfl) rfl rfl rfl (c_takeFrom (l := k0) (m := k) (fun _ => rfl) (fun _ => rfl) (fun _ => rfl) (fun _ => rfl) (fun _ _ => rfl) rfl rfl rfl rfl rfl (by omega) (by omega)) ?_
  refine b_cast (f' := (11, [some (.inr 128), some (.inr 32)], [], [A0, (moSeg 32 k f c n kp l nt w sh P t d wa), B2, A3, (moSeg 128 k f0 c0 n0 kp0 l0 nt0 w0 sh0 P0 t0 d0 wa0), A5, C6])) rfl ?_
  refine aGo okX3_takeFrom 4 (f' := (19, [some (.inr 128), some (.inr 32)], [.inr 35, .inr 131], _)) rfl ?_
  refine b_vN (as := [.inr 35]) (rest := []) (k := 131) okX3_takeFrom rfl lkX3_57 caX4_takeFrom (Nat.le_of_ble_eq_true rfl) rfl (Nat.le_of_ble_eq_true rfl) rfl rfl rfl (c_takeFrom (l := f0) (m := f) (fun _ => rfl) (fun _ => rfl) (fun _ => rfl) (fun _ => rfl) (fun _ _ => rfl) rfl rfl rfl rfl rfl (by omega) (by omega)) ?_
  refine b_cast (f' := (22, [some (.inr 128), some (.inr 32)], [], [A0, (moSeg 32 k f c n kp l nt w sh P t d wa), B2, A3, (moSeg 128 k f c0 n0 kp0 l0 nt0 w0 sh0 P0 t0 d0 wa0), A5, C6])) rfl ?_
  refine aGo okX3_takeFrom 4 (f' := (30, [some (.inr 128), some (.inr 32)], [.inr 37, .inr 133], _)) rfl ?_
  refine b_vN (as := [.inr 37]) (rest := []) (k := 133) okX3_takeFrom rfl lkX3_57 caX4_takeFrom (Nat.le_of_ble_eq_true rfl) rfl (Nat.le_of_ble_eq_true rfl) rfl rfl rfl (c_takeFrom (l := c0) (m := c) (fun _ => rfl) (fun _ => rfl) (fun _ => rfl) (fun _ => rfl) (fun _ _ => rfl) rfl rfl rfl rfl rfl (by omega) (by omega)) ?_
  refine b_cast (f' := (33, [some (.inr 128), some (.inr 32)], [], [A0, (moSeg 32 k f c n kp l nt w sh P t d wa), B2, A3, (moSeg 128 k f c n0 kp0 l0 nt0 w0 sh0 P0 t0 d0 wa0), A5, C6])) rfl ?_
  refine aGo okX3_takeFrom 4 (f' := (41, [some (.inr 128), some (.inr 32)], [.inr 39, .inr 135], _)) rfl ?_
  refine b_vN (as := [.inr 39]) (rest := []) (k := 135) okX3_takeFrom rfl lkX3_57 caX4_takeFrom (Nat.le_of_ble_eq_true rfl) rfl (Nat.le_of_ble_eq_true rfl) rfl rfl rfl (c_takeFrom (l := n0) (m := n) (fun _ => rfl) (fun _ => rfl) (fun _ => rfl) (fun _ => rfl) (fun _ _ => rfl) rfl rfl rfl rfl rfl (by omega) (by omega)) ?_
  refine b_cast (f' := (44, [some (.inr 128), some (.inr 32)], [], [A0, (moSeg 32 k f c n kp l nt w sh P t d wa), B2, A3, (moSeg 128 k f c n kp0 l0 nt0 w0 sh0 P0 t0 d0 wa0), A5, C6])) rfl ?_
  refine aGo okX3_takeFrom 4 (f' := (52, [some (.inr 128), some (.inr 32)], [.inr 41, .inr 137], _)) rfl ?_
  refine b_vN (as := [.inr 41]) (rest := []) (k := 137) okX3_takeFrom rfl lkX3_57 caX4_takeFrom (Nat.le_of_ble_eq_true rfl) rfl (Nat.le_of_ble_eq_true rfl) rfl rfl rfl (c_takeFrom (l := kp0) (m := kp) (fun _ => rfl) (fun _ => rfl) (fun _ => rfl) (fun _ => rfl) (fun _ _ => rfl) rfl rfl rfl rfl rfl (by omega) (by omega)) ?_
  refine b_cast (f' := (55, [some (.inr 128), some (.inr 32)], [], [A0, (moSeg 32 k f c n kp l nt w sh P t d wa), B2, A3, (moSeg 128 k f c n kp l0 nt0 w0 sh0 P0 t0 d0 wa0), A5, C6])) rfl ?_
  refine aGo okX3_takeFrom 4 (f' := (63, [some (.inr 128), some (.inr 32)], [.inr 43, .inr 139], _)) rfl ?_
  refine b_vN (as := [.inr 43]) (rest := []) (k := 139) okX3_takeFrom rfl lkX3_57 caX4_takeFrom (Nat.le_of_ble_eq_true rfl) rfl (Nat.le_of_ble_eq_true rfl) rfl rfl rfl (c_takeFrom (l := l0) (m := l) (fun _ => rfl) (fun _ => rfl) (fun _ => rfl) (fun _ => rfl) (fun _ _ => rfl) rfl rfl rfl rfl rfl (by omega) (by omega)) ?_
  refine b_cast (f' := (66, [some (.inr 128), some (.inr 32)], [], [A0, (moSeg 32 k f c n kp l nt w sh P t d wa), B2, A3, (moSeg 128 k f c n kp l nt0 w0 sh0 P0 t0 d0 wa0), A5, C6])) rfl ?_
  refine aGo okX3_takeFrom 4 (f' := (74, [some (.inr 128), some (.inr 32)], [.inr 45, .inr 141], _)) rfl ?_
  refine b_vN (as := [.inr 45]) (rest := []) (k := 141) okX3_takeFrom rfl lkX3_57 caX4_takeFrom (Nat.le_of_ble_eq_true rfl) rfl (Nat.le_of_ble_eq_true rfl) rfl rfl rfl (c_takeFrom (l := nt0) (m := nt) (fun _ => rfl) (fun _ => rfl) (fun _ => rfl) (fun _ => rfl) (fun _ _ => rfl) rfl rfl rfl rfl rfl (by omega) (by omega)) ?_
  refine b_cast (f' := (77, [some (.inr 128), some (.inr 32)], [], [A0, (moSeg 32 k f c n kp l nt w sh P t d wa), B2, A3, (moSeg 128 k f c n kp l nt w0 sh0 P0 t0 d0 wa0), A5, C6])) rfl ?_
  refine aGo okX3_takeFrom 4 (f' := (85, [some (.inr 128), some (.inr 32)], [.inr 47, .inr 143], _)) rfl ?_
  refine b_vN (as := [.inr 47]) (rest := []) (k := 143) okX3_takeFrom rfl lkX3_57 caX4_takeFrom (Nat.le_of_ble_eq_true rfl) rfl (Nat.le_of_ble_eq_true rfl) rfl rfl rfl (c_takeFrom (l := w0) (m := w) (fun _ => rfl) (fun _ => rfl) (fun _ => rfl) (fun _ => rfl) (fun _ _ => rfl) rfl rfl rfl rfl rfl (by omega) (by omega)) ?_
  refine b_cast (f' := (88, [some (.inr 128), some (.inr 32)], [], [A0, (moSeg 32 k f c n kp l nt w sh P t d wa), B2, A3, (moSeg 128 k f c n kp l nt w sh0 P0 t0 d0 wa0), A5, C6])) rfl ?_
  refine aGo okX3_takeFrom 4 (f' := (96, [some (.inr 128), some (.inr 32)], [.inr 49, .inr 145], _)) rfl ?_
  refine b_vN (as := [.inr 49]) (rest := []) (k := 145) okX3_takeFrom rfl lkX3_57 caX4_takeFrom (Nat.le_of_ble_eq_true rfl) rfl (Nat.le_of_ble_eq_true rfl) rfl rfl rfl (c_takeFrom (l := sh0) (m := sh) (fun _ => rfl) (fun _ => rfl) (fun _ => rfl) (fun _ => rfl) (fun _ _ => rfl) rfl rfl rfl rfl rfl (by omega) (by omega)) ?_
  refine b_cast (f' := (99, [some (.inr 128), some (.inr 32)], [], [A0, (moSeg 32 k f c n kp l nt w sh P t d wa), B2, A3, (moSeg 128 k f c n kp l nt w sh P0 t0 d0 wa0), A5, C6])) rfl ?_
  refine aGo okX3_takeFrom 16 (f' := (131, [some (.inr 128), some (.inr 32)], [], [A0, (moSeg 32 k f c n kp l nt w sh P t d wa), B2, A3, (moSeg 128 k f c n kp l nt w sh P t d wa), A5, C6])) rfl ?_
  exact b_ret (v := none) ⟨rfl, rfl⟩ ⟨rfl, rfl⟩ rfl
set_option maxRecDepth 100000 in
set_option maxHeartbeats 4000000 in
theorem c_take_14 (h1 : lens k f c n kp l nt w sh) (h2 : lens k0 f0 c0 n0 kp0 l0 nt0 w0 sh0) : aEv mX3_takeFrom 2 0 0 N [.inr 32, .inr 128] [A0, (moSeg 32 k0 f0 c0 n0 kp0 l0 nt0 w0 sh0 P0 t0 d0 wa0), B2, A3, (moSeg 128 k f c n kp l nt w sh P t d wa), A5, C6] ((aQx (none) [A0, (moSeg 32 k f c n kp l nt w sh P t d wa), B2, A3, (moSeg 128 k f c n kp l nt w sh P t d wa), A5, C6])) := by
  obtain ⟨e1, e2, e3, e4, e5, e6, e7, e8, e9⟩ := h1
  obtain ⟨g1, g2, g3, g4, g5, g6, g7, g8, g9⟩ := h2
  refine aEv_of okX3_takeFrom caX3_takeFrom (Nat.le_of_ble_eq_true rfl) ?_
  refine aGo okX3_takeFrom 4 (f' := (8, [some (.inr 32), some (.inr 128)], [.inr 129, .inr 33], _)) rfl ?_
  refine b_vN (as := [.inr 129]) (rest := []) (k := 33) okX3_takeFrom rfl lkX3_57 caX4_takeFrom (Nat.le_of_ble_eq_true rfl) rfl (Nat.le_of_ble_eq_true rfl) rfl rfl rfl (c_takeFrom (l := k0) (m := k) (fun _ => rfl) (fun _ => rfl) (fun _ => rfl) (fun _ => rfl) (fun _ _ => rfl) rfl rfl rfl rfl rfl (by omega) (by omega)) ?_
  refine b_cast (f' := (11, [some (.inr 32), some (.inr 128)], [], [A0, (moSeg 32 k f0 c0 n0 kp0 l0 nt0 w0 sh0 P0 t0 d0 wa0), B2, A3, (moSeg 128 k f c n kp l nt w sh P t d wa), A5, C6])) rfl ?_
  refine aGo okX3_takeFrom 4 (f' := (19, [some (.inr 32), some (.inr 128)], [.inr 131, .inr 35], _)) rfl ?_
  refine b_vN (as := [.inr 131]) (rest := []) (k := 35) okX3_takeFrom rfl lkX3_57 caX4_takeFrom (Nat.le_of_ble_eq_true rfl) rfl (Nat.le_of_ble_eq_true rfl) rfl rfl rfl (c_takeFrom (l := f0) (m := f) (fun _ => rfl) (fun _ => rfl) (fun _ => rfl) (fun _ => rfl) (fun _ _ => rfl) rfl rfl rfl rfl rfl (by omega) (by omega)) ?_
  refine b_cast (f' := (22, [some (.inr 32), some (.inr 128)], [], [A0, (moSeg 32 k f c0 n0 kp0 l0 nt0 w0 sh0 P0 t0 d0 wa0), B2, A3, (moSeg 128 k f c n kp l nt w sh P t d wa), A5, C6])) rfl ?_
  refine aGo okX3_takeFrom 4 (f' := (30, [some (.inr 32), some (.inr 128)], [.inr 133, .inr 37], _)) rfl ?_
  refine b_vN (as := [.inr 133]) (rest := []) (k := 37) okX3_takeFrom rfl lkX3_57 caX4_takeFrom (Nat.le_of_ble_eq_true rfl) rfl (Nat.le_of_ble_eq_true rfl) rfl rfl rfl (c_takeFrom (l := c0) (m := c) (fun _ => rfl) (fun _ => rfl) (fun _ => rfl) (fun _ => rfl) (fun _ _ => rfl) rfl rfl rfl rfl rfl (by omega) (by omega)) ?_
  refine b_cast (f' := (33, [some (.inr 32), some (.inr 128)], [], [A0, (moSeg 32 k f c n0 kp0 l0 nt0 w0 sh0 P0 t0 d0 wa0), B2, A3, (moSeg 128 k f c n kp l nt w sh P t d wa), A5, C6])) rfl ?_
  refine aGo okX3_takeFrom 4 (f' := (41, [some (.inr 32), some (.inr 128)], [.inr 135, .inr 39], _)) rfl ?_
  refine b_vN (as := [.inr 135]) (rest := []) (k := 39) okX3_takeFrom rfl lkX3_57 caX4_takeFrom (Nat.le_of_ble_eq_true rfl) rfl (Nat.le_of_ble_eq_true rfl) rfl rfl rfl (c_takeFrom (l := n0) (m := n) (fun _ => rfl) (fun _ => rfl) (fun _ => rfl) (fun _ => rfl) (fun _ _ => rfl) rfl rfl rfl rfl rfl (by omega) (by omega)) ?_
  refine b_cast (f' := (44, [some (.inr 32), some (.inr 128)], [], [A0, (moSeg 32 k f c n kp0 l0 nt0 w0 sh0 P0 t0 d0 wa0), B2, A3, (moSeg 128 k f c n kp l nt w sh P t d wa), A5, C6])) rfl ?_
  refine aGo okX3_takeFrom 4 (f' := (52, [some (.inr 32), some (.inr 128)], [.inr 137, .inr 41], _)) rfl ?_
  refine b_vN (as := [.inr 137]) (rest := []) (k := 41) okX3_takeFrom rfl lkX3_57 caX4_takeFrom (Nat.le_of_ble_eq_true rfl) rfl (Nat.le_of_ble_eq_true rfl) rfl rfl rfl (c_takeFrom (l := kp0) (m := kp) (fun _ => rfl) (fun _ => rfl) (fun _ => rfl) (fun _ => rfl) (fun _ _ => rfl) rfl rfl rfl rfl rfl (by omega) (by omega)) ?_
  refine b_cast (f' := (55, [some (.inr 32), some (.inr 128)], [], [A0, (moSeg 32 k f c n kp l0 nt0 w0 sh0 P0 t0 d0 wa0), B2, A3, (moSeg 128 k f c n kp l nt w sh P t d wa), A5, C6])) rfl ?_
  refine aGo okX3_takeFrom 4 (f' := (63, [some (.inr 32), some (.inr 128)], [.inr 139, .inr 43], _)) rfl ?_
  refine b_vN (as := [.inr 139]) (rest := []) (k := 43) okX3_takeFrom rfl lkX3_57 caX4_takeFrom (Nat.le_of_ble_eq_true rfl) rfl (Nat.le_of_ble_eq_true rfl) rfl rfl rfl (c_takeFrom (l := l0) (m := l) (fun _ => rfl) (fun _ => rfl) (fun _ => rfl) (fun _ => rfl) (fun _ _ => rfl) rfl rfl rfl rfl rfl (by omega) (by omega)) ?_
  refine b_cast (f' := (66, [some (.inr 32), some (.inr 128)], [], [A0, (moSeg 32 k f c n kp l nt0 w0 sh0 P0 t0 d0 wa0), B2, A3, (moSeg 128 k f c n kp l nt w sh P t d wa), A5, C6])) rfl ?_
  refine aGo okX3_takeFrom 4 (f' := (74, [some (.inr 32), some (.inr 128)], [.inr 141, .inr 45], _)) rfl ?_
  refine b_vN (as := [.inr 141]) (rest := []) (k := 45) okX3_takeFrom rfl lkX3_57 caX4_takeFrom (Nat.le_of_ble_eq_true rfl) rfl (Nat.le_of_ble_eq_true rfl) rfl rfl rfl (c_takeFrom (l := nt0) (m := nt) (fun _ => rfl) (fun _ => rfl) (fun _ => rfl) (fun _ => rfl) (fun _ _ => rfl) rfl rfl rfl rfl rfl (by omega) (by omega)) ?_
  refine b_cast (f' := (77, [some (.inr 32), some (.inr 128)], [], [A0, (moSeg 32 k f c n kp l nt w0 sh0 P0 t0 d0 wa0), B2, A3, (moSeg 128 k f c n kp l nt w sh P t d wa), A5, C6])) rfl ?_
  refine aGo okX3_takeFrom 4 (f' := (85, [some (.inr 32), some (.inr 128)], [.inr 143, .inr 47], _)) rfl ?_
  refine b_vN (as := [.inr 143]) (rest := []) (k := 47) okX3_takeFrom rfl lkX3_57 caX4_takeFrom (Nat.le_of_ble_eq_true rfl) rfl (Nat.le_of_ble_eq_true rfl) rfl rfl rfl (c_takeFrom (l := w0) (m := w) (fun _ => rfl) (fun _ => rfl) (fun _ => rfl) (fun _ => rfl) (fun _ _ => rfl) rfl rfl rfl rfl rfl (by omega) (by omega)) ?_
  refine b_cast (f' := (88, [some (.inr 32), some (.inr 128)], [], [A0, (moSeg 32 k f c n kp l nt w sh0 P0 t0 d0 wa0), B2, A3, (moSeg 128 k f c n kp l nt w sh P t d wa), A5, C6])) rfl ?_
  refine aGo okX3_takeFrom 4 (f' := (96, [some (.inr 32), some (.inr 128)], [.inr 145, .inr 49], _)) rfl ?_
  refine b_vN (as := [.inr 145]) (rest := []) (k := 49) okX3_takeFrom rfl lkX3_57 caX4_takeFrom (Nat.le_of_ble_eq_true rfl) rfl (Nat.le_of_ble_eq_true rfl) rfl rfl rfl (c_takeFrom (l := sh0) (m := sh) (fun _ => rfl) (fun _ => rfl) (fun _ => rfl) (fun _ => rfl) (fun _ _ => rfl) rfl rfl rfl rfl rfl (by omega) (by omega)) ?_
  refine b_cast (f' := (99, [some (.inr 32), some (.inr 128)], [], [A0, (moSeg 32 k f c n kp l nt w sh P0 t0 d0 wa0), B2, A3, (moSeg 128 k f c n kp l nt w sh P t d wa), A5, C6])) rfl ?_
  refine aGo okX3_takeFrom 16 (f' := (131, [some (.inr 32), some (.inr 128)], [], [A0, (moSeg 32 k f c n kp l nt w sh P t d wa), B2, A3, (moSeg 128 k f c n kp l nt w sh P t d wa), A5, C6])) rfl ?_
  exact b_ret (v := none) ⟨rfl, rfl⟩ ⟨rfl, rfl⟩ rfl
end AMR
