/-! OtherMoors: the least total, told shares, kinds and figures, moors by lot; laid by gen_other4.py -/
/-- has everyone what they need, with the total t -/
def ltA (p : Nat) (k f c n l : List Int) (t : Int) : Bool := (List.range p).all fun q => decide (n.getD q 0 ≤ hasM p k f c l t q)
theorem ltA_t {p : Nat} {k f c n l : List Int} {t : Int} (h : ltA p k f c n l t = true) {q : Nat} (hq : q < p) : n.getD q 0 ≤ hasM p k f c l t q := by
  have := List.all_eq_true.mp h q (List.mem_range.mpr hq)
  simpa using this
theorem ltA_of {p : Nat} {k f c n l : List Int} {t : Int} (h : ∀ q, q < p → n.getD q 0 ≤ hasM p k f c l t q) : ltA p k f c n l t = true :=
  List.all_eq_true.mpr fun q hq => by
    have := h q (List.mem_range.mp hq)
    simpa using this
def cntA (p : Nat) (k f c n l : List Int) (t : Int) : Int := cntN p (fun q => decide (n.getD q 0 ≤ hasM p k f c l t q))
theorem cntA_of {p : Nat} {k f c n l sh nt : List Int} {t : Int} (hp : p ≤ 7) (zs : sOK p k f c sh t) (zn : nOK p l nt) : bcE (bitsN p (fun q => decide (n.getD q 0 ≤ sh.getD q 0 - nt.getD q 0))) = cntA p k f c n l t := by
  rw [bits_cnt hp]
  exact sumN_congr fun q hq => by
    show (if decide (n.getD q 0 ≤ sh.getD q 0 - nt.getD q 0) = true then (1 : Int) else 0) = _
    rw [zs.2 q hq, zn.2 q hq]; rfl
theorem cntA_all {p : Nat} {k f c n l : List Int} {t : Int} : cntA p k f c n l t = p ↔ ltA p k f c n l t = true := by
  unfold cntA
  rw [cnt_all]
  exact ⟨fun h => ltA_of fun q hq => by simpa using h q hq, fun h q hq => by simpa using ltA_t h hq⟩
theorem cntA_le (p : Nat) (k f c n l : List Int) (t : Int) : 0 ≤ cntA p k f c n l t ∧ cntA p k f c n l t ≤ p := cnt_le _
section AOD
variable {A0 A3 B B2 B4 A5 C6 : List (Option aE)} {k f c n kp l nt w sh : List Int} {p : Nat} {t d wa : Int} {N : Nat} {z tl : Int} {fs ss sp la gr tp : List Int}
variable {to re : List Int}
set_option maxRecDepth 100000 in
set_option maxHeartbeats 4000000 in
theorem c_leastTotalForAll (hm : mOK p k f c n kp l nt w sh t d wa) (hB : thk B) : aEv mX5_leastTotalForAll 3 0 0 N [.inr 97] [A0, (moSeg 32 k f c n kp l nt w sh (p : Int) t d wa), B, (miscSeg z fs ss sp la gr tl tp), B4, A5, C6] ((fun rv h => rv = some (.inl (firstQ (fun (v : Nat) => ltA p k f c n l (v : Int)) 1000 0)) ∧ ∃ B2, thk B2 ∧ h = [A0, (moSeg 32 k f c n kp l nt w sh (p : Int) t d wa), B2, (miscSeg z fs ss sp la gr tl tp), B4, A5, C6])) := by
  obtain ⟨⟨hp7, hk, hf, hc, hn, hkp, hl, rk, rf, rc, rn, rkp, rl, ht0, ht1, hd0, hd1⟩, ⟨hnt, znt⟩, ⟨hw, zw, zwa⟩, ⟨hsh, zsh⟩⟩ := id hm
  have hle := mOK_hle hm
  obtain ⟨k0, f0, c0, n0, kp0, l0, nt0, w0, sh0, P0, t0, d0, wa0, hl0, rfl⟩ := hB
  have hnO : nOK p l nt := ⟨hnt, znt⟩
  refine aEv_of okX5_leastTotalForAll caX5_leastTotalForAll (Nat.le_of_ble_eq_true rfl) ?_
  have lp : ∀ (j x : Nat) (sh1 : List Int) (t1 : Int), x + j = 1000 → (sh1.length = 7) → (0 ≤ t1 ∧ t1 ≤ 999) → AW mX5_leastTotalForAll 3 0 0 N none (fun rv h => rv = some (.inl (firstQ (fun (v : Nat) => ltA p k f c n l (v : Int)) j x)) ∧ ∃ B2, thk B2 ∧ h = [A0, (moSeg 32 k f c n kp l nt w sh (p : Int) t d wa), B2, (miscSeg z fs ss sp la gr tl tp), B4, A5, C6]) (13, [some (.inr 97), some (.inl (x : Int))], [], [A0, (moSeg 32 k f c n kp l nt w sh (p : Int) t d wa), (moSeg 64 k f c n kp l nt w sh1 (p : Int) t1 d wa), (miscSeg z fs ss sp la gr tl tp), B4, A5, C6]) := by
    intro j
    induction j with
    | zero =>
      intro x sh1 t1 hij q1 q2
      obtain rfl : 1000 = x := by omega
      refine aGo okX5_leastTotalForAll 2 (f' := (17, [some (.inr 97), some (.inl (1000 : Int))], [.inl 999, .inl (1000 : Int)], _)) rfl ?_
      refine b_gt (tgt := 56) okX5_leastTotalForAll rfl rfl ⟨by omega, by omega⟩ ⟨by omega, by omega⟩ (fun h17 => ?_) (fun h17 => absurd h17 (by omega))
      refine aGo okX5_leastTotalForAll 1 (f' := (58, [some (.inr 97), some (.inl (1000 : Int))], [.inl (-9)], _)) rfl ?_
      exact b_ret (v := (some (.inl (-9)))) ⟨rfl, Or.inl rfl⟩ ⟨rfl, _, thk_of ⟨hk, hf, hc, hn, hkp, hl, hnt, hw, q1⟩, rfl⟩ rfl
    | succ j ih =>
      intro x sh1 t1 hij q1 q2
      refine aGo okX5_leastTotalForAll 2 (f' := (17, [some (.inr 97), some (.inl (x : Int))], [.inl 999, .inl (x : Int)], _)) rfl ?_
      refine b_gt (tgt := 56) okX5_leastTotalForAll rfl rfl ⟨by omega, by omega⟩ ⟨by omega, by omega⟩ (fun h17 => absurd h17 (by omega)) (fun h17 => ?_)
      refine aGo okX5_leastTotalForAll 3 (f' := (25, [some (.inr 97), some (.inl (x : Int))], [.inl (x : Int), .inr 64], _)) rfl ?_
      refine b_vE (as := [.inl (x : Int)]) (rest := []) (k := 64) okX5_leastTotalForAll rfl lkX5_111 caX3_setTotal (Nat.le_of_ble_eq_true rfl) rfl (Nat.le_of_ble_eq_true rfl) rfl rfl rfl (c_setTotal_2 ⟨hp7, hk, hf, hc, hw, q1, rk, rf, rc, q2.1, q2.2⟩ ⟨hw, zw, zwa⟩ (v := (x : Int)) (by omega) (by omega)) ?_
      rintro _ _ ⟨rfl, sh2, zs2, rfl⟩
      have hle2 := sOK_hle hp7 rf rc rl (t := (x : Int)) ⟨by omega, by omega⟩ zs2 hnO
      refine aGo okX5_leastTotalForAll 2 (f' := (32, [some (.inr 97), some (.inl (x : Int))], [.inr 64], _)) rfl ?_
      refine b_vE (as := []) (rest := []) (k := 64) okX5_leastTotalForAll rfl lkX5_114 caX3_contentBits (Nat.le_of_ble_eq_true rfl) rfl (Nat.le_of_ble_eq_true rfl) rfl rfl rfl (c_contentBits_2 hp7 hn zs2.1 hnt rn hle2) ?_
      rintro _ _ ⟨rfl, rfl⟩
      refine b_vS (as := [.inl (bitsN p (fun q => decide (n.getD q 0 ≤ sh2.getD q 0 - nt.getD q 0)))]) (rest := []) (.inl (bcE (bitsN p (fun q => decide (n.getD q 0 ≤ sh2.getD q 0 - nt.getD q 0))))) okX5_leastTotalForAll rfl lkX5_117 caJ6_bitCount_0f7a4 (Nat.le_of_ble_eq_true rfl) rfl (Nat.le_of_ble_eq_true rfl) rfl (c_bitCount _) ?_
      refine b_cast (f' := (38, [some (.inr 97), some (.inl (x : Int))], [.inl (cntA p k f c n l x)], [A0, (moSeg 32 k f c n kp l nt w sh (p : Int) t d wa), (moSeg 64 k f c n kp l nt w sh2 (p : Int) (x : Int) d wa), (miscSeg z fs ss sp la gr tl tp), B4, A5, C6])) (congrArg (fun q : Int => ((38, [some (.inr 97), some (.inl (x : Int))], .inl q :: [], [A0, (moSeg 32 k f c n kp l nt w sh (p : Int) t d wa), (moSeg 64 k f c n kp l nt w sh2 (p : Int) (x : Int) d wa), (miscSeg z fs ss sp la gr tl tp), B4, A5, C6]) : aF)) (cntA_of hp7 zs2 hnO)) ?_
      have e1 := cntA_le p k f c n l x
      refine aGo okX5_leastTotalForAll 2 (f' := (42, [some (.inr 97), some (.inl (x : Int))], [.inr 64, .inl (cntA p k f c n l x)], _)) rfl ?_
      refine b_vV (as := []) (rest := [.inl (cntA p k f c n l x)]) (k := 64) (.inl (p : Int)) okX5_leastTotalForAll rfl lkX5_54 caX3_people (Nat.le_of_ble_eq_true rfl) rfl (Nat.le_of_ble_eq_true rfl) rfl rfl rfl (c_people_2) ?_
      refine b_ne (tgt := 50) okX5_leastTotalForAll rfl rfl ⟨by omega, by omega⟩ ⟨by omega, by omega⟩ (fun h45 => ?_) (fun h45 => ?_)
      · have hz : (fun (v : Nat) => ltA p k f c n l (v : Int)) x = false := by cases hq : (fun (v : Nat) => ltA p k f c n l (v : Int)) x with | true => exact absurd (cntA_all.mpr hq) h45 | false => rfl
        rw [firstQ_f (P := (fun (v : Nat) => ltA p k f c n l (v : Int))) hz]
        refine aGo okX5_leastTotalForAll 2 (f' := (13, [some (.inr 97), some (.inl ((x : Int) + 1))], [], _)) rfl ?_
        exact ih (x + 1) sh2 (x : Int) (by omega) zs2.1 ⟨by omega, by omega⟩
      · have hz : (fun (v : Nat) => ltA p k f c n l (v : Int)) x = true := cntA_all.mp (by first | exact h45 | exact Classical.not_not.mp h45)
        rw [firstQ_t (P := (fun (v : Nat) => ltA p k f c n l (v : Int))) hz]
        refine aGo okX5_leastTotalForAll 1 (f' := (49, [some (.inr 97), some (.inl (x : Int))], [.inl (x : Int)], _)) rfl ?_
        exact b_ret (v := (some (.inl (x : Int)))) ⟨rfl, Or.inl rfl⟩ ⟨rfl, _, thk_of ⟨hk, hf, hc, hn, hkp, hl, hnt, hw, zs2.1⟩, rfl⟩ rfl
  refine aGo okX5_leastTotalForAll 4 (f' := (8, [some (.inr 97), none], [.inr 32, .inr 64], _)) rfl ?_
  refine b_vN (as := [.inr 32]) (rest := []) (k := 64) okX5_leastTotalForAll rfl lkX5_37 caX3_takeFrom (Nat.le_of_ble_eq_true rfl) rfl (Nat.le_of_ble_eq_true rfl) rfl rfl rfl (c_take_21 (mOK_lens hm) hl0) ?_
  refine b_cast (f' := (11, [some (.inr 97), none], [], [A0, (moSeg 32 k f c n kp l nt w sh (p : Int) t d wa), (moSeg 64 k f c n kp l nt w sh (p : Int) t d wa), (miscSeg z fs ss sp la gr tl tp), B4, A5, C6])) rfl ?_
  refine aGo okX5_leastTotalForAll 2 (f' := (13, [some (.inr 97), some (.inl 0)], [], _)) rfl ?_
  exact lp 1000 0 sh t (by omega) hsh ⟨ht0, ht1⟩
set_option linter.unusedVariables false
set_option maxRecDepth 100000 in
set_option maxHeartbeats 4000000 in
theorem c_sharesAreTold_t {B1 : List (Option aE)} {k0 f0 c0 n0 kp0 l0 nt0 w0 sh0 : List Int} {t0 d0 wa0 : Int} (hp : p ≤ 7) (hs : sh0.length = 7) (rs : ∀ q, q < p → 0 ≤ sh0.getD q 0 ∧ sh0.getD q 0 ≤ 1000) (hto : to.length = 12) (rto : rng to 99) (h : tldB p (fun q => sh0.getD q 0) to = true) : aEv mX5_sharesAreTold 2 0 0 N [.inr 97, .inr 160] [A0, B1, (moSeg 64 k0 f0 c0 n0 kp0 l0 nt0 w0 sh0 (p : Int) t0 d0 wa0), (miscSeg z fs ss sp la gr tl tp), B4, (auxSeg to re), C6] (aQx (some (.inl 1)) [A0, B1, (moSeg 64 k0 f0 c0 n0 kp0 l0 nt0 w0 sh0 (p : Int) t0 d0 wa0), (miscSeg z fs ss sp la gr tl tp), B4, (auxSeg to re), C6]) := by
  refine aEv_of okX5_sharesAreTold caX5_sharesAreTold (Nat.le_of_ble_eq_true rfl) ?_
  have lp : ∀ (j v : Nat), v + j = p → AW mX5_sharesAreTold 2 0 0 N none (aQx (some (.inl 1)) [A0, B1, (moSeg 64 k0 f0 c0 n0 kp0 l0 nt0 w0 sh0 (p : Int) t0 d0 wa0), (miscSeg z fs ss sp la gr tl tp), B4, (auxSeg to re), C6]) (2, [some (.inr 97), some (.inr 160), some (.inl (v : Int))], [], [A0, B1, (moSeg 64 k0 f0 c0 n0 kp0 l0 nt0 w0 sh0 (p : Int) t0 d0 wa0), (miscSeg z fs ss sp la gr tl tp), B4, (auxSeg to re), C6]) := by
    intro j
    induction j with
    | zero =>
      intro v  hij 
      obtain rfl : p = v := by omega
      refine aGo okX5_sharesAreTold 3 (f' := (7, [some (.inr 97), some (.inr 160), some (.inl (p : Int))], [.inr 64, .inl (p : Int)], _)) rfl ?_
      refine b_vV (as := []) (rest := [.inl (p : Int)]) (k := 64) (.inl (p : Int)) okX5_sharesAreTold rfl lkX5_54 caX3_people (Nat.le_of_ble_eq_true rfl) rfl (Nat.le_of_ble_eq_true rfl) rfl rfl rfl (c_people_2) ?_
      refine b_ge (tgt := 42) okX5_sharesAreTold rfl rfl ⟨by omega, by omega⟩ ⟨by omega, by omega⟩ (fun h10 => ?_) (fun h10 => absurd h10 (by omega))
      refine aGo okX5_sharesAreTold 1 (f' := (43, [some (.inr 97), some (.inr 160), some (.inl (p : Int))], [.inl 1], _)) rfl ?_
      exact b_ret (v := (some (.inl 1))) ⟨rfl, Or.inr ⟨rfl, Or.inr rfl⟩⟩ ⟨rfl, rfl⟩ rfl
    | succ j ih =>
      intro v  hij 
      have e1 := rs v (by omega)
      have e2 := rto v
      have e3 : 0 ≤ min (sh0.getD v 0) 99 ∧ min (sh0.getD v 0) 99 ≤ 99 := by omega
      have e5 := tldB_t h (q := v) (by omega)
      refine aGo okX5_sharesAreTold 3 (f' := (7, [some (.inr 97), some (.inr 160), some (.inl (v : Int))], [.inr 64, .inl (v : Int)], _)) rfl ?_
      refine b_vV (as := []) (rest := [.inl (v : Int)]) (k := 64) (.inl (p : Int)) okX5_sharesAreTold rfl lkX5_54 caX3_people (Nat.le_of_ble_eq_true rfl) rfl (Nat.le_of_ble_eq_true rfl) rfl rfl rfl (c_people_2) ?_
      refine b_ge (tgt := 42) okX5_sharesAreTold rfl rfl ⟨by omega, by omega⟩ ⟨by omega, by omega⟩ (fun h10 => absurd h10 (by omega)) (fun h10 => ?_)
      refine aGo okX5_sharesAreTold 3 (f' := (18, [some (.inr 97), some (.inr 160), some (.inl (v : Int))], [.inl (v : Int), .inr 64], _)) rfl ?_
      refine b_vV (as := [.inl (v : Int)]) (rest := []) (k := 64) (.inl (sh0.getD v 0)) okX5_sharesAreTold rfl lkX5_47 caX3_shareOf (Nat.le_of_ble_eq_true rfl) rfl (Nat.le_of_ble_eq_true rfl) rfl rfl rfl (c_shareOf_2 (i := v) (by first | omega | (simp only [List.length_set]; omega)) (by omega)) ?_
      refine aGo okX5_sharesAreTold 1 (f' := (23, [some (.inr 97), some (.inr 160), some (.inl (v : Int))], [.inl 99, .inl (sh0.getD v 0)], _)) rfl ?_
      refine b_min okX5_sharesAreTold rfl lkX5_58 ma_min_s ma_min_c (Nat.le_of_ble_eq_true rfl) (Nat.le_of_ble_eq_true rfl) ⟨by omega, by omega⟩ ⟨by omega, by omega⟩ ?_
      refine aGo okX5_sharesAreTold 2 (f' := (28, [some (.inr 97), some (.inr 160), some (.inl (v : Int))], [.inl (v : Int), .inr 160, .inl (min (sh0.getD v 0) 99)], _)) rfl ?_
      refine b_vV (as := [.inl (v : Int)]) (rest := [.inl (min (sh0.getD v 0) 99)]) (k := 160) (.inl (to.getD v 0)) okX5_sharesAreTold rfl lkX5_108 caX4_at (Nat.le_of_ble_eq_true rfl) rfl (Nat.le_of_ble_eq_true rfl) rfl rfl rfl (c_at (i := v) rfl rfl (by first | omega | (simp only [List.length_set]; omega)) (by omega)) ?_
      refine b_eq (tgt := 36) okX5_sharesAreTold rfl rfl ⟨by omega, by omega⟩ ⟨by omega, by omega⟩ (fun h31 => ?_) (fun h31 => absurd h31 (by omega))
      refine aGo okX5_sharesAreTold 2 (f' := (2, [some (.inr 97), some (.inr 160), some (.inl ((v : Int) + 1))], [], _)) rfl ?_
      exact ih (v + 1) (by omega)
  refine aGo okX5_sharesAreTold 2 (f' := (2, [some (.inr 97), some (.inr 160), some (.inl 0)], [], _)) rfl ?_
  exact lp p 0 (by omega)
set_option maxRecDepth 100000 in
set_option maxHeartbeats 4000000 in
theorem c_sharesAreTold_f {B1 : List (Option aE)} {k0 f0 c0 n0 kp0 l0 nt0 w0 sh0 : List Int} {t0 d0 wa0 : Int} (hp : p ≤ 7) (hs : sh0.length = 7) (rs : ∀ q, q < p → 0 ≤ sh0.getD q 0 ∧ sh0.getD q 0 ≤ 1000) (hto : to.length = 12) (rto : rng to 99) (h : tldB p (fun q => sh0.getD q 0) to = false) : aEv mX5_sharesAreTold 2 0 0 N [.inr 97, .inr 160] [A0, B1, (moSeg 64 k0 f0 c0 n0 kp0 l0 nt0 w0 sh0 (p : Int) t0 d0 wa0), (miscSeg z fs ss sp la gr tl tp), B4, (auxSeg to re), C6] (aQx (some (.inl 0)) [A0, B1, (moSeg 64 k0 f0 c0 n0 kp0 l0 nt0 w0 sh0 (p : Int) t0 d0 wa0), (miscSeg z fs ss sp la gr tl tp), B4, (auxSeg to re), C6]) := by
  refine aEv_of okX5_sharesAreTold caX5_sharesAreTold (Nat.le_of_ble_eq_true rfl) ?_
  have lp : ∀ (j v : Nat), v + j = p → (∃ w, v ≤ w ∧ w < p ∧ ¬ (min (sh0.getD w 0) 99 = to.getD w 0)) → AW mX5_sharesAreTold 2 0 0 N none (aQx (some (.inl 0)) [A0, B1, (moSeg 64 k0 f0 c0 n0 kp0 l0 nt0 w0 sh0 (p : Int) t0 d0 wa0), (miscSeg z fs ss sp la gr tl tp), B4, (auxSeg to re), C6]) (2, [some (.inr 97), some (.inr 160), some (.inl (v : Int))], [], [A0, B1, (moSeg 64 k0 f0 c0 n0 kp0 l0 nt0 w0 sh0 (p : Int) t0 d0 wa0), (miscSeg z fs ss sp la gr tl tp), B4, (auxSeg to re), C6]) := by
    intro j
    induction j with
    | zero =>
      intro v  hij h1
      obtain ⟨w, g1, g2, g3⟩ := h1
      omega
    | succ j ih =>
      intro v  hij h1
      have e1 := rs v (by omega)
      have e2 := rto v
      have e3 : 0 ≤ min (sh0.getD v 0) 99 ∧ min (sh0.getD v 0) 99 ≤ 99 := by omega
      refine aGo okX5_sharesAreTold 3 (f' := (7, [some (.inr 97), some (.inr 160), some (.inl (v : Int))], [.inr 64, .inl (v : Int)], _)) rfl ?_
      refine b_vV (as := []) (rest := [.inl (v : Int)]) (k := 64) (.inl (p : Int)) okX5_sharesAreTold rfl lkX5_54 caX3_people (Nat.le_of_ble_eq_true rfl) rfl (Nat.le_of_ble_eq_true rfl) rfl rfl rfl (c_people_2) ?_
      refine b_ge (tgt := 42) okX5_sharesAreTold rfl rfl ⟨by omega, by omega⟩ ⟨by omega, by omega⟩ (fun h10 => absurd h10 (by omega)) (fun h10 => ?_)
      refine aGo okX5_sharesAreTold 3 (f' := (18, [some (.inr 97), some (.inr 160), some (.inl (v : Int))], [.inl (v : Int), .inr 64], _)) rfl ?_
      refine b_vV (as := [.inl (v : Int)]) (rest := []) (k := 64) (.inl (sh0.getD v 0)) okX5_sharesAreTold rfl lkX5_47 caX3_shareOf (Nat.le_of_ble_eq_true rfl) rfl (Nat.le_of_ble_eq_true rfl) rfl rfl rfl (c_shareOf_2 (i := v) (by first | omega | (simp only [List.length_set]; omega)) (by omega)) ?_
      refine aGo okX5_sharesAreTold 1 (f' := (23, [some (.inr 97), some (.inr 160), some (.inl (v : Int))], [.inl 99, .inl (sh0.getD v 0)], _)) rfl ?_
      refine b_min okX5_sharesAreTold rfl lkX5_58 ma_min_s ma_min_c (Nat.le_of_ble_eq_true rfl) (Nat.le_of_ble_eq_true rfl) ⟨by omega, by omega⟩ ⟨by omega, by omega⟩ ?_
      refine aGo okX5_sharesAreTold 2 (f' := (28, [some (.inr 97), some (.inr 160), some (.inl (v : Int))], [.inl (v : Int), .inr 160, .inl (min (sh0.getD v 0) 99)], _)) rfl ?_
      refine b_vV (as := [.inl (v : Int)]) (rest := [.inl (min (sh0.getD v 0) 99)]) (k := 160) (.inl (to.getD v 0)) okX5_sharesAreTold rfl lkX5_108 caX4_at (Nat.le_of_ble_eq_true rfl) rfl (Nat.le_of_ble_eq_true rfl) rfl rfl rfl (c_at (i := v) rfl rfl (by first | omega | (simp only [List.length_set]; omega)) (by omega)) ?_
      refine b_eq (tgt := 36) okX5_sharesAreTold rfl rfl ⟨by omega, by omega⟩ ⟨by omega, by omega⟩ (fun h31 => ?_) (fun h31 => ?_)
      · refine aGo okX5_sharesAreTold 2 (f' := (2, [some (.inr 97), some (.inr 160), some (.inl ((v : Int) + 1))], [], _)) rfl ?_
        exact ih (v + 1) (by omega) (by
          obtain ⟨w, g1, g2, g3⟩ := h1
          refine ⟨w, ?_, g2, g3⟩
          by_cases hw : w = v
          · subst hw; omega
          · omega)
      · refine aGo okX5_sharesAreTold 1 (f' := (35, [some (.inr 97), some (.inr 160), some (.inl (v : Int))], [.inl 0], _)) rfl ?_
        exact b_ret (v := (some (.inl 0))) ⟨rfl, Or.inr ⟨rfl, Or.inl rfl⟩⟩ ⟨rfl, rfl⟩ rfl
  refine aGo okX5_sharesAreTold 2 (f' := (2, [some (.inr 97), some (.inr 160), some (.inl 0)], [], _)) rfl ?_
  exact lp p 0 (by omega) (by obtain ⟨w, g1, g2⟩ := tldB_f h; exact ⟨w, Nat.zero_le w, g1, g2⟩)
set_option maxRecDepth 100000 in
set_option maxHeartbeats 4000000 in
theorem c_kindsTold (hm : mOK p k f c n kp l nt w sh t d wa) (hB : thk B) {i : Nat} (hi : i < 7) (hto : to.length = 12) (rto : rng to 99) : aEv mX5_kindsTold 5 0 0 N [.inr 97, .inl (i : Int), .inr 160] [A0, (moSeg 32 k f c n kp l nt w sh (p : Int) t d wa), B, (miscSeg z fs ss sp la gr tl tp), B4, (auxSeg to re), C6] ((fun rv h => rv = some (.inl (bitsN 6 (fun (v : Nat) => tldB p (fun q => shr p (k.set i (v : Int)) f c t q) to))) ∧ ∃ B2, thk B2 ∧ h = [A0, (moSeg 32 k f c n kp l nt w sh (p : Int) t d wa), B2, (miscSeg z fs ss sp la gr tl tp), B4, (auxSeg to re), C6])) := by
  obtain ⟨⟨hp7, hk, hf, hc, hn, hkp, hl, rk, rf, rc, rn, rkp, rl, ht0, ht1, hd0, hd1⟩, ⟨hnt, znt⟩, ⟨hw, zw, zwa⟩, ⟨hsh, zsh⟩⟩ := id hm
  have hle := mOK_hle hm
  obtain ⟨k0, f0, c0, n0, kp0, l0, nt0, w0, sh0, P0, t0, d0, wa0, hl0, rfl⟩ := hB
  refine aEv_of okX5_kindsTold caX5_kindsTold (Nat.le_of_ble_eq_true rfl) ?_
  have lp : ∀ (j x : Nat) (u : Int) (w1 : List Int) (sh1 : List Int) (wa1 : Int), x + j = 6 → (w1.length = 7) → (sh1.length = 7) → (0 ≤ u ∧ u ≤ 5) → AW mX5_kindsTold 5 0 0 N none (fun rv h => rv = some (.inl (bitsN 6 (fun (v : Nat) => tldB p (fun q => shr p (k.set i (v : Int)) f c t q) to))) ∧ ∃ B2, thk B2 ∧ h = [A0, (moSeg 32 k f c n kp l nt w sh (p : Int) t d wa), B2, (miscSeg z fs ss sp la gr tl tp), B4, (auxSeg to re), C6]) (16, [some (.inr 97), some (.inl (i : Int)), some (.inr 160), some (.inl (bitsN x (fun (v : Nat) => tldB p (fun q => shr p (k.set i (v : Int)) f c t q) to))), some (.inl (x : Int))], [], [A0, (moSeg 32 k f c n kp l nt w sh (p : Int) t d wa), (moSeg 64 (k.set i u) f c n kp l nt w1 sh1 (p : Int) t d wa1), (miscSeg z fs ss sp la gr tl tp), B4, (auxSeg to re), C6]) := by
    intro j
    induction j with
    | zero =>
      intro x u w1 sh1 wa1 hij q1 q2 q3
      obtain rfl : 6 = x := by omega
      refine aGo okX5_kindsTold 2 (f' := (20, [some (.inr 97), some (.inl (i : Int)), some (.inr 160), some (.inl (bitsN 6 (fun (v : Nat) => tldB p (fun q => shr p (k.set i (v : Int)) f c t q) to))), some (.inl (6 : Int))], [.inl 6, .inl (6 : Int)], _)) rfl ?_
      refine b_ge (tgt := 54) okX5_kindsTold rfl rfl ⟨by omega, by omega⟩ ⟨by omega, by omega⟩ (fun h20 => ?_) (fun h20 => absurd h20 (by omega))
      refine aGo okX5_kindsTold 1 (f' := (55, [some (.inr 97), some (.inl (i : Int)), some (.inr 160), some (.inl (bitsN 6 (fun (v : Nat) => tldB p (fun q => shr p (k.set i (v : Int)) f c t q) to))), some (.inl (6 : Int))], [.inl (bitsN 6 (fun (v : Nat) => tldB p (fun q => shr p (k.set i (v : Int)) f c t q) to))], _)) rfl ?_
      exact b_ret (v := (some (.inl (bitsN 6 (fun (v : Nat) => tldB p (fun q => shr p (k.set i (v : Int)) f c t q) to))))) ⟨rfl, Or.inl rfl⟩ ⟨rfl, _, thk_of ⟨(by rw [List.length_set]; exact hk), hf, hc, hn, hkp, hl, hnt, q1, q2⟩, rfl⟩ rfl
    | succ j ih =>
      intro x u w1 sh1 wa1 hij q1 q2 q3
      refine aGo okX5_kindsTold 2 (f' := (20, [some (.inr 97), some (.inl (i : Int)), some (.inr 160), some (.inl (bitsN x (fun (v : Nat) => tldB p (fun q => shr p (k.set i (v : Int)) f c t q) to))), some (.inl (x : Int))], [.inl 6, .inl (x : Int)], _)) rfl ?_
      refine b_ge (tgt := 54) okX5_kindsTold rfl rfl ⟨by omega, by omega⟩ ⟨by omega, by omega⟩ (fun h20 => absurd h20 (by omega)) (fun h20 => ?_)
      refine aGo okX5_kindsTold 4 (f' := (30, [some (.inr 97), some (.inl (i : Int)), some (.inr 160), some (.inl (bitsN x (fun (v : Nat) => tldB p (fun q => shr p (k.set i (v : Int)) f c t q) to))), some (.inl (x : Int))], [.inl (x : Int), .inl (i : Int), .inr 64], _)) rfl ?_
      refine b_vE (as := [.inl (i : Int), .inl (x : Int)]) (rest := []) (k := 64) okX5_kindsTold rfl lkX5_122 caX3_setKind (Nat.le_of_ble_eq_true rfl) rfl (Nat.le_of_ble_eq_true rfl) rfl rfl rfl (c_setKind_2 ⟨hp7, (by rw [List.length_set]; exact hk), hf, hc, q1, q2, (rng_set rk q3.1 q3.2), rf, rc, ht0, ht1⟩ (i := i) (by omega) (v := (x : Int)) (by omega) (by omega)) ?_
      rintro _ _ ⟨rfl, w2, sh2, zw2, zs2, rfl⟩
      rw [List.set_set] at zw2 zs2 ⊢
      have rs2 : ∀ q, q < p → 0 ≤ sh2.getD q 0 ∧ sh2.getD q 0 ≤ 1000 := fun q hq => by rw [zs2.2 q hq]; exact shr_le hp7 rf rc ⟨ht0, ht1⟩ hq
      have htl : tldB p (fun q => sh2.getD q 0) to = (fun (v : Nat) => tldB p (fun q => shr p (k.set i (v : Int)) f c t q) to) x := tldB_congr zs2.2
      refine aGo okX5_kindsTold 2 (f' := (35, [some (.inr 97), some (.inl (i : Int)), some (.inr 160), some (.inl (bitsN x (fun (v : Nat) => tldB p (fun q => shr p (k.set i (v : Int)) f c t q) to))), some (.inl (x : Int))], [.inr 160, .inr 97], _)) rfl ?_
      by_cases hc35 : (fun (v : Nat) => tldB p (fun q => shr p (k.set i (v : Int)) f c t q) to) x = true
      · refine b_vE (as := [.inr 160]) (rest := []) (k := 97) okX5_kindsTold rfl lkX5_125 caX5_sharesAreTold (Nat.le_of_ble_eq_true rfl) rfl (Nat.le_of_ble_eq_true rfl) rfl rfl rfl (c_sharesAreTold_t hp7 zs2.1 rs2 hto rto (htl.trans hc35)) ?_
        rintro _ _ ⟨rfl, rfl⟩
        refine b0_eq (tgt := 48) okX5_kindsTold rfl rfl ⟨by omega, by omega⟩ (fun h38 => absurd h38 (by omega)) (fun h38 => ?_)
        refine aGo okX5_kindsTold 8 (f' := (16, [some (.inr 97), some (.inl (i : Int)), some (.inr 160), some (.inl (aOr (bitsN x (fun (v : Nat) => tldB p (fun q => shr p (k.set i (v : Int)) f c t q) to)) (aShl 1 (x : Int)))), some (.inl ((x : Int) + 1))], [], _)) rfl ?_
        refine b_cast (f' := (16, [some (.inr 97), some (.inl (i : Int)), some (.inr 160), some (.inl (bitsN (x + 1) (fun (v : Nat) => tldB p (fun q => shr p (k.set i (v : Int)) f c t q) to))), some (.inl ((x : Int) + 1))], [], [A0, (moSeg 32 k f c n kp l nt w sh (p : Int) t d wa), (moSeg 64 (k.set i (x : Int)) f c n kp l nt w2 sh2 (p : Int) t d (wAll p (k.set i (x : Int)) f c)), (miscSeg z fs ss sp la gr tl tp), B4, (auxSeg to re), C6])) (congrArg (fun q : Int => ((16, [some (.inr 97), some (.inl (i : Int)), some (.inr 160), some (.inl q), some (.inl ((x : Int) + 1))], [], [A0, (moSeg 32 k f c n kp l nt w sh (p : Int) t d wa), (moSeg 64 (k.set i (x : Int)) f c n kp l nt w2 sh2 (p : Int) t d (wAll p (k.set i (x : Int)) f c)), (miscSeg z fs ss sp la gr tl tp), B4, (auxSeg to re), C6]) : aF)) ((bitsN_t (i := x) (P := (fun (v : Nat) => tldB p (fun q => shr p (k.set i (v : Int)) f c t q) to)) hc35).symm)) ?_
        exact ih (x + 1) _ w2 sh2 _ (by omega) zw2.1 zs2.1 ⟨by omega, by omega⟩
      · have hcf : (fun (v : Nat) => tldB p (fun q => shr p (k.set i (v : Int)) f c t q) to) x = false := by cases hz : (fun (v : Nat) => tldB p (fun q => shr p (k.set i (v : Int)) f c t q) to) x with | true => exact absurd hz hc35 | false => rfl
        refine b_vE (as := [.inr 160]) (rest := []) (k := 97) okX5_kindsTold rfl lkX5_125 caX5_sharesAreTold (Nat.le_of_ble_eq_true rfl) rfl (Nat.le_of_ble_eq_true rfl) rfl rfl rfl (c_sharesAreTold_f hp7 zs2.1 rs2 hto rto (htl.trans hcf)) ?_
        rintro _ _ ⟨rfl, rfl⟩
        refine b0_eq (tgt := 48) okX5_kindsTold rfl rfl ⟨by omega, by omega⟩ (fun h38 => ?_) (fun h38 => absurd h38 (by omega))
        refine aGo okX5_kindsTold 2 (f' := (16, [some (.inr 97), some (.inl (i : Int)), some (.inr 160), some (.inl (bitsN x (fun (v : Nat) => tldB p (fun q => shr p (k.set i (v : Int)) f c t q) to))), some (.inl ((x : Int) + 1))], [], _)) rfl ?_
        refine b_cast (f' := (16, [some (.inr 97), some (.inl (i : Int)), some (.inr 160), some (.inl (bitsN (x + 1) (fun (v : Nat) => tldB p (fun q => shr p (k.set i (v : Int)) f c t q) to))), some (.inl ((x : Int) + 1))], [], [A0, (moSeg 32 k f c n kp l nt w sh (p : Int) t d wa), (moSeg 64 (k.set i (x : Int)) f c n kp l nt w2 sh2 (p : Int) t d (wAll p (k.set i (x : Int)) f c)), (miscSeg z fs ss sp la gr tl tp), B4, (auxSeg to re), C6])) (congrArg (fun q : Int => ((16, [some (.inr 97), some (.inl (i : Int)), some (.inr 160), some (.inl q), some (.inl ((x : Int) + 1))], [], [A0, (moSeg 32 k f c n kp l nt w sh (p : Int) t d wa), (moSeg 64 (k.set i (x : Int)) f c n kp l nt w2 sh2 (p : Int) t d (wAll p (k.set i (x : Int)) f c)), (miscSeg z fs ss sp la gr tl tp), B4, (auxSeg to re), C6]) : aF)) ((bitsN_f (i := x) (P := (fun (v : Nat) => tldB p (fun q => shr p (k.set i (v : Int)) f c t q) to)) hcf).symm)) ?_
        exact ih (x + 1) _ w2 sh2 _ (by omega) zw2.1 zs2.1 ⟨by omega, by omega⟩
  refine aGo okX5_kindsTold 4 (f' := (8, [some (.inr 97), some (.inl (i : Int)), some (.inr 160), none, none], [.inr 32, .inr 64], _)) rfl ?_
  refine b_vN (as := [.inr 32]) (rest := []) (k := 64) okX5_kindsTold rfl lkX5_37 caX3_takeFrom (Nat.le_of_ble_eq_true rfl) rfl (Nat.le_of_ble_eq_true rfl) rfl rfl rfl (c_take_21 (mOK_lens hm) hl0) ?_
  refine b_cast (f' := (11, [some (.inr 97), some (.inl (i : Int)), some (.inr 160), none, none], [], [A0, (moSeg 32 k f c n kp l nt w sh (p : Int) t d wa), (moSeg 64 k f c n kp l nt w sh (p : Int) t d wa), (miscSeg z fs ss sp la gr tl tp), B4, (auxSeg to re), C6])) rfl ?_
  refine aGo okX5_kindsTold 4 (f' := (16, [some (.inr 97), some (.inl (i : Int)), some (.inr 160), some (.inl 0), some (.inl 0)], [], _)) rfl ?_
  have lp0 := lp 6 0 (k.getD i 0) w sh wa (by omega) hw hsh (rk _)
  rw [set_self (by omega)] at lp0
  exact lp0
set_option maxRecDepth 100000 in
set_option maxHeartbeats 4000000 in
theorem c_figuresTold (hm : mOK p k f c n kp l nt w sh t d wa) (hB : thk B) {i : Nat} (hi : i < 7) (hto : to.length = 12) (rto : rng to 99) : aEv mX5_figuresTold 5 0 0 N [.inr 97, .inl (i : Int), .inr 160] [A0, (moSeg 32 k f c n kp l nt w sh (p : Int) t d wa), B, (miscSeg z fs ss sp la gr tl tp), B4, (auxSeg to re), C6] ((fun rv h => rv = some (.inl (bitsN 10 (fun (v : Nat) => tldB p (fun q => shr p k (f.set i (v : Int)) c t q) to))) ∧ ∃ B2, thk B2 ∧ h = [A0, (moSeg 32 k f c n kp l nt w sh (p : Int) t d wa), B2, (miscSeg z fs ss sp la gr tl tp), B4, (auxSeg to re), C6])) := by
  obtain ⟨⟨hp7, hk, hf, hc, hn, hkp, hl, rk, rf, rc, rn, rkp, rl, ht0, ht1, hd0, hd1⟩, ⟨hnt, znt⟩, ⟨hw, zw, zwa⟩, ⟨hsh, zsh⟩⟩ := id hm
  have hle := mOK_hle hm
  obtain ⟨k0, f0, c0, n0, kp0, l0, nt0, w0, sh0, P0, t0, d0, wa0, hl0, rfl⟩ := hB
  refine aEv_of okX5_figuresTold caX5_figuresTold (Nat.le_of_ble_eq_true rfl) ?_
  have lp : ∀ (j x : Nat) (u : Int) (w1 : List Int) (sh1 : List Int) (wa1 : Int), x + j = 10 → (w1.length = 7) → (sh1.length = 7) → (0 ≤ u ∧ u ≤ 9) → AW mX5_figuresTold 5 0 0 N none (fun rv h => rv = some (.inl (bitsN 10 (fun (v : Nat) => tldB p (fun q => shr p k (f.set i (v : Int)) c t q) to))) ∧ ∃ B2, thk B2 ∧ h = [A0, (moSeg 32 k f c n kp l nt w sh (p : Int) t d wa), B2, (miscSeg z fs ss sp la gr tl tp), B4, (auxSeg to re), C6]) (16, [some (.inr 97), some (.inl (i : Int)), some (.inr 160), some (.inl (bitsN x (fun (v : Nat) => tldB p (fun q => shr p k (f.set i (v : Int)) c t q) to))), some (.inl (x : Int))], [], [A0, (moSeg 32 k f c n kp l nt w sh (p : Int) t d wa), (moSeg 64 k (f.set i u) c n kp l nt w1 sh1 (p : Int) t d wa1), (miscSeg z fs ss sp la gr tl tp), B4, (auxSeg to re), C6]) := by
    intro j
    induction j with
    | zero =>
      intro x u w1 sh1 wa1 hij q1 q2 q3
      obtain rfl : 10 = x := by omega
      refine aGo okX5_figuresTold 2 (f' := (20, [some (.inr 97), some (.inl (i : Int)), some (.inr 160), some (.inl (bitsN 10 (fun (v : Nat) => tldB p (fun q => shr p k (f.set i (v : Int)) c t q) to))), some (.inl (10 : Int))], [.inl 9, .inl (10 : Int)], _)) rfl ?_
      refine b_gt (tgt := 54) okX5_figuresTold rfl rfl ⟨by omega, by omega⟩ ⟨by omega, by omega⟩ (fun h20 => ?_) (fun h20 => absurd h20 (by omega))
      refine aGo okX5_figuresTold 1 (f' := (55, [some (.inr 97), some (.inl (i : Int)), some (.inr 160), some (.inl (bitsN 10 (fun (v : Nat) => tldB p (fun q => shr p k (f.set i (v : Int)) c t q) to))), some (.inl (10 : Int))], [.inl (bitsN 10 (fun (v : Nat) => tldB p (fun q => shr p k (f.set i (v : Int)) c t q) to))], _)) rfl ?_
      exact b_ret (v := (some (.inl (bitsN 10 (fun (v : Nat) => tldB p (fun q => shr p k (f.set i (v : Int)) c t q) to))))) ⟨rfl, Or.inl rfl⟩ ⟨rfl, _, thk_of ⟨hk, (by rw [List.length_set]; exact hf), hc, hn, hkp, hl, hnt, q1, q2⟩, rfl⟩ rfl
    | succ j ih =>
      intro x u w1 sh1 wa1 hij q1 q2 q3
      refine aGo okX5_figuresTold 2 (f' := (20, [some (.inr 97), some (.inl (i : Int)), some (.inr 160), some (.inl (bitsN x (fun (v : Nat) => tldB p (fun q => shr p k (f.set i (v : Int)) c t q) to))), some (.inl (x : Int))], [.inl 9, .inl (x : Int)], _)) rfl ?_
      refine b_gt (tgt := 54) okX5_figuresTold rfl rfl ⟨by omega, by omega⟩ ⟨by omega, by omega⟩ (fun h20 => absurd h20 (by omega)) (fun h20 => ?_)
      refine aGo okX5_figuresTold 4 (f' := (30, [some (.inr 97), some (.inl (i : Int)), some (.inr 160), some (.inl (bitsN x (fun (v : Nat) => tldB p (fun q => shr p k (f.set i (v : Int)) c t q) to))), some (.inl (x : Int))], [.inl (x : Int), .inl (i : Int), .inr 64], _)) rfl ?_
      refine b_vE (as := [.inl (i : Int), .inl (x : Int)]) (rest := []) (k := 64) okX5_figuresTold rfl lkX5_129 caX3_setFigure (Nat.le_of_ble_eq_true rfl) rfl (Nat.le_of_ble_eq_true rfl) rfl rfl rfl (c_setFigure_2 ⟨hp7, hk, (by rw [List.length_set]; exact hf), hc, q1, q2, rk, (rng_set rf q3.1 q3.2), rc, ht0, ht1⟩ (i := i) (by omega) (v := (x : Int)) (by omega) (by omega)) ?_
      rintro _ _ ⟨rfl, w2, sh2, zw2, zs2, rfl⟩
      rw [List.set_set] at zw2 zs2 ⊢
      have rs2 : ∀ q, q < p → 0 ≤ sh2.getD q 0 ∧ sh2.getD q 0 ≤ 1000 := fun q hq => by rw [zs2.2 q hq]; exact shr_le hp7 (rng_set rf (by omega) (by omega)) rc ⟨ht0, ht1⟩ hq
      have htl : tldB p (fun q => sh2.getD q 0) to = (fun (v : Nat) => tldB p (fun q => shr p k (f.set i (v : Int)) c t q) to) x := tldB_congr zs2.2
      refine aGo okX5_figuresTold 2 (f' := (35, [some (.inr 97), some (.inl (i : Int)), some (.inr 160), some (.inl (bitsN x (fun (v : Nat) => tldB p (fun q => shr p k (f.set i (v : Int)) c t q) to))), some (.inl (x : Int))], [.inr 160, .inr 97], _)) rfl ?_
      by_cases hc35 : (fun (v : Nat) => tldB p (fun q => shr p k (f.set i (v : Int)) c t q) to) x = true
      · refine b_vE (as := [.inr 160]) (rest := []) (k := 97) okX5_figuresTold rfl lkX5_125 caX5_sharesAreTold (Nat.le_of_ble_eq_true rfl) rfl (Nat.le_of_ble_eq_true rfl) rfl rfl rfl (c_sharesAreTold_t hp7 zs2.1 rs2 hto rto (htl.trans hc35)) ?_
        rintro _ _ ⟨rfl, rfl⟩
        refine b0_eq (tgt := 48) okX5_figuresTold rfl rfl ⟨by omega, by omega⟩ (fun h38 => absurd h38 (by omega)) (fun h38 => ?_)
        refine aGo okX5_figuresTold 8 (f' := (16, [some (.inr 97), some (.inl (i : Int)), some (.inr 160), some (.inl (aOr (bitsN x (fun (v : Nat) => tldB p (fun q => shr p k (f.set i (v : Int)) c t q) to)) (aShl 1 (x : Int)))), some (.inl ((x : Int) + 1))], [], _)) rfl ?_
        refine b_cast (f' := (16, [some (.inr 97), some (.inl (i : Int)), some (.inr 160), some (.inl (bitsN (x + 1) (fun (v : Nat) => tldB p (fun q => shr p k (f.set i (v : Int)) c t q) to))), some (.inl ((x : Int) + 1))], [], [A0, (moSeg 32 k f c n kp l nt w sh (p : Int) t d wa), (moSeg 64 k (f.set i (x : Int)) c n kp l nt w2 sh2 (p : Int) t d (wAll p k (f.set i (x : Int)) c)), (miscSeg z fs ss sp la gr tl tp), B4, (auxSeg to re), C6])) (congrArg (fun q : Int => ((16, [some (.inr 97), some (.inl (i : Int)), some (.inr 160), some (.inl q), some (.inl ((x : Int) + 1))], [], [A0, (moSeg 32 k f c n kp l nt w sh (p : Int) t d wa), (moSeg 64 k (f.set i (x : Int)) c n kp l nt w2 sh2 (p : Int) t d (wAll p k (f.set i (x : Int)) c)), (miscSeg z fs ss sp la gr tl tp), B4, (auxSeg to re), C6]) : aF)) ((bitsN_t (i := x) (P := (fun (v : Nat) => tldB p (fun q => shr p k (f.set i (v : Int)) c t q) to)) hc35).symm)) ?_
        exact ih (x + 1) _ w2 sh2 _ (by omega) zw2.1 zs2.1 ⟨by omega, by omega⟩
      · have hcf : (fun (v : Nat) => tldB p (fun q => shr p k (f.set i (v : Int)) c t q) to) x = false := by cases hz : (fun (v : Nat) => tldB p (fun q => shr p k (f.set i (v : Int)) c t q) to) x with | true => exact absurd hz hc35 | false => rfl
        refine b_vE (as := [.inr 160]) (rest := []) (k := 97) okX5_figuresTold rfl lkX5_125 caX5_sharesAreTold (Nat.le_of_ble_eq_true rfl) rfl (Nat.le_of_ble_eq_true rfl) rfl rfl rfl (c_sharesAreTold_f hp7 zs2.1 rs2 hto rto (htl.trans hcf)) ?_
        rintro _ _ ⟨rfl, rfl⟩
        refine b0_eq (tgt := 48) okX5_figuresTold rfl rfl ⟨by omega, by omega⟩ (fun h38 => ?_) (fun h38 => absurd h38 (by omega))
        refine aGo okX5_figuresTold 2 (f' := (16, [some (.inr 97), some (.inl (i : Int)), some (.inr 160), some (.inl (bitsN x (fun (v : Nat) => tldB p (fun q => shr p k (f.set i (v : Int)) c t q) to))), some (.inl ((x : Int) + 1))], [], _)) rfl ?_
        refine b_cast (f' := (16, [some (.inr 97), some (.inl (i : Int)), some (.inr 160), some (.inl (bitsN (x + 1) (fun (v : Nat) => tldB p (fun q => shr p k (f.set i (v : Int)) c t q) to))), some (.inl ((x : Int) + 1))], [], [A0, (moSeg 32 k f c n kp l nt w sh (p : Int) t d wa), (moSeg 64 k (f.set i (x : Int)) c n kp l nt w2 sh2 (p : Int) t d (wAll p k (f.set i (x : Int)) c)), (miscSeg z fs ss sp la gr tl tp), B4, (auxSeg to re), C6])) (congrArg (fun q : Int => ((16, [some (.inr 97), some (.inl (i : Int)), some (.inr 160), some (.inl q), some (.inl ((x : Int) + 1))], [], [A0, (moSeg 32 k f c n kp l nt w sh (p : Int) t d wa), (moSeg 64 k (f.set i (x : Int)) c n kp l nt w2 sh2 (p : Int) t d (wAll p k (f.set i (x : Int)) c)), (miscSeg z fs ss sp la gr tl tp), B4, (auxSeg to re), C6]) : aF)) ((bitsN_f (i := x) (P := (fun (v : Nat) => tldB p (fun q => shr p k (f.set i (v : Int)) c t q) to)) hcf).symm)) ?_
        exact ih (x + 1) _ w2 sh2 _ (by omega) zw2.1 zs2.1 ⟨by omega, by omega⟩
  refine aGo okX5_figuresTold 4 (f' := (8, [some (.inr 97), some (.inl (i : Int)), some (.inr 160), none, none], [.inr 32, .inr 64], _)) rfl ?_
  refine b_vN (as := [.inr 32]) (rest := []) (k := 64) okX5_figuresTold rfl lkX5_37 caX3_takeFrom (Nat.le_of_ble_eq_true rfl) rfl (Nat.le_of_ble_eq_true rfl) rfl rfl rfl (c_take_21 (mOK_lens hm) hl0) ?_
  refine b_cast (f' := (11, [some (.inr 97), some (.inl (i : Int)), some (.inr 160), none, none], [], [A0, (moSeg 32 k f c n kp l nt w sh (p : Int) t d wa), (moSeg 64 k f c n kp l nt w sh (p : Int) t d wa), (miscSeg z fs ss sp la gr tl tp), B4, (auxSeg to re), C6])) rfl ?_
  refine aGo okX5_figuresTold 4 (f' := (16, [some (.inr 97), some (.inl (i : Int)), some (.inr 160), some (.inl 0), some (.inl 0)], [], _)) rfl ?_
  have lp0 := lp 10 0 (f.getD i 0) w sh wa (by omega) hw hsh (rf _)
  rw [set_self (by omega)] at lp0
  exact lp0
set_option maxRecDepth 100000 in
set_option maxHeartbeats 4000000 in
theorem c_placeAllByLot (hm : mOK p k f c n kp l nt w sh t d wa) {c1 w1 sh1 : List Int} {wa1 : Int} (h1 : c1.length = 7) (r1 : rng c1 35) (zw1 : wOK p k f c1 w1 wa1) (zs1 : sOK p k f c1 sh1 t) : aEv mX5_placeAllByLot 5 0 0 N [.inr 97] [A0, (moSeg 32 k f c n kp l nt w sh (p : Int) t d wa), (moSeg 64 k f c1 n kp l nt w1 sh1 (p : Int) t d wa1), (miscSeg z fs ss sp la gr tl tp), B4, A5, C6] ((fun rv h => rv = none ∧ ∃ (w2 sh2 : List Int) (wa2 : Int), wOK p k f (lotC z c1 p).2 w2 wa2 ∧ sOK p k f (lotC z c1 p).2 sh2 t ∧ h = [A0, (moSeg 32 k f c n kp l nt w sh (p : Int) t d wa), (moSeg 64 k f ((lotC z c1 p).2) n kp l nt w2 sh2 (p : Int) t d wa2), (miscSeg ((lotC z c1 p).1) fs ss sp la gr tl tp), B4, A5, C6])) := by
  obtain ⟨⟨hp7, hk, hf, hc, hn, hkp, hl, rk, rf, rc, rn, rkp, rl, ht0, ht1, hd0, hd1⟩, ⟨hnt, znt⟩, ⟨hw, zw, zwa⟩, ⟨hsh, zsh⟩⟩ := id hm
  refine aEv_of okX5_placeAllByLot caX5_placeAllByLot (Nat.le_of_ble_eq_true rfl) ?_
  have lp : ∀ (j x : Nat) (w3 : List Int) (sh3 : List Int) (wa3 : Int), x + j = p → (wOK p k f (lotC z c1 x).2 w3 wa3) → (sOK p k f (lotC z c1 x).2 sh3 t) → AW mX5_placeAllByLot 5 0 0 N none (fun rv h => rv = none ∧ ∃ (w2 sh2 : List Int) (wa2 : Int), wOK p k f (lotC z c1 p).2 w2 wa2 ∧ sOK p k f (lotC z c1 p).2 sh2 t ∧ h = [A0, (moSeg 32 k f c n kp l nt w sh (p : Int) t d wa), (moSeg 64 k f ((lotC z c1 p).2) n kp l nt w2 sh2 (p : Int) t d wa2), (miscSeg ((lotC z c1 p).1) fs ss sp la gr tl tp), B4, A5, C6]) (2, [some (.inr 97), some (.inl (x : Int))], [], [A0, (moSeg 32 k f c n kp l nt w sh (p : Int) t d wa), (moSeg 64 k f ((lotC z c1 x).2) n kp l nt w3 sh3 (p : Int) t d wa3), (miscSeg ((lotC z c1 x).1) fs ss sp la gr tl tp), B4, A5, C6]) := by
    intro j
    induction j with
    | zero =>
      intro x w3 sh3 wa3 hij q1 q2
      obtain rfl : p = x := by omega
      refine aGo okX5_placeAllByLot 3 (f' := (7, [some (.inr 97), some (.inl (p : Int))], [.inr 64, .inl (p : Int)], _)) rfl ?_
      refine b_vV (as := []) (rest := [.inl (p : Int)]) (k := 64) (.inl (p : Int)) okX5_placeAllByLot rfl lkX5_54 caX3_people (Nat.le_of_ble_eq_true rfl) rfl (Nat.le_of_ble_eq_true rfl) rfl rfl rfl (c_people_2) ?_
      refine b_ge (tgt := 36) okX5_placeAllByLot rfl rfl ⟨by omega, by omega⟩ ⟨by omega, by omega⟩ (fun h10 => ?_) (fun h10 => absurd h10 (by omega))
      exact b_ret (v := none) ⟨rfl, rfl⟩ ⟨rfl, w3, sh3, wa3, q1, q2, rfl⟩ rfl
    | succ j ih =>
      intro x w3 sh3 wa3 hij q1 q2
      refine aGo okX5_placeAllByLot 3 (f' := (7, [some (.inr 97), some (.inl (x : Int))], [.inr 64, .inl (x : Int)], _)) rfl ?_
      refine b_vV (as := []) (rest := [.inl (x : Int)]) (k := 64) (.inl (p : Int)) okX5_placeAllByLot rfl lkX5_54 caX3_people (Nat.le_of_ble_eq_true rfl) rfl (Nat.le_of_ble_eq_true rfl) rfl rfl rfl (c_people_2) ?_
      refine b_ge (tgt := 36) okX5_placeAllByLot rfl rfl ⟨by omega, by omega⟩ ⟨by omega, by omega⟩ (fun h10 => absurd h10 (by omega)) (fun h10 => ?_)
      refine aGo okX5_placeAllByLot 6 (f' := (24, [some (.inr 97), some (.inl (x : Int))], [.inl 36, .inr 98, .inl (x : Int), .inr 64], _)) rfl ?_
      refine b_vE (as := [.inl 36]) (rest := [.inl (x : Int), .inr 64]) (k := 98) okX5_placeAllByLot rfl lkX5_138 caX1_below (Nat.le_of_ble_eq_true rfl) rfl (Nat.le_of_ble_eq_true rfl) rfl rfl rfl (c_below) ?_
      rintro _ _ ⟨rfl, rfl⟩
      refine b_vE (as := [.inl (x : Int), .inl (aAnd (lcg ((lotC z c1 x).1)) 2147483647 / 256 % 36)]) (rest := []) (k := 64) okX5_placeAllByLot rfl lkX5_43 caX3_place (Nat.le_of_ble_eq_true rfl) rfl (Nat.le_of_ble_eq_true rfl) rfl rfl rfl (c_place_2 ⟨hp7, hk, hf, (by rw [lotC_len]; exact h1), q1.1, q2.1, rk, rf, (lotC_rng r1 x), ht0, ht1⟩ (i := x) (by omega) (v := (aAnd (lcg ((lotC z c1 x).1)) 2147483647 / 256 % 36)) (lot_le _).1 (lot_le _).2) ?_
      rintro _ _ ⟨rfl, w4, sh4, zw4, zs4, rfl⟩
      refine aGo okX5_placeAllByLot 2 (f' := (2, [some (.inr 97), some (.inl ((x : Int) + 1))], [], _)) rfl ?_
      exact ih (x + 1) w4 sh4 _ (by omega) zw4 zs4
  refine aGo okX5_placeAllByLot 2 (f' := (2, [some (.inr 97), some (.inl 0)], [], _)) rfl ?_
  exact lp p 0 w1 sh1 wa1 (by omega) zw1 zs1
set_option maxRecDepth 100000 in
set_option maxHeartbeats 4000000 in
theorem c_firstSharesByLot (hm : mOK p k f c n kp l nt w sh t d wa) (hB : thk B) (hp0 : 0 < p) {m : Nat} (hm2 : m ≤ 9999) {v : Int} : aEv mX5_firstSharesByLot 6 0 0 N [.inr 97, .inl (m : Int), .inl v] [A0, (moSeg 32 k f c n kp l nt w sh (p : Int) t d wa), B, (miscSeg z fs ss sp la gr tl tp), B4, A5, C6] ((fun rv h => rv = some (.inl (sumN m (fun (i : Nat) => shr p k f (lotI p v c (i + 1)).2 t 0))) ∧ ∃ (B2 : List (Option aE)) (z2 : Int), thk B2 ∧ h = [A0, (moSeg 32 k f c n kp l nt w sh (p : Int) t d wa), B2, (miscSeg z2 fs ss sp la gr tl tp), B4, A5, C6])) := by
  obtain ⟨⟨hp7, hk, hf, hc, hn, hkp, hl, rk, rf, rc, rn, rkp, rl, ht0, ht1, hd0, hd1⟩, ⟨hnt, znt⟩, ⟨hw, zw, zwa⟩, ⟨hsh, zsh⟩⟩ := id hm
  obtain ⟨k0, f0, c0, n0, kp0, l0, nt0, w0, sh0, P0, t0, d0, wa0, hl0, rfl⟩ := hB
  have hnO : nOK p l nt := ⟨hnt, znt⟩
  refine aEv_of okX5_firstSharesByLot caX5_firstSharesByLot (Nat.le_of_ble_eq_true rfl) ?_
  have lp : ∀ (j x : Nat) (w3 : List Int) (sh3 : List Int) (wa3 : Int), x + j = m → (wOK p k f (lotI p v c x).2 w3 wa3) → (sOK p k f (lotI p v c x).2 sh3 t) → AW mX5_firstSharesByLot 6 0 0 N none (fun rv h => rv = some (.inl (sumN m (fun (i : Nat) => shr p k f (lotI p v c (i + 1)).2 t 0))) ∧ ∃ (B2 : List (Option aE)) (z2 : Int), thk B2 ∧ h = [A0, (moSeg 32 k f c n kp l nt w sh (p : Int) t d wa), B2, (miscSeg z2 fs ss sp la gr tl tp), B4, A5, C6]) (24, [some (.inr 97), some (.inl (m : Int)), some (.inl v), some (.inl (sumN x (fun (i : Nat) => shr p k f (lotI p v c (i + 1)).2 t 0))), some (.inl (x : Int))], [], [A0, (moSeg 32 k f c n kp l nt w sh (p : Int) t d wa), (moSeg 64 k f ((lotI p v c x).2) n kp l nt w3 sh3 (p : Int) t d wa3), (miscSeg ((lotI p v c x).1) fs ss sp la gr tl tp), B4, A5, C6]) := by
    intro j
    induction j with
    | zero =>
      intro x w3 sh3 wa3 hij q1 q2
      obtain rfl : m = x := by omega
      refine aGo okX5_firstSharesByLot 2 (f' := (27, [some (.inr 97), some (.inl (m : Int)), some (.inl v), some (.inl (sumN m (fun (i : Nat) => shr p k f (lotI p v c (i + 1)).2 t 0))), some (.inl (m : Int))], [.inl (m : Int), .inl (m : Int)], _)) rfl ?_
      refine b_ge (tgt := 51) okX5_firstSharesByLot rfl rfl ⟨by omega, by omega⟩ ⟨by omega, by omega⟩ (fun h27 => ?_) (fun h27 => absurd h27 (by omega))
      refine aGo okX5_firstSharesByLot 1 (f' := (52, [some (.inr 97), some (.inl (m : Int)), some (.inl v), some (.inl (sumN m (fun (i : Nat) => shr p k f (lotI p v c (i + 1)).2 t 0))), some (.inl (m : Int))], [.inl (sumN m (fun (i : Nat) => shr p k f (lotI p v c (i + 1)).2 t 0))], _)) rfl ?_
      exact b_ret (v := (some (.inl (sumN m (fun (i : Nat) => shr p k f (lotI p v c (i + 1)).2 t 0))))) ⟨rfl, Or.inl rfl⟩ ⟨rfl, _, _, thk_of ⟨hk, hf, (by rw [lotI_len]; exact hc), hn, hkp, hl, hnt, q1.1, q2.1⟩, rfl⟩ rfl
    | succ j ih =>
      intro x w3 sh3 wa3 hij q1 q2
      refine aGo okX5_firstSharesByLot 2 (f' := (27, [some (.inr 97), some (.inl (m : Int)), some (.inl v), some (.inl (sumN x (fun (i : Nat) => shr p k f (lotI p v c (i + 1)).2 t 0))), some (.inl (x : Int))], [.inl (m : Int), .inl (x : Int)], _)) rfl ?_
      refine b_ge (tgt := 51) okX5_firstSharesByLot rfl rfl ⟨by omega, by omega⟩ ⟨by omega, by omega⟩ (fun h27 => absurd h27 (by omega)) (fun h27 => ?_)
      refine aGo okX5_firstSharesByLot 1 (f' := (31, [some (.inr 97), some (.inl (m : Int)), some (.inl v), some (.inl (sumN x (fun (i : Nat) => shr p k f (lotI p v c (i + 1)).2 t 0))), some (.inl (x : Int))], [.inr 97], _)) rfl ?_
      refine b_vE (as := []) (rest := []) (k := 97) okX5_firstSharesByLot rfl lkX5_135 caX5_placeAllByLot (Nat.le_of_ble_eq_true rfl) rfl (Nat.le_of_ble_eq_true rfl) rfl rfl rfl (c_placeAllByLot (z := (lotI p v c x).1) hm (by rw [lotI_len]; exact hc) (lotI_rng rc x) q1 q2) ?_
      rintro _ _ ⟨rfl, w4, sh4, wa4, zw4, zs4, rfl⟩
      have zw5 : wOK p k f (lotI p v c (x + 1)).2 w4 wa4 := zw4
      have zs5 : sOK p k f (lotI p v c (x + 1)).2 sh4 t := zs4
      have e1 := zs5.1
      refine aGo okX5_firstSharesByLot 4 (f' := (40, [some (.inr 97), some (.inl (m : Int)), some (.inl v), some (.inl (sumN x (fun (i : Nat) => shr p k f (lotI p v c (i + 1)).2 t 0))), some (.inl (x : Int))], [.inl 0, .inr 64, .inl (sumN x (fun (i : Nat) => shr p k f (lotI p v c (i + 1)).2 t 0))], _)) rfl ?_
      refine b_vV (as := [.inl 0]) (rest := [.inl (sumN x (fun (i : Nat) => shr p k f (lotI p v c (i + 1)).2 t 0))]) (k := 64) (.inl (sh4.getD 0 0)) okX5_firstSharesByLot rfl lkX5_47 caX3_shareOf (Nat.le_of_ble_eq_true rfl) rfl (Nat.le_of_ble_eq_true rfl) rfl rfl rfl (c_shareOf_2 (i := 0) (by first | omega | (simp only [List.length_set]; omega)) (by omega)) ?_
      refine b_cast (f' := (43, [some (.inr 97), some (.inl (m : Int)), some (.inl v), some (.inl (sumN x (fun (i : Nat) => shr p k f (lotI p v c (i + 1)).2 t 0))), some (.inl (x : Int))], [.inl (shr p k f (lotI p v c (x + 1)).2 t 0), .inl (sumN x (fun (i : Nat) => shr p k f (lotI p v c (i + 1)).2 t 0))], [A0, (moSeg 32 k f c n kp l nt w sh (p : Int) t d wa), (moSeg 64 k f ((lotI p v c (x + 1)).2) n kp l nt w4 sh4 (p : Int) t d wa4), (miscSeg ((lotI p v c (x + 1)).1) fs ss sp la gr tl tp), B4, A5, C6])) (congrArg (fun q : Int => ((43, [some (.inr 97), some (.inl (m : Int)), some (.inl v), some (.inl (sumN x (fun (i : Nat) => shr p k f (lotI p v c (i + 1)).2 t 0))), some (.inl (x : Int))], .inl q :: [.inl (sumN x (fun (i : Nat) => shr p k f (lotI p v c (i + 1)).2 t 0))], [A0, (moSeg 32 k f c n kp l nt w sh (p : Int) t d wa), (moSeg 64 k f ((lotI p v c (x + 1)).2) n kp l nt w4 sh4 (p : Int) t d wa4), (miscSeg ((lotI p v c (x + 1)).1) fs ss sp la gr tl tp), B4, A5, C6]) : aF)) (zs5.2 0 hp0)) ?_
      refine aGo okX5_firstSharesByLot 4 (f' := (24, [some (.inr 97), some (.inl (m : Int)), some (.inl v), some (.inl ((sumN x (fun (i : Nat) => shr p k f (lotI p v c (i + 1)).2 t 0)) + (shr p k f (lotI p v c (x + 1)).2 t 0))), some (.inl ((x : Int) + 1))], [], _)) rfl ?_
      exact ih (x + 1) w4 sh4 wa4 (by omega) zw5 zs5
  refine aGo okX5_firstSharesByLot 4 (f' := (8, [some (.inr 97), some (.inl (m : Int)), some (.inl v), none, none], [.inr 32, .inr 64], _)) rfl ?_
  refine b_vN (as := [.inr 32]) (rest := []) (k := 64) okX5_firstSharesByLot rfl lkX5_37 caX3_takeFrom (Nat.le_of_ble_eq_true rfl) rfl (Nat.le_of_ble_eq_true rfl) rfl rfl rfl (c_take_21 (mOK_lens hm) hl0) ?_
  refine b_cast (f' := (11, [some (.inr 97), some (.inl (m : Int)), some (.inl v), none, none], [], [A0, (moSeg 32 k f c n kp l nt w sh (p : Int) t d wa), (moSeg 64 k f c n kp l nt w sh (p : Int) t d wa), (miscSeg z fs ss sp la gr tl tp), B4, A5, C6])) rfl ?_
  refine aGo okX5_firstSharesByLot 3 (f' := (16, [some (.inr 97), some (.inl (m : Int)), some (.inl v), none, none], [.inl v, .inr 98], _)) rfl ?_
  refine b_vE (as := [.inl v]) (rest := []) (k := 98) okX5_firstSharesByLot rfl lkX5_132 caX1_begin (Nat.le_of_ble_eq_true rfl) rfl (Nat.le_of_ble_eq_true rfl) rfl rfl rfl (c_begin) ?_
  rintro _ _ ⟨rfl, rfl⟩
  refine aGo okX5_firstSharesByLot 4 (f' := (24, [some (.inr 97), some (.inl (m : Int)), some (.inl v), some (.inl 0), some (.inl 0)], [], _)) rfl ?_
  exact lp m 0 w sh wa (by omega) ⟨hw, zw, zwa⟩ ⟨hsh, zsh⟩
set_option maxRecDepth 100000 in
set_option maxHeartbeats 4000000 in
theorem c_contentByLot (hm : mOK p k f c n kp l nt w sh t d wa) (hB : thk B) (hp0 : 0 < p) {m : Nat} (hm2 : m ≤ 9999) {v : Int} : aEv mX5_contentByLot 6 0 0 N [.inr 97, .inl (m : Int), .inl v] [A0, (moSeg 32 k f c n kp l nt w sh (p : Int) t d wa), B, (miscSeg z fs ss sp la gr tl tp), B4, A5, C6] ((fun rv h => rv = some (.inl (sumN m (fun (i : Nat) => cntA p k f (lotI p v c (i + 1)).2 n l t))) ∧ ∃ (B2 : List (Option aE)) (z2 : Int), thk B2 ∧ h = [A0, (moSeg 32 k f c n kp l nt w sh (p : Int) t d wa), B2, (miscSeg z2 fs ss sp la gr tl tp), B4, A5, C6])) := by
  obtain ⟨⟨hp7, hk, hf, hc, hn, hkp, hl, rk, rf, rc, rn, rkp, rl, ht0, ht1, hd0, hd1⟩, ⟨hnt, znt⟩, ⟨hw, zw, zwa⟩, ⟨hsh, zsh⟩⟩ := id hm
  obtain ⟨k0, f0, c0, n0, kp0, l0, nt0, w0, sh0, P0, t0, d0, wa0, hl0, rfl⟩ := hB
  have hnO : nOK p l nt := ⟨hnt, znt⟩
  refine aEv_of okX5_contentByLot caX5_contentByLot (Nat.le_of_ble_eq_true rfl) ?_
  have lp : ∀ (j x : Nat) (w3 : List Int) (sh3 : List Int) (wa3 : Int), x + j = m → (wOK p k f (lotI p v c x).2 w3 wa3) → (sOK p k f (lotI p v c x).2 sh3 t) → AW mX5_contentByLot 6 0 0 N none (fun rv h => rv = some (.inl (sumN m (fun (i : Nat) => cntA p k f (lotI p v c (i + 1)).2 n l t))) ∧ ∃ (B2 : List (Option aE)) (z2 : Int), thk B2 ∧ h = [A0, (moSeg 32 k f c n kp l nt w sh (p : Int) t d wa), B2, (miscSeg z2 fs ss sp la gr tl tp), B4, A5, C6]) (24, [some (.inr 97), some (.inl (m : Int)), some (.inl v), some (.inl (sumN x (fun (i : Nat) => cntA p k f (lotI p v c (i + 1)).2 n l t))), some (.inl (x : Int))], [], [A0, (moSeg 32 k f c n kp l nt w sh (p : Int) t d wa), (moSeg 64 k f ((lotI p v c x).2) n kp l nt w3 sh3 (p : Int) t d wa3), (miscSeg ((lotI p v c x).1) fs ss sp la gr tl tp), B4, A5, C6]) := by
    intro j
    induction j with
    | zero =>
      intro x w3 sh3 wa3 hij q1 q2
      obtain rfl : m = x := by omega
      refine aGo okX5_contentByLot 2 (f' := (27, [some (.inr 97), some (.inl (m : Int)), some (.inl v), some (.inl (sumN m (fun (i : Nat) => cntA p k f (lotI p v c (i + 1)).2 n l t))), some (.inl (m : Int))], [.inl (m : Int), .inl (m : Int)], _)) rfl ?_
      refine b_ge (tgt := 53) okX5_contentByLot rfl rfl ⟨by omega, by omega⟩ ⟨by omega, by omega⟩ (fun h27 => ?_) (fun h27 => absurd h27 (by omega))
      refine aGo okX5_contentByLot 1 (f' := (54, [some (.inr 97), some (.inl (m : Int)), some (.inl v), some (.inl (sumN m (fun (i : Nat) => cntA p k f (lotI p v c (i + 1)).2 n l t))), some (.inl (m : Int))], [.inl (sumN m (fun (i : Nat) => cntA p k f (lotI p v c (i + 1)).2 n l t))], _)) rfl ?_
      exact b_ret (v := (some (.inl (sumN m (fun (i : Nat) => cntA p k f (lotI p v c (i + 1)).2 n l t))))) ⟨rfl, Or.inl rfl⟩ ⟨rfl, _, _, thk_of ⟨hk, hf, (by rw [lotI_len]; exact hc), hn, hkp, hl, hnt, q1.1, q2.1⟩, rfl⟩ rfl
    | succ j ih =>
      intro x w3 sh3 wa3 hij q1 q2
      refine aGo okX5_contentByLot 2 (f' := (27, [some (.inr 97), some (.inl (m : Int)), some (.inl v), some (.inl (sumN x (fun (i : Nat) => cntA p k f (lotI p v c (i + 1)).2 n l t))), some (.inl (x : Int))], [.inl (m : Int), .inl (x : Int)], _)) rfl ?_
      refine b_ge (tgt := 53) okX5_contentByLot rfl rfl ⟨by omega, by omega⟩ ⟨by omega, by omega⟩ (fun h27 => absurd h27 (by omega)) (fun h27 => ?_)
      refine aGo okX5_contentByLot 1 (f' := (31, [some (.inr 97), some (.inl (m : Int)), some (.inl v), some (.inl (sumN x (fun (i : Nat) => cntA p k f (lotI p v c (i + 1)).2 n l t))), some (.inl (x : Int))], [.inr 97], _)) rfl ?_
      refine b_vE (as := []) (rest := []) (k := 97) okX5_contentByLot rfl lkX5_135 caX5_placeAllByLot (Nat.le_of_ble_eq_true rfl) rfl (Nat.le_of_ble_eq_true rfl) rfl rfl rfl (c_placeAllByLot (z := (lotI p v c x).1) hm (by rw [lotI_len]; exact hc) (lotI_rng rc x) q1 q2) ?_
      rintro _ _ ⟨rfl, w4, sh4, wa4, zw4, zs4, rfl⟩
      have zw5 : wOK p k f (lotI p v c (x + 1)).2 w4 wa4 := zw4
      have zs5 : sOK p k f (lotI p v c (x + 1)).2 sh4 t := zs4
      have e1 := zs5.1
      have hle2 := sOK_hle hp7 rf (lotI_rng (p := p) (z := v) rc (x + 1)) rl ⟨ht0, ht1⟩ zs5 hnO
      refine aGo okX5_contentByLot 3 (f' := (39, [some (.inr 97), some (.inl (m : Int)), some (.inl v), some (.inl (sumN x (fun (i : Nat) => cntA p k f (lotI p v c (i + 1)).2 n l t))), some (.inl (x : Int))], [.inr 64, .inl (sumN x (fun (i : Nat) => cntA p k f (lotI p v c (i + 1)).2 n l t))], _)) rfl ?_
      refine b_vE (as := []) (rest := [.inl (sumN x (fun (i : Nat) => cntA p k f (lotI p v c (i + 1)).2 n l t))]) (k := 64) okX5_contentByLot rfl lkX5_114 caX3_contentBits (Nat.le_of_ble_eq_true rfl) rfl (Nat.le_of_ble_eq_true rfl) rfl rfl rfl (c_contentBits_2 hp7 hn zs5.1 hnt rn hle2) ?_
      rintro _ _ ⟨rfl, rfl⟩
      refine b_vS (as := [.inl (bitsN p (fun q => decide (n.getD q 0 ≤ sh4.getD q 0 - nt.getD q 0)))]) (rest := [.inl (sumN x (fun (i : Nat) => cntA p k f (lotI p v c (i + 1)).2 n l t))]) (.inl (bcE (bitsN p (fun q => decide (n.getD q 0 ≤ sh4.getD q 0 - nt.getD q 0))))) okX5_contentByLot rfl lkX5_117 caJ6_bitCount_0f7a4 (Nat.le_of_ble_eq_true rfl) rfl (Nat.le_of_ble_eq_true rfl) rfl (c_bitCount _) ?_
      refine b_cast (f' := (45, [some (.inr 97), some (.inl (m : Int)), some (.inl v), some (.inl (sumN x (fun (i : Nat) => cntA p k f (lotI p v c (i + 1)).2 n l t))), some (.inl (x : Int))], [.inl (cntA p k f (lotI p v c (x + 1)).2 n l t), .inl (sumN x (fun (i : Nat) => cntA p k f (lotI p v c (i + 1)).2 n l t))], [A0, (moSeg 32 k f c n kp l nt w sh (p : Int) t d wa), (moSeg 64 k f ((lotI p v c (x + 1)).2) n kp l nt w4 sh4 (p : Int) t d wa4), (miscSeg ((lotI p v c (x + 1)).1) fs ss sp la gr tl tp), B4, A5, C6])) (congrArg (fun q : Int => ((45, [some (.inr 97), some (.inl (m : Int)), some (.inl v), some (.inl (sumN x (fun (i : Nat) => cntA p k f (lotI p v c (i + 1)).2 n l t))), some (.inl (x : Int))], .inl q :: [.inl (sumN x (fun (i : Nat) => cntA p k f (lotI p v c (i + 1)).2 n l t))], [A0, (moSeg 32 k f c n kp l nt w sh (p : Int) t d wa), (moSeg 64 k f ((lotI p v c (x + 1)).2) n kp l nt w4 sh4 (p : Int) t d wa4), (miscSeg ((lotI p v c (x + 1)).1) fs ss sp la gr tl tp), B4, A5, C6]) : aF)) (cntA_of hp7 zs5 hnO)) ?_
      refine aGo okX5_contentByLot 4 (f' := (24, [some (.inr 97), some (.inl (m : Int)), some (.inl v), some (.inl ((sumN x (fun (i : Nat) => cntA p k f (lotI p v c (i + 1)).2 n l t)) + (cntA p k f (lotI p v c (x + 1)).2 n l t))), some (.inl ((x : Int) + 1))], [], _)) rfl ?_
      exact ih (x + 1) w4 sh4 wa4 (by omega) zw5 zs5
  refine aGo okX5_contentByLot 4 (f' := (8, [some (.inr 97), some (.inl (m : Int)), some (.inl v), none, none], [.inr 32, .inr 64], _)) rfl ?_
  refine b_vN (as := [.inr 32]) (rest := []) (k := 64) okX5_contentByLot rfl lkX5_37 caX3_takeFrom (Nat.le_of_ble_eq_true rfl) rfl (Nat.le_of_ble_eq_true rfl) rfl rfl rfl (c_take_21 (mOK_lens hm) hl0) ?_
  refine b_cast (f' := (11, [some (.inr 97), some (.inl (m : Int)), some (.inl v), none, none], [], [A0, (moSeg 32 k f c n kp l nt w sh (p : Int) t d wa), (moSeg 64 k f c n kp l nt w sh (p : Int) t d wa), (miscSeg z fs ss sp la gr tl tp), B4, A5, C6])) rfl ?_
  refine aGo okX5_contentByLot 3 (f' := (16, [some (.inr 97), some (.inl (m : Int)), some (.inl v), none, none], [.inl v, .inr 98], _)) rfl ?_
  refine b_vE (as := [.inl v]) (rest := []) (k := 98) okX5_contentByLot rfl lkX5_132 caX1_begin (Nat.le_of_ble_eq_true rfl) rfl (Nat.le_of_ble_eq_true rfl) rfl rfl rfl (c_begin) ?_
  rintro _ _ ⟨rfl, rfl⟩
  refine aGo okX5_contentByLot 4 (f' := (24, [some (.inr 97), some (.inl (m : Int)), some (.inl v), some (.inl 0), some (.inl 0)], [], _)) rfl ?_
  exact lp m 0 w sh wa (by omega) ⟨hw, zw, zwa⟩ ⟨hsh, zsh⟩
end AOD
