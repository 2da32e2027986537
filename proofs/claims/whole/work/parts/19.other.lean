theorem lose7h (a0 a1 a2 a3 a4 a5 a6 a7 : Option aV) : ∀ (i : Nat) (v : aV), [a0, a1, a2, a3, a4, a5, a6, none][i]? = some (some v) → [a0, a1, a2, a3, a4, a5, a6, a7][i]? = some (some v) := by
  intro i v h
  match i, h with
  | 0, h => exact h
  | 1, h => exact h
  | 2, h => exact h
  | 3, h => exact h
  | 4, h => exact h
  | 5, h => exact h
  | 6, h => exact h
  | 7, h => cases h
  | i + 8, h => exact h
/-! OtherMoors, first half; laid by gen_other.py -/
def amy (F : Nat → Int) (z : Int × Int) : Nat → Int × Int
  | 0 => z
  | x + 1 => if (amy F z x).2 < F x then ((x : Int), F x) else amy F z x
theorem amy_t {F : Nat → Int} {z : Int × Int} {x : Nat} (h : (amy F z x).2 < F x) : amy F z (x + 1) = ((x : Int), F x) := if_pos h
theorem amy_f {F : Nat → Int} {z : Int × Int} {x : Nat} (h : F x ≤ (amy F z x).2) : amy F z (x + 1) = amy F z x := if_neg (by omega)
theorem amy_le {F : Nat → Int} {z : Int × Int} {a b : Int} {m : Nat} (hz : a ≤ z.2 ∧ z.2 ≤ b) (hF : ∀ x, x < m → a ≤ F x ∧ F x ≤ b) : ∀ x, x ≤ m → a ≤ (amy F z x).2 ∧ (amy F z x).2 ≤ b := by
  intro x
  induction x with
  | zero => intro _; exact hz
  | succ x ih =>
    intro hx
    simp only [amy]
    split
    · exact hF x (by omega)
    · exact ih (by omega)
theorem amy_nat {F : Nat → Int} {z : Int × Int} (hz : z.1 = 0) : ∀ x, ∃ y : Nat, (amy F z x).1 = (y : Int) ∧ (y < x ∨ y = 0) := by
  intro x
  induction x with
  | zero => exact ⟨0, hz, Or.inr rfl⟩
  | succ x ih =>
    simp only [amy]
    split
    · exact ⟨x, rfl, Or.inl (by omega)⟩
    · obtain ⟨y, h1, h2⟩ := ih
      exact ⟨y, h1, by omega⟩
/-- the least of all but one -/
def lsN (i : Nat) (S : Nat → Int) : Nat → Int
  | 0 => 999
  | q + 1 => if q = i then lsN i S q else min (lsN i S q) (S q)
theorem lsN_le {i : Nat} {S : Nat → Int} {p : Nat} (h : ∀ q, q < p → 0 ≤ S q ∧ S q ≤ 1000) : ∀ q, q ≤ p → 0 ≤ lsN i S q ∧ lsN i S q ≤ 999 := by
  intro q
  induction q with
  | zero => intro _; exact ⟨(by decide : (0 : Int) ≤ 999), (by decide : (999 : Int) ≤ 999)⟩
  | succ q ih =>
    intro hq
    have h1 := ih (by omega)
    have h2 := h q (by omega)
    simp only [lsN]
    split <;> omega
theorem lsN_congr {i : Nat} {S S' : Nat → Int} {p : Nat} (h : ∀ q, q < p → S q = S' q) : ∀ q, q ≤ p → lsN i S q = lsN i S' q := by
  intro q
  induction q with
  | zero => intro _; rfl
  | succ q ih => intro hq; simp only [lsN]; rw [ih (by omega), h q (by omega)]
/-- his number when another is gone -/
def nwI (g i : Nat) : Nat := if g < i then i - 1 else i
def wfN (i : Nat) (F : Nat → Int) : Nat → Int × Int
  | 0 => (-9, 0)
  | y + 1 => if y = i then wfN i F y else if (wfN i F y).1 = -9 ∨ (wfN i F y).2 < F y then ((y : Int), F y) else wfN i F y
theorem wfN_le {i : Nat} {F : Nat → Int} {p : Nat} (hF : ∀ x, x < p → -2000 ≤ F x ∧ F x ≤ 2000) : ∀ x, x ≤ p → -9 ≤ (wfN i F x).1 ∧ (wfN i F x).1 ≤ x ∧ -2000 ≤ (wfN i F x).2 ∧ (wfN i F x).2 ≤ 2000 := by
  intro x
  induction x with
  | zero => intro _; exact ⟨(by decide : (-9 : Int) ≤ -9), (by decide : (-9 : Int) ≤ 0), (by decide : (-2000 : Int) ≤ 0), (by decide : (0 : Int) ≤ 2000)⟩
  | succ x ih =>
    intro hx
    have h1 := ih (by omega)
    have h2 := hF x (by omega)
    simp only [wfN]
    split
    · omega
    · split
      · refine ⟨?_, ?_, ?_, ?_⟩ <;> simp only <;> omega
      · omega
def qcN (c : List Int) (i g : Nat) (K : Int) : Nat → Int × Int
  | 0 => (-9, 0)
  | v + 1 => if K < stp (v : Int) (c.getD g 0) ∧ ((qcN c i g K v).1 = -9 ∨ stp (c.getD i 0) (v : Int) < (qcN c i g K v).2) then ((v : Int), stp (c.getD i 0) (v : Int)) else qcN c i g K v
theorem qcN_le {c : List Int} (rc : rng c 35) {i g : Nat} {K : Int} : ∀ v, v ≤ 36 → -9 ≤ (qcN c i g K v).1 ∧ (qcN c i g K v).1 ≤ 36 ∧ 0 ≤ (qcN c i g K v).2 ∧ (qcN c i g K v).2 ≤ 10 := by
  intro v
  induction v with
  | zero => intro _; exact ⟨(by decide : (-9 : Int) ≤ -9), (by decide : (-9 : Int) ≤ 36), (by decide : (0 : Int) ≤ 0), (by decide : (0 : Int) ≤ 10)⟩
  | succ v ih =>
    intro hv
    have h1 := ih (by omega)
    have h2 := stp_le (rc i) (show 0 ≤ (v : Int) ∧ (v : Int) ≤ 35 by omega)
    simp only [qcN]
    split
    · refine ⟨?_, ?_, ?_, ?_⟩ <;> simp only <;> omega
    · omega
def mov (c : Int) : Nat → Int
  | 1 => if 6 ≤ c then c - 6 else c
  | 2 => if 0 < c % 6 then c - 1 else c
  | 3 => if c % 6 < 5 then c + 1 else c
  | 4 => if c + 6 < 36 then c + 6 else c
  | _ => c
theorem mov_le {c : Int} (h : 0 ≤ c ∧ c ≤ 35) (w : Nat) : 0 ≤ mov c w ∧ mov c w ≤ 35 := by
  unfold mov
  split
  all_goals first | omega | (split <;> omega)
section AOA
variable {A0 A3 B B2 B4 A5 C6 : List (Option aE)} {k f c n kp l nt w sh : List Int} {p : Nat} {t d wa : Int} {N : Nat} {z tl : Int} {fs ss sp la gr tp : List Int}
set_option maxRecDepth 100000 in
set_option maxHeartbeats 4000000 in
theorem c_shareIn (hm : mOK p k f c n kp l nt w sh t d wa) (hB : thk B) {i : Nat} (hi : i < p) {v : Int} (hv0 : 0 ≤ v) (hv1 : v ≤ 35) : aEv mX5_shareIn 5 0 0 N [.inr 97, .inl (i : Int), .inl v] [A0, (moSeg 32 k f c n kp l nt w sh (p : Int) t d wa), B, (miscSeg z fs ss sp la gr tl tp), B4, A5, C6] ((fun rv h => rv = some (.inl (shr p k f (c.set i v) t i)) ∧ ∃ B2, thk B2 ∧ h = [A0, (moSeg 32 k f c n kp l nt w sh (p : Int) t d wa), B2, (miscSeg z fs ss sp la gr tl tp), B4, A5, C6])) := by
  obtain ⟨⟨hp7, hk, hf, hc, hn, hkp, hl, rk, rf, rc, rn, rkp, rl, ht0, ht1, hd0, hd1⟩, ⟨hnt, znt⟩, ⟨hw, zw, zwa⟩, ⟨hsh, zsh⟩⟩ := id hm
  have hle := mOK_hle hm
  obtain ⟨k0, f0, c0, n0, kp0, l0, nt0, w0, sh0, P0, t0, d0, wa0, hl0, rfl⟩ := hB
  refine aEv_of okX5_shareIn caX5_shareIn (Nat.le_of_ble_eq_true rfl) ?_
  refine aGo okX5_shareIn 4 (f' := (8, [some (.inr 97), some (.inl (i : Int)), some (.inl v)], [.inr 32, .inr 64], _)) rfl ?_
  refine b_vN (as := [.inr 32]) (rest := []) (k := 64) okX5_shareIn rfl lkX5_37 caX3_takeFrom (Nat.le_of_ble_eq_true rfl) rfl (Nat.le_of_ble_eq_true rfl) rfl rfl rfl (c_take_21 (mOK_lens hm) hl0) ?_
  refine b_cast (f' := (11, [some (.inr 97), some (.inl (i : Int)), some (.inl v)], [], [A0, (moSeg 32 k f c n kp l nt w sh (p : Int) t d wa), (moSeg 64 k f c n kp l nt w sh (p : Int) t d wa), (miscSeg z fs ss sp la gr tl tp), B4, A5, C6])) rfl ?_
  refine aGo okX5_shareIn 4 (f' := (17, [some (.inr 97), some (.inl (i : Int)), some (.inl v)], [.inl v, .inl (i : Int), .inr 64], _)) rfl ?_
  refine b_vE (as := [.inl (i : Int), .inl v]) (rest := []) (k := 64) okX5_shareIn rfl lkX5_43 caX3_place (Nat.le_of_ble_eq_true rfl) rfl (Nat.le_of_ble_eq_true rfl) rfl rfl rfl (c_place_2 ⟨hp7, hk, hf, hc, hw, hsh, rk, rf, rc, ht0, ht1⟩ (i := i) (by omega) (v := v) (by omega) (by omega)) ?_
  rintro _ _ ⟨rfl, w2, sh2, zw2, zs2, rfl⟩
  refine aGo okX5_shareIn 3 (f' := (25, [some (.inr 97), some (.inl (i : Int)), some (.inl v)], [.inl (i : Int), .inr 64], _)) rfl ?_
  have e1 := zs2.1
  refine b_vV (as := [.inl (i : Int)]) (rest := []) (k := 64) (.inl (sh2.getD i 0)) okX5_shareIn rfl lkX5_47 caX3_shareOf (Nat.le_of_ble_eq_true rfl) rfl (Nat.le_of_ble_eq_true rfl) rfl rfl rfl (c_shareOf_2 (i := i) (by first | omega | (simp only [List.length_set]; omega)) (by omega)) ?_
  exact b_ret (v := (some (.inl (sh2.getD i 0)))) ⟨rfl, Or.inl rfl⟩ ⟨by rw [zs2.2 i hi], _, thk_of ⟨hk, hf, (by rw [List.length_set]; exact hc), hn, hkp, hl, hnt, zw2.1, zs2.1⟩, rfl⟩ rfl
set_option maxRecDepth 100000 in
set_option maxHeartbeats 4000000 in
theorem c_richestCell (hm : mOK p k f c n kp l nt w sh t d wa) (hB : thk B) {i : Nat} (hi : i < p) : aEv mX5_richestCell 5 0 0 N [.inr 97, .inl (i : Int)] [A0, (moSeg 32 k f c n kp l nt w sh (p : Int) t d wa), B, (miscSeg z fs ss sp la gr tl tp), B4, A5, C6] ((fun rv h => rv = some (.inl ((amy (fun (v : Nat) => shr p k f (c.set i (v : Int)) t i) (0, -1) 36).1)) ∧ ∃ B2, thk B2 ∧ h = [A0, (moSeg 32 k f c n kp l nt w sh (p : Int) t d wa), B2, (miscSeg z fs ss sp la gr tl tp), B4, A5, C6])) := by
  obtain ⟨⟨hp7, hk, hf, hc, hn, hkp, hl, rk, rf, rc, rn, rkp, rl, ht0, ht1, hd0, hd1⟩, ⟨hnt, znt⟩, ⟨hw, zw, zwa⟩, ⟨hsh, zsh⟩⟩ := id hm
  have hle := mOK_hle hm
  obtain ⟨k0, f0, c0, n0, kp0, l0, nt0, w0, sh0, P0, t0, d0, wa0, hl0, rfl⟩ := hB
  refine aEv_of okX5_richestCell caX5_richestCell (Nat.le_of_ble_eq_true rfl) ?_
  have hF : ∀ v : Nat, v < 36 → -1 ≤ (fun (v : Nat) => shr p k f (c.set i (v : Int)) t i) v ∧ (fun (v : Nat) => shr p k f (c.set i (v : Int)) t i) v ≤ 1000 := fun v hv => by
    have e := shr_le (p := p) (k := k) (c := c.set i (v : Int)) hp7 rf (rng_set rc (show 0 ≤ (v : Int) by omega) (by omega)) ⟨ht0, ht1⟩ hi
    show -1 ≤ shr p k f (c.set i (v : Int)) t i ∧ shr p k f (c.set i (v : Int)) t i ≤ 1000
    omega
  have lp : ∀ (j x : Nat) (cv : Int) (w1 : List Int) (sh1 : List Int) (wa1 : Int), x + j = 36 → (w1.length = 7) → (sh1.length = 7) → (0 ≤ cv ∧ cv ≤ 35) → AW mX5_richestCell 5 0 0 N none (fun rv h => rv = some (.inl ((amy (fun (v : Nat) => shr p k f (c.set i (v : Int)) t i) (0, -1) 36).1)) ∧ ∃ B2, thk B2 ∧ h = [A0, (moSeg 32 k f c n kp l nt w sh (p : Int) t d wa), B2, (miscSeg z fs ss sp la gr tl tp), B4, A5, C6]) (18, [some (.inr 97), some (.inl (i : Int)), some (.inl ((amy (fun (v : Nat) => shr p k f (c.set i (v : Int)) t i) (0, -1) x).1)), some (.inl ((amy (fun (v : Nat) => shr p k f (c.set i (v : Int)) t i) (0, -1) x).2)), some (.inl (x : Int))], [], [A0, (moSeg 32 k f c n kp l nt w sh (p : Int) t d wa), (moSeg 64 k f (c.set i cv) n kp l nt w1 sh1 (p : Int) t d wa1), (miscSeg z fs ss sp la gr tl tp), B4, A5, C6]) := by
    intro j
    induction j with
    | zero =>
      intro x cv w1 sh1 wa1 hij q1 q2 q3
      obtain rfl : 36 = x := by omega
      refine aGo okX5_richestCell 2 (f' := (22, [some (.inr 97), some (.inl (i : Int)), some (.inl ((amy (fun (v : Nat) => shr p k f (c.set i (v : Int)) t i) (0, -1) 36).1)), some (.inl ((amy (fun (v : Nat) => shr p k f (c.set i (v : Int)) t i) (0, -1) 36).2)), some (.inl (36 : Int))], [.inl 36, .inl (36 : Int)], _)) rfl ?_
      refine b_ge (tgt := 65) okX5_richestCell rfl rfl ⟨by omega, by omega⟩ ⟨by omega, by omega⟩ (fun h22 => ?_) (fun h22 => absurd h22 (by omega))
      refine aGo okX5_richestCell 1 (f' := (66, [some (.inr 97), some (.inl (i : Int)), some (.inl ((amy (fun (v : Nat) => shr p k f (c.set i (v : Int)) t i) (0, -1) 36).1)), some (.inl ((amy (fun (v : Nat) => shr p k f (c.set i (v : Int)) t i) (0, -1) 36).2)), some (.inl (36 : Int))], [.inl ((amy (fun (v : Nat) => shr p k f (c.set i (v : Int)) t i) (0, -1) 36).1)], _)) rfl ?_
      exact b_ret (v := (some (.inl ((amy (fun (v : Nat) => shr p k f (c.set i (v : Int)) t i) (0, -1) 36).1)))) ⟨rfl, Or.inl rfl⟩ ⟨rfl, _, thk_of ⟨hk, hf, (by rw [List.length_set]; exact hc), hn, hkp, hl, hnt, q1, q2⟩, rfl⟩ rfl
    | succ j ih =>
      intro x cv w1 sh1 wa1 hij q1 q2 q3
      have e0 := amy_le (F := (fun (v : Nat) => shr p k f (c.set i (v : Int)) t i)) (z := (0, -1)) (a := -1) (b := 1000) (m := 36) ⟨by decide, by decide⟩ hF x (by omega)
      refine aGo okX5_richestCell 2 (f' := (22, [some (.inr 97), some (.inl (i : Int)), some (.inl ((amy (fun (v : Nat) => shr p k f (c.set i (v : Int)) t i) (0, -1) x).1)), some (.inl ((amy (fun (v : Nat) => shr p k f (c.set i (v : Int)) t i) (0, -1) x).2)), some (.inl (x : Int))], [.inl 36, .inl (x : Int)], _)) rfl ?_
      refine b_ge (tgt := 65) okX5_richestCell rfl rfl ⟨by omega, by omega⟩ ⟨by omega, by omega⟩ (fun h22 => absurd h22 (by omega)) (fun h22 => ?_)
      refine aGo okX5_richestCell 4 (f' := (32, [some (.inr 97), some (.inl (i : Int)), some (.inl ((amy (fun (v : Nat) => shr p k f (c.set i (v : Int)) t i) (0, -1) x).1)), some (.inl ((amy (fun (v : Nat) => shr p k f (c.set i (v : Int)) t i) (0, -1) x).2)), some (.inl (x : Int))], [.inl (x : Int), .inl (i : Int), .inr 64], _)) rfl ?_
      refine b_vE (as := [.inl (i : Int), .inl (x : Int)]) (rest := []) (k := 64) okX5_richestCell rfl lkX5_43 caX3_place (Nat.le_of_ble_eq_true rfl) rfl (Nat.le_of_ble_eq_true rfl) rfl rfl rfl (c_place_2 ⟨hp7, hk, hf, (by rw [List.length_set]; exact hc), q1, q2, rk, rf, (rng_set rc q3.1 q3.2), ht0, ht1⟩ (i := i) (by omega) (v := (x : Int)) (by omega) (by omega)) ?_
      rintro _ _ ⟨rfl, w2, sh2, zw2, zs2, rfl⟩
      rw [List.set_set] at zw2 zs2 ⊢
      refine aGo okX5_richestCell 2 (f' := (39, [some (.inr 97), some (.inl (i : Int)), some (.inl ((amy (fun (v : Nat) => shr p k f (c.set i (v : Int)) t i) (0, -1) x).1)), some (.inl ((amy (fun (v : Nat) => shr p k f (c.set i (v : Int)) t i) (0, -1) x).2)), some (.inl (x : Int))], [.inr 64], _)) rfl ?_
      have e1 := zs2.1
      have e2 : sh2.getD i 0 = shr p k f (c.set i (x : Int)) t i := zs2.2 i hi
      have e3 := shr_le (k := k) (c := c.set i (x : Int)) hp7 rf (rng_set rc (show 0 ≤ (x : Int) by omega) (show (x : Int) ≤ 35 by omega)) ⟨ht0, ht1⟩ hi
      have e4 : 0 ≤ sh2.getD i 0 ∧ sh2.getD i 0 ≤ 1000 := by rw [e2]; exact e3
      refine aGo okX5_richestCell 1 (f' := (40, [some (.inr 97), some (.inl (i : Int)), some (.inl ((amy (fun (v : Nat) => shr p k f (c.set i (v : Int)) t i) (0, -1) x).1)), some (.inl ((amy (fun (v : Nat) => shr p k f (c.set i (v : Int)) t i) (0, -1) x).2)), some (.inl (x : Int))], [.inl (i : Int), .inr 64], _)) rfl ?_
      refine b_vV (as := [.inl (i : Int)]) (rest := []) (k := 64) (.inl (sh2.getD i 0)) okX5_richestCell rfl lkX5_47 caX3_shareOf (Nat.le_of_ble_eq_true rfl) rfl (Nat.le_of_ble_eq_true rfl) rfl rfl rfl (c_shareOf_2 (i := i) (by first | omega | (simp only [List.length_set]; omega)) (by omega)) ?_
      refine aGo okX5_richestCell 1 (f' := (44, [some (.inr 97), some (.inl (i : Int)), some (.inl ((amy (fun (v : Nat) => shr p k f (c.set i (v : Int)) t i) (0, -1) x).1)), some (.inl ((amy (fun (v : Nat) => shr p k f (c.set i (v : Int)) t i) (0, -1) x).2)), some (.inl (x : Int))], [.inl ((amy (fun (v : Nat) => shr p k f (c.set i (v : Int)) t i) (0, -1) x).2), .inl (sh2.getD i 0)], _)) rfl ?_
      refine b_le (tgt := 59) okX5_richestCell rfl rfl ⟨by omega, by omega⟩ ⟨by omega, by omega⟩ (fun h44 => ?_) (fun h44 => ?_)
      · refine aGo okX5_richestCell 2 (f' := (18, [some (.inr 97), some (.inl (i : Int)), some (.inl ((amy (fun (v : Nat) => shr p k f (c.set i (v : Int)) t i) (0, -1) x).1)), some (.inl ((amy (fun (v : Nat) => shr p k f (c.set i (v : Int)) t i) (0, -1) x).2)), some (.inl ((x : Int) + 1))], [], _)) rfl ?_
        refine b_cast (f' := (18, [some (.inr 97), some (.inl (i : Int)), some (.inl ((amy (fun (v : Nat) => shr p k f (c.set i (v : Int)) t i) (0, -1) (x + 1)).1)), some (.inl ((amy (fun (v : Nat) => shr p k f (c.set i (v : Int)) t i) (0, -1) (x + 1)).2)), some (.inl ((x : Int) + 1))], [], [A0, (moSeg 32 k f c n kp l nt w sh (p : Int) t d wa), (moSeg 64 k f (c.set i (x : Int)) n kp l nt w2 sh2 (p : Int) t d (wAll p k f (c.set i (x : Int)))), (miscSeg z fs ss sp la gr tl tp), B4, A5, C6])) (by rw [amy_f (F := (fun (v : Nat) => shr p k f (c.set i (v : Int)) t i)) (by rw [← e2]; omega)]) ?_
        exact ih (x + 1) (x : Int) w2 sh2 _ (by omega) zw2.1 zs2.1 (by omega)
      · refine aGo okX5_richestCell 3 (f' := (52, [some (.inr 97), some (.inl (i : Int)), some (.inl ((amy (fun (v : Nat) => shr p k f (c.set i (v : Int)) t i) (0, -1) x).1)), some (.inl ((amy (fun (v : Nat) => shr p k f (c.set i (v : Int)) t i) (0, -1) x).2)), some (.inl (x : Int))], [.inl (i : Int), .inr 64], _)) rfl ?_
        refine b_vV (as := [.inl (i : Int)]) (rest := []) (k := 64) (.inl (sh2.getD i 0)) okX5_richestCell rfl lkX5_47 caX3_shareOf (Nat.le_of_ble_eq_true rfl) rfl (Nat.le_of_ble_eq_true rfl) rfl rfl rfl (c_shareOf_2 (i := i) (by first | omega | (simp only [List.length_set]; omega)) (by omega)) ?_
        refine aGo okX5_richestCell 5 (f' := (18, [some (.inr 97), some (.inl (i : Int)), some (.inl (x : Int)), some (.inl (sh2.getD i 0)), some (.inl ((x : Int) + 1))], [], _)) rfl ?_
        refine b_cast (f' := (18, [some (.inr 97), some (.inl (i : Int)), some (.inl ((amy (fun (v : Nat) => shr p k f (c.set i (v : Int)) t i) (0, -1) (x + 1)).1)), some (.inl ((amy (fun (v : Nat) => shr p k f (c.set i (v : Int)) t i) (0, -1) (x + 1)).2)), some (.inl ((x : Int) + 1))], [], [A0, (moSeg 32 k f c n kp l nt w sh (p : Int) t d wa), (moSeg 64 k f (c.set i (x : Int)) n kp l nt w2 sh2 (p : Int) t d (wAll p k f (c.set i (x : Int)))), (miscSeg z fs ss sp la gr tl tp), B4, A5, C6])) (by rw [amy_t (F := (fun (v : Nat) => shr p k f (c.set i (v : Int)) t i)) (by rw [← e2]; omega), e2]) ?_
        exact ih (x + 1) (x : Int) w2 sh2 _ (by omega) zw2.1 zs2.1 (by omega)
  refine aGo okX5_richestCell 4 (f' := (8, [some (.inr 97), some (.inl (i : Int)), none, none, none], [.inr 32, .inr 64], _)) rfl ?_
  refine b_vN (as := [.inr 32]) (rest := []) (k := 64) okX5_richestCell rfl lkX5_37 caX3_takeFrom (Nat.le_of_ble_eq_true rfl) rfl (Nat.le_of_ble_eq_true rfl) rfl rfl rfl (c_take_21 (mOK_lens hm) hl0) ?_
  refine b_cast (f' := (11, [some (.inr 97), some (.inl (i : Int)), none, none, none], [], [A0, (moSeg 32 k f c n kp l nt w sh (p : Int) t d wa), (moSeg 64 k f c n kp l nt w sh (p : Int) t d wa), (miscSeg z fs ss sp la gr tl tp), B4, A5, C6])) rfl ?_
  refine aGo okX5_richestCell 6 (f' := (18, [some (.inr 97), some (.inl (i : Int)), some (.inl 0), some (.inl (-1)), some (.inl 0)], [], _)) rfl ?_
  have lp0 := lp 36 0 (c.getD i 0) w sh wa (by omega) hw hsh (rc _)
  rw [set_self (by omega)] at lp0
  exact lp0
set_option maxRecDepth 100000 in
set_option maxHeartbeats 4000000 in
theorem c_leastShareBeside {c1 w1 sh1 : List Int} {wa1 : Int} (hp7 : p ≤ 7) {i : Nat} (hi : i < 7) (hs1 : sh1.length = 7) (hsb : ∀ q, q < p → 0 ≤ sh1.getD q 0 ∧ sh1.getD q 0 ≤ 1000) : aEv mX5_leastShareBeside 2 0 0 N [.inr 97, .inl (i : Int)] [A0, (moSeg 32 k f c n kp l nt w sh (p : Int) t d wa), (moSeg 64 k f c1 n kp l nt w1 sh1 (p : Int) t d wa1), (miscSeg z fs ss sp la gr tl tp), B4, A5, C6] (aQx (some (.inl (lsN i (fun q => sh1.getD q 0) p))) [A0, (moSeg 32 k f c n kp l nt w sh (p : Int) t d wa), (moSeg 64 k f c1 n kp l nt w1 sh1 (p : Int) t d wa1), (miscSeg z fs ss sp la gr tl tp), B4, A5, C6]) := by
  refine aEv_of okX5_leastShareBeside caX5_leastShareBeside (Nat.le_of_ble_eq_true rfl) ?_
  have lp : ∀ (j x : Nat), x + j = p → AW mX5_leastShareBeside 2 0 0 N none (aQx (some (.inl (lsN i (fun q => sh1.getD q 0) p))) [A0, (moSeg 32 k f c n kp l nt w sh (p : Int) t d wa), (moSeg 64 k f c1 n kp l nt w1 sh1 (p : Int) t d wa1), (miscSeg z fs ss sp la gr tl tp), B4, A5, C6]) (6, [some (.inr 97), some (.inl (i : Int)), some (.inl (lsN i (fun q => sh1.getD q 0) x)), some (.inl (x : Int))], [], [A0, (moSeg 32 k f c n kp l nt w sh (p : Int) t d wa), (moSeg 64 k f c1 n kp l nt w1 sh1 (p : Int) t d wa1), (miscSeg z fs ss sp la gr tl tp), B4, A5, C6]) := by
    intro j
    induction j with
    | zero =>
      intro x  hij 
      obtain rfl : p = x := by omega
      refine aGo okX5_leastShareBeside 3 (f' := (11, [some (.inr 97), some (.inl (i : Int)), some (.inl (lsN i (fun q => sh1.getD q 0) p)), some (.inl (p : Int))], [.inr 64, .inl (p : Int)], _)) rfl ?_
      refine b_vV (as := []) (rest := [.inl (p : Int)]) (k := 64) (.inl (p : Int)) okX5_leastShareBeside rfl lkX5_54 caX3_people (Nat.le_of_ble_eq_true rfl) rfl (Nat.le_of_ble_eq_true rfl) rfl rfl rfl (c_people_2) ?_
      refine b_ge (tgt := 41) okX5_leastShareBeside rfl rfl ⟨by omega, by omega⟩ ⟨by omega, by omega⟩ (fun h14 => ?_) (fun h14 => absurd h14 (by omega))
      refine aGo okX5_leastShareBeside 1 (f' := (42, [some (.inr 97), some (.inl (i : Int)), some (.inl (lsN i (fun q => sh1.getD q 0) p)), some (.inl (p : Int))], [.inl (lsN i (fun q => sh1.getD q 0) p)], _)) rfl ?_
      exact b_ret (v := (some (.inl (lsN i (fun q => sh1.getD q 0) p)))) ⟨rfl, Or.inl rfl⟩ ⟨rfl, rfl⟩ rfl
    | succ j ih =>
      intro x  hij 
      have e0 := lsN_le (i := i) (S := fun q => sh1.getD q 0) (p := p) hsb x (by omega)
      have e1 := hsb x (by omega)
      refine aGo okX5_leastShareBeside 3 (f' := (11, [some (.inr 97), some (.inl (i : Int)), some (.inl (lsN i (fun q => sh1.getD q 0) x)), some (.inl (x : Int))], [.inr 64, .inl (x : Int)], _)) rfl ?_
      refine b_vV (as := []) (rest := [.inl (x : Int)]) (k := 64) (.inl (p : Int)) okX5_leastShareBeside rfl lkX5_54 caX3_people (Nat.le_of_ble_eq_true rfl) rfl (Nat.le_of_ble_eq_true rfl) rfl rfl rfl (c_people_2) ?_
      refine b_ge (tgt := 41) okX5_leastShareBeside rfl rfl ⟨by omega, by omega⟩ ⟨by omega, by omega⟩ (fun h14 => absurd h14 (by omega)) (fun h14 => ?_)
      refine aGo okX5_leastShareBeside 2 (f' := (19, [some (.inr 97), some (.inl (i : Int)), some (.inl (lsN i (fun q => sh1.getD q 0) x)), some (.inl (x : Int))], [.inl (i : Int), .inl (x : Int)], _)) rfl ?_
      refine b_eq (tgt := 35) okX5_leastShareBeside rfl rfl ⟨by omega, by omega⟩ ⟨by omega, by omega⟩ (fun h19 => ?_) (fun h19 => ?_)
      · refine aGo okX5_leastShareBeside 2 (f' := (6, [some (.inr 97), some (.inl (i : Int)), some (.inl (lsN i (fun q => sh1.getD q 0) x)), some (.inl ((x : Int) + 1))], [], _)) rfl ?_
        refine b_cast (f' := (6, [some (.inr 97), some (.inl (i : Int)), some (.inl (lsN i (fun q => sh1.getD q 0) (x + 1))), some (.inl ((x : Int) + 1))], [], [A0, (moSeg 32 k f c n kp l nt w sh (p : Int) t d wa), (moSeg 64 k f c1 n kp l nt w1 sh1 (p : Int) t d wa1), (miscSeg z fs ss sp la gr tl tp), B4, A5, C6])) (by simp only [lsN]; rw [if_pos (show x = i by omega)]) ?_
        exact ih (x + 1) (by omega)
      · refine aGo okX5_leastShareBeside 4 (f' := (28, [some (.inr 97), some (.inl (i : Int)), some (.inl (lsN i (fun q => sh1.getD q 0) x)), some (.inl (x : Int))], [.inl (x : Int), .inr 64, .inl (lsN i (fun q => sh1.getD q 0) x)], _)) rfl ?_
        refine b_vV (as := [.inl (x : Int)]) (rest := [.inl (lsN i (fun q => sh1.getD q 0) x)]) (k := 64) (.inl (sh1.getD x 0)) okX5_leastShareBeside rfl lkX5_47 caX3_shareOf (Nat.le_of_ble_eq_true rfl) rfl (Nat.le_of_ble_eq_true rfl) rfl rfl rfl (c_shareOf_2 (i := x) (by first | omega | (simp only [List.length_set]; omega)) (by omega)) ?_
        refine b_min okX5_leastShareBeside rfl lkX5_58 ma_min_s ma_min_c (Nat.le_of_ble_eq_true rfl) (Nat.le_of_ble_eq_true rfl) ⟨by omega, by omega⟩ ⟨by omega, by omega⟩ ?_
        refine aGo okX5_leastShareBeside 3 (f' := (6, [some (.inr 97), some (.inl (i : Int)), some (.inl (min (lsN i (fun q => sh1.getD q 0) x) (sh1.getD x 0))), some (.inl ((x : Int) + 1))], [], _)) rfl ?_
        refine b_cast (f' := (6, [some (.inr 97), some (.inl (i : Int)), some (.inl (lsN i (fun q => sh1.getD q 0) (x + 1))), some (.inl ((x : Int) + 1))], [], [A0, (moSeg 32 k f c n kp l nt w sh (p : Int) t d wa), (moSeg 64 k f c1 n kp l nt w1 sh1 (p : Int) t d wa1), (miscSeg z fs ss sp la gr tl tp), B4, A5, C6])) (by simp only [lsN]; rw [if_neg (show ¬ x = i by omega)]) ?_
        exact ih (x + 1) (by omega)
  refine aGo okX5_leastShareBeside 4 (f' := (6, [some (.inr 97), some (.inl (i : Int)), some (.inl 999), some (.inl 0)], [], _)) rfl ?_
  exact lp p 0 (by omega)
set_option maxRecDepth 100000 in
set_option maxHeartbeats 4000000 in
theorem c_kindCell (hm : mOK p k f c n kp l nt w sh t d wa) (hB : thk B) {i : Nat} (hi : i < p) : aEv mX5_kindCell 5 0 0 N [.inr 97, .inl (i : Int)] [A0, (moSeg 32 k f c n kp l nt w sh (p : Int) t d wa), B, (miscSeg z fs ss sp la gr tl tp), B4, A5, C6] ((fun rv h => rv = some (.inl ((amy (fun (v : Nat) => lsN i (shr p k f (c.set i (v : Int)) t) p) (0, -1) 36).1)) ∧ ∃ B2, thk B2 ∧ h = [A0, (moSeg 32 k f c n kp l nt w sh (p : Int) t d wa), B2, (miscSeg z fs ss sp la gr tl tp), B4, A5, C6])) := by
  obtain ⟨⟨hp7, hk, hf, hc, hn, hkp, hl, rk, rf, rc, rn, rkp, rl, ht0, ht1, hd0, hd1⟩, ⟨hnt, znt⟩, ⟨hw, zw, zwa⟩, ⟨hsh, zsh⟩⟩ := id hm
  have hle := mOK_hle hm
  obtain ⟨k0, f0, c0, n0, kp0, l0, nt0, w0, sh0, P0, t0, d0, wa0, hl0, rfl⟩ := hB
  refine aEv_of okX5_kindCell caX5_kindCell (Nat.le_of_ble_eq_true rfl) ?_
  have hF : ∀ v : Nat, v < 36 → -1 ≤ (fun (v : Nat) => lsN i (shr p k f (c.set i (v : Int)) t) p) v ∧ (fun (v : Nat) => lsN i (shr p k f (c.set i (v : Int)) t) p) v ≤ 1000 := fun v hv => by
    have e := lsN_le (i := i) (S := shr p k f (c.set i (v : Int)) t) (p := p) (fun q hq => shr_le (k := k) hp7 rf (rng_set rc (show 0 ≤ (v : Int) by omega) (by omega)) ⟨ht0, ht1⟩ hq) p (Nat.le_refl p)
    show -1 ≤ lsN i (shr p k f (c.set i (v : Int)) t) p ∧ lsN i (shr p k f (c.set i (v : Int)) t) p ≤ 1000
    omega
  have lp : ∀ (j x : Nat) (cv : Int) (w1 : List Int) (sh1 : List Int) (wa1 : Int), x + j = 36 → (w1.length = 7) → (sh1.length = 7) → (0 ≤ cv ∧ cv ≤ 35) → AW mX5_kindCell 5 0 0 N none (fun rv h => rv = some (.inl ((amy (fun (v : Nat) => lsN i (shr p k f (c.set i (v : Int)) t) p) (0, -1) 36).1)) ∧ ∃ B2, thk B2 ∧ h = [A0, (moSeg 32 k f c n kp l nt w sh (p : Int) t d wa), B2, (miscSeg z fs ss sp la gr tl tp), B4, A5, C6]) (18, [some (.inr 97), some (.inl (i : Int)), some (.inl ((amy (fun (v : Nat) => lsN i (shr p k f (c.set i (v : Int)) t) p) (0, -1) x).1)), some (.inl ((amy (fun (v : Nat) => lsN i (shr p k f (c.set i (v : Int)) t) p) (0, -1) x).2)), some (.inl (x : Int)), none], [], [A0, (moSeg 32 k f c n kp l nt w sh (p : Int) t d wa), (moSeg 64 k f (c.set i cv) n kp l nt w1 sh1 (p : Int) t d wa1), (miscSeg z fs ss sp la gr tl tp), B4, A5, C6]) := by
    intro j
    induction j with
    | zero =>
      intro x cv w1 sh1 wa1 hij q1 q2 q3
      obtain rfl : 36 = x := by omega
      refine aGo okX5_kindCell 2 (f' := (22, [some (.inr 97), some (.inl (i : Int)), some (.inl ((amy (fun (v : Nat) => lsN i (shr p k f (c.set i (v : Int)) t) p) (0, -1) 36).1)), some (.inl ((amy (fun (v : Nat) => lsN i (shr p k f (c.set i (v : Int)) t) p) (0, -1) 36).2)), some (.inl (36 : Int)), none], [.inl 36, .inl (36 : Int)], _)) rfl ?_
      refine b_ge (tgt := 60) okX5_kindCell rfl rfl ⟨by omega, by omega⟩ ⟨by omega, by omega⟩ (fun h22 => ?_) (fun h22 => absurd h22 (by omega))
      refine aGo okX5_kindCell 1 (f' := (61, [some (.inr 97), some (.inl (i : Int)), some (.inl ((amy (fun (v : Nat) => lsN i (shr p k f (c.set i (v : Int)) t) p) (0, -1) 36).1)), some (.inl ((amy (fun (v : Nat) => lsN i (shr p k f (c.set i (v : Int)) t) p) (0, -1) 36).2)), some (.inl (36 : Int)), none], [.inl ((amy (fun (v : Nat) => lsN i (shr p k f (c.set i (v : Int)) t) p) (0, -1) 36).1)], _)) rfl ?_
      exact b_ret (v := (some (.inl ((amy (fun (v : Nat) => lsN i (shr p k f (c.set i (v : Int)) t) p) (0, -1) 36).1)))) ⟨rfl, Or.inl rfl⟩ ⟨rfl, _, thk_of ⟨hk, hf, (by rw [List.length_set]; exact hc), hn, hkp, hl, hnt, q1, q2⟩, rfl⟩ rfl
    | succ j ih =>
      intro x cv w1 sh1 wa1 hij q1 q2 q3
      have e0 := amy_le (F := (fun (v : Nat) => lsN i (shr p k f (c.set i (v : Int)) t) p)) (z := (0, -1)) (a := -1) (b := 1000) (m := 36) ⟨by decide, by decide⟩ hF x (by omega)
      refine aGo okX5_kindCell 2 (f' := (22, [some (.inr 97), some (.inl (i : Int)), some (.inl ((amy (fun (v : Nat) => lsN i (shr p k f (c.set i (v : Int)) t) p) (0, -1) x).1)), some (.inl ((amy (fun (v : Nat) => lsN i (shr p k f (c.set i (v : Int)) t) p) (0, -1) x).2)), some (.inl (x : Int)), none], [.inl 36, .inl (x : Int)], _)) rfl ?_
      refine b_ge (tgt := 60) okX5_kindCell rfl rfl ⟨by omega, by omega⟩ ⟨by omega, by omega⟩ (fun h22 => absurd h22 (by omega)) (fun h22 => ?_)
      refine aGo okX5_kindCell 4 (f' := (32, [some (.inr 97), some (.inl (i : Int)), some (.inl ((amy (fun (v : Nat) => lsN i (shr p k f (c.set i (v : Int)) t) p) (0, -1) x).1)), some (.inl ((amy (fun (v : Nat) => lsN i (shr p k f (c.set i (v : Int)) t) p) (0, -1) x).2)), some (.inl (x : Int)), none], [.inl (x : Int), .inl (i : Int), .inr 64], _)) rfl ?_
      refine b_vE (as := [.inl (i : Int), .inl (x : Int)]) (rest := []) (k := 64) okX5_kindCell rfl lkX5_43 caX3_place (Nat.le_of_ble_eq_true rfl) rfl (Nat.le_of_ble_eq_true rfl) rfl rfl rfl (c_place_2 ⟨hp7, hk, hf, (by rw [List.length_set]; exact hc), q1, q2, rk, rf, (rng_set rc q3.1 q3.2), ht0, ht1⟩ (i := i) (by omega) (v := (x : Int)) (by omega) (by omega)) ?_
      rintro _ _ ⟨rfl, w2, sh2, zw2, zs2, rfl⟩
      rw [List.set_set] at zw2 zs2 ⊢
      have e4 : ∀ q, q < p → 0 ≤ sh2.getD q 0 ∧ sh2.getD q 0 ≤ 1000 := fun q hq => by rw [zs2.2 q hq]; exact shr_le (k := k) hp7 rf (rng_set rc (show 0 ≤ (x : Int) by omega) (show (x : Int) ≤ 35 by omega)) ⟨ht0, ht1⟩ hq
      have e2 : lsN i (fun q => sh2.getD q 0) p = lsN i (shr p k f (c.set i (x : Int)) t) p := lsN_congr zs2.2 p (Nat.le_refl p)
      have e5 := lsN_le (i := i) (S := fun q => sh2.getD q 0) (p := p) e4 p (Nat.le_refl p)
      refine aGo okX5_kindCell 2 (f' := (37, [some (.inr 97), some (.inl (i : Int)), some (.inl ((amy (fun (v : Nat) => lsN i (shr p k f (c.set i (v : Int)) t) p) (0, -1) x).1)), some (.inl ((amy (fun (v : Nat) => lsN i (shr p k f (c.set i (v : Int)) t) p) (0, -1) x).2)), some (.inl (x : Int)), none], [.inl (i : Int), .inr 97], _)) rfl ?_
      refine b_vV (as := [.inl (i : Int)]) (rest := []) (k := 97) (.inl (lsN i (fun q => sh2.getD q 0) p)) okX5_kindCell rfl lkX5_51 caX5_leastShareBeside (Nat.le_of_ble_eq_true rfl) rfl (Nat.le_of_ble_eq_true rfl) rfl rfl rfl (c_leastShareBeside hp7 (by omega) zs2.1 e4) ?_
      refine aGo okX5_kindCell 3 (f' := (45, [some (.inr 97), some (.inl (i : Int)), some (.inl ((amy (fun (v : Nat) => lsN i (shr p k f (c.set i (v : Int)) t) p) (0, -1) x).1)), some (.inl ((amy (fun (v : Nat) => lsN i (shr p k f (c.set i (v : Int)) t) p) (0, -1) x).2)), some (.inl (x : Int)), some (.inl (lsN i (fun q => sh2.getD q 0) p))], [.inl ((amy (fun (v : Nat) => lsN i (shr p k f (c.set i (v : Int)) t) p) (0, -1) x).2), .inl (lsN i (fun q => sh2.getD q 0) p)], _)) rfl ?_
      refine b_le (tgt := 54) okX5_kindCell rfl rfl ⟨by omega, by omega⟩ ⟨by omega, by omega⟩ (fun h45 => ?_) (fun h45 => ?_)
      · refine aGo okX5_kindCell 2 (f' := (18, [some (.inr 97), some (.inl (i : Int)), some (.inl ((amy (fun (v : Nat) => lsN i (shr p k f (c.set i (v : Int)) t) p) (0, -1) x).1)), some (.inl ((amy (fun (v : Nat) => lsN i (shr p k f (c.set i (v : Int)) t) p) (0, -1) x).2)), some (.inl ((x : Int) + 1)), some (.inl (lsN i (fun q => sh2.getD q 0) p))], [], _)) rfl ?_
        refine b_cast (f' := (18, [some (.inr 97), some (.inl (i : Int)), some (.inl ((amy (fun (v : Nat) => lsN i (shr p k f (c.set i (v : Int)) t) p) (0, -1) (x + 1)).1)), some (.inl ((amy (fun (v : Nat) => lsN i (shr p k f (c.set i (v : Int)) t) p) (0, -1) (x + 1)).2)), some (.inl ((x : Int) + 1)), some (.inl (lsN i (fun q => sh2.getD q 0) p))], [], [A0, (moSeg 32 k f c n kp l nt w sh (p : Int) t d wa), (moSeg 64 k f (c.set i (x : Int)) n kp l nt w2 sh2 (p : Int) t d (wAll p k f (c.set i (x : Int)))), (miscSeg z fs ss sp la gr tl tp), B4, A5, C6])) (by rw [amy_f (F := (fun (v : Nat) => lsN i (shr p k f (c.set i (v : Int)) t) p)) (by rw [← e2]; omega)]) ?_
        refine b_lose (ls' := [some (.inr 97), some (.inl (i : Int)), some (.inl ((amy (fun (v : Nat) => lsN i (shr p k f (c.set i (v : Int)) t) p) (0, -1) (x + 1)).1)), some (.inl ((amy (fun (v : Nat) => lsN i (shr p k f (c.set i (v : Int)) t) p) (0, -1) (x + 1)).2)), some (.inl ((x : Int) + 1)), none]) (lose5 _ _ _ _ _ _) ?_
        exact ih (x + 1) (x : Int) w2 sh2 _ (by omega) zw2.1 zs2.1 (by omega)
      · refine aGo okX5_kindCell 6 (f' := (18, [some (.inr 97), some (.inl (i : Int)), some (.inl (x : Int)), some (.inl (lsN i (fun q => sh2.getD q 0) p)), some (.inl ((x : Int) + 1)), some (.inl (lsN i (fun q => sh2.getD q 0) p))], [], _)) rfl ?_
        refine b_cast (f' := (18, [some (.inr 97), some (.inl (i : Int)), some (.inl ((amy (fun (v : Nat) => lsN i (shr p k f (c.set i (v : Int)) t) p) (0, -1) (x + 1)).1)), some (.inl ((amy (fun (v : Nat) => lsN i (shr p k f (c.set i (v : Int)) t) p) (0, -1) (x + 1)).2)), some (.inl ((x : Int) + 1)), some (.inl (lsN i (fun q => sh2.getD q 0) p))], [], [A0, (moSeg 32 k f c n kp l nt w sh (p : Int) t d wa), (moSeg 64 k f (c.set i (x : Int)) n kp l nt w2 sh2 (p : Int) t d (wAll p k f (c.set i (x : Int)))), (miscSeg z fs ss sp la gr tl tp), B4, A5, C6])) (by rw [amy_t (F := (fun (v : Nat) => lsN i (shr p k f (c.set i (v : Int)) t) p)) (by rw [← e2]; omega), e2]) ?_
        refine b_lose (ls' := [some (.inr 97), some (.inl (i : Int)), some (.inl ((amy (fun (v : Nat) => lsN i (shr p k f (c.set i (v : Int)) t) p) (0, -1) (x + 1)).1)), some (.inl ((amy (fun (v : Nat) => lsN i (shr p k f (c.set i (v : Int)) t) p) (0, -1) (x + 1)).2)), some (.inl ((x : Int) + 1)), none]) (lose5 _ _ _ _ _ _) ?_
        exact ih (x + 1) (x : Int) w2 sh2 _ (by omega) zw2.1 zs2.1 (by omega)
  refine aGo okX5_kindCell 4 (f' := (8, [some (.inr 97), some (.inl (i : Int)), none, none, none, none], [.inr 32, .inr 64], _)) rfl ?_
  refine b_vN (as := [.inr 32]) (rest := []) (k := 64) okX5_kindCell rfl lkX5_37 caX3_takeFrom (Nat.le_of_ble_eq_true rfl) rfl (Nat.le_of_ble_eq_true rfl) rfl rfl rfl (c_take_21 (mOK_lens hm) hl0) ?_
  refine b_cast (f' := (11, [some (.inr 97), some (.inl (i : Int)), none, none, none, none], [], [A0, (moSeg 32 k f c n kp l nt w sh (p : Int) t d wa), (moSeg 64 k f c n kp l nt w sh (p : Int) t d wa), (miscSeg z fs ss sp la gr tl tp), B4, A5, C6])) rfl ?_
  refine aGo okX5_kindCell 6 (f' := (18, [some (.inr 97), some (.inl (i : Int)), some (.inl 0), some (.inl (-1)), some (.inl 0), none], [], _)) rfl ?_
  have lp0 := lp 36 0 (c.getD i 0) w sh wa (by omega) hw hsh (rc _)
  rw [set_self (by omega)] at lp0
  exact lp0
set_option maxRecDepth 100000 in
set_option maxHeartbeats 4000000 in
theorem c_sharesBeside (hm : mOK p k f c n kp l nt w sh t d wa) (hB : thk B) (hp6 : p ≤ 6) {v : Int} (hv0 : 0 ≤ v) (hv1 : v ≤ 35) : aEv mX5_sharesBesideOneMoreIn 5 0 0 N [.inr 97, .inl v] [A0, (moSeg 32 k f c n kp l nt w sh (p : Int) t d wa), B, (miscSeg z fs ss sp la gr tl tp), B4, A5, C6] ((fun rv h => rv = some (.inl (t - shr (p + 1) (k.set p 0) (f.set p 0) (c.set p v) t p)) ∧ ∃ B2, thk B2 ∧ h = [A0, (moSeg 32 k f c n kp l nt w sh (p : Int) t d wa), B2, (miscSeg z fs ss sp la gr tl tp), B4, A5, C6])) := by
  obtain ⟨⟨hp7, hk, hf, hc, hn, hkp, hl, rk, rf, rc, rn, rkp, rl, ht0, ht1, hd0, hd1⟩, ⟨hnt, znt⟩, ⟨hw, zw, zwa⟩, ⟨hsh, zsh⟩⟩ := id hm
  have hle := mOK_hle hm
  obtain ⟨k0, f0, c0, n0, kp0, l0, nt0, w0, sh0, P0, t0, d0, wa0, hl0, rfl⟩ := hB
  refine aEv_of okX5_sharesBesideOneMoreIn caX5_sharesBesideOneMoreIn (Nat.le_of_ble_eq_true rfl) ?_
  refine aGo okX5_sharesBesideOneMoreIn 4 (f' := (8, [some (.inr 97), some (.inl v)], [.inr 32, .inr 64], _)) rfl ?_
  refine b_vN (as := [.inr 32]) (rest := []) (k := 64) okX5_sharesBesideOneMoreIn rfl lkX5_37 caX3_takeFrom (Nat.le_of_ble_eq_true rfl) rfl (Nat.le_of_ble_eq_true rfl) rfl rfl rfl (c_take_21 (mOK_lens hm) hl0) ?_
  refine b_cast (f' := (11, [some (.inr 97), some (.inl v)], [], [A0, (moSeg 32 k f c n kp l nt w sh (p : Int) t d wa), (moSeg 64 k f c n kp l nt w sh (p : Int) t d wa), (miscSeg z fs ss sp la gr tl tp), B4, A5, C6])) rfl ?_
  refine aGo okX5_sharesBesideOneMoreIn 6 (f' := (19, [some (.inr 97), some (.inl v)], [.inl 0, .inl v, .inl 0, .inl 0, .inr 64], _)) rfl ?_
  refine b_vE (as := [.inl 0, .inl 0, .inl v, .inl 0]) (rest := []) (k := 64) okX5_sharesBesideOneMoreIn rfl lkX5_73 caX3_add (Nat.le_of_ble_eq_true rfl) rfl (Nat.le_of_ble_eq_true rfl) rfl rfl rfl (c_add_2 (mOK_wH hm) hp6 hn hkp hl hnt ⟨by decide, by decide⟩ ⟨by decide, by decide⟩ ⟨hv0, hv1⟩) ?_
  rintro _ _ ⟨rfl, nt2, w2, sh2, zn2, zw2, zs2, rfl⟩
  refine aGo okX5_sharesBesideOneMoreIn 2 (f' := (26, [some (.inr 97), some (.inl v)], [.inr 64], _)) rfl ?_
  refine b_vV (as := []) (rest := []) (k := 64) (.inl t) okX5_sharesBesideOneMoreIn rfl lkX5_77 caX3_total (Nat.le_of_ble_eq_true rfl) rfl (Nat.le_of_ble_eq_true rfl) rfl rfl rfl (c_total_2) ?_
  refine aGo okX5_sharesBesideOneMoreIn 2 (f' := (33, [some (.inr 97), some (.inl v)], [.inr 64, .inl t], _)) rfl ?_
  have e1 := zs2.1
  refine aGo okX5_sharesBesideOneMoreIn 2 (f' := (37, [some (.inr 97), some (.inl v)], [.inr 32, .inr 64, .inl t], _)) rfl ?_
  refine b_vV (as := []) (rest := [.inr 64, .inl t]) (k := 32) (.inl (p : Int)) okX5_sharesBesideOneMoreIn rfl lkX5_54 caX3_people (Nat.le_of_ble_eq_true rfl) rfl (Nat.le_of_ble_eq_true rfl) rfl rfl rfl (c_people_1) ?_
  refine b_vV (as := [.inl (p : Int)]) (rest := [.inl t]) (k := 64) (.inl (sh2.getD p 0)) okX5_sharesBesideOneMoreIn rfl lkX5_47 caX3_shareOf (Nat.le_of_ble_eq_true rfl) rfl (Nat.le_of_ble_eq_true rfl) rfl rfl rfl (c_shareOf_2 (i := p) (by first | omega | (simp only [List.length_set]; omega)) (by omega)) ?_
  refine aGo okX5_sharesBesideOneMoreIn 1 (f' := (44, [some (.inr 97), some (.inl v)], [.inl (t - (sh2.getD p 0))], _)) rfl ?_
  exact b_ret (v := (some (.inl (t - (sh2.getD p 0))))) ⟨rfl, Or.inl rfl⟩ ⟨by rw [zs2.2 p (by omega)], _, thk_of ⟨by rw [List.length_set]; exact hk, by rw [List.length_set]; exact hf, by rw [List.length_set]; exact hc, by rw [List.length_set]; exact hn, by rw [List.length_set]; exact hkp, by rw [addL_len]; exact hl, zn2.1, zw2.1, zs2.1⟩, rfl⟩ rfl
set_option maxRecDepth 100000 in
set_option maxHeartbeats 4000000 in
theorem c_bestSurveyCell (hm : mOK p k f c n kp l nt w sh t d wa) (hB : thk B) (hp6 : p ≤ 6) : aEv mX5_bestSurveyCell 6 0 0 N [.inr 97] [A0, (moSeg 32 k f c n kp l nt w sh (p : Int) t d wa), B, (miscSeg z fs ss sp la gr tl tp), B4, A5, C6] ((fun rv h => rv = some (.inl ((amy (fun (v : Nat) => t - shr (p + 1) (k.set p 0) (f.set p 0) (c.set p (v : Int)) t p) (0, -1) 36).1)) ∧ ∃ B2, thk B2 ∧ h = [A0, (moSeg 32 k f c n kp l nt w sh (p : Int) t d wa), B2, (miscSeg z fs ss sp la gr tl tp), B4, A5, C6])) := by
  obtain ⟨⟨hp7, hk, hf, hc, hn, hkp, hl, rk, rf, rc, rn, rkp, rl, ht0, ht1, hd0, hd1⟩, ⟨hnt, znt⟩, ⟨hw, zw, zwa⟩, ⟨hsh, zsh⟩⟩ := id hm
  refine aEv_of okX5_bestSurveyCell caX5_bestSurveyCell (Nat.le_of_ble_eq_true rfl) ?_
  have hF : ∀ v : Nat, v < 36 → -1001 ≤ t - shr (p + 1) (k.set p 0) (f.set p 0) (c.set p (v : Int)) t p ∧ t - shr (p + 1) (k.set p 0) (f.set p 0) (c.set p (v : Int)) t p ≤ 1000 := fun v hv => by
    have e := shr_le (p := p + 1) (k := k.set p 0) (f := f.set p 0) (c := c.set p (v : Int)) (t := t) (q := p) (by omega) (rng_set rf (Int.le_refl 0) (by omega)) (rng_set rc (show 0 ≤ (v : Int) by omega) (show (v : Int) ≤ 35 by omega)) ⟨ht0, ht1⟩ (by omega)
    omega
  have lp : ∀ (j x : Nat) (B1 : List (Option aE)), x + j = 36 → (thk B1) → AW mX5_bestSurveyCell 6 0 0 N none (fun rv h => rv = some (.inl ((amy (fun (v : Nat) => t - shr (p + 1) (k.set p 0) (f.set p 0) (c.set p (v : Int)) t p) (0, -1) 36).1)) ∧ ∃ B2, thk B2 ∧ h = [A0, (moSeg 32 k f c n kp l nt w sh (p : Int) t d wa), B2, (miscSeg z fs ss sp la gr tl tp), B4, A5, C6]) (6, [some (.inr 97), some (.inl ((amy (fun (v : Nat) => t - shr (p + 1) (k.set p 0) (f.set p 0) (c.set p (v : Int)) t p) (0, -1) x).1)), some (.inl ((amy (fun (v : Nat) => t - shr (p + 1) (k.set p 0) (f.set p 0) (c.set p (v : Int)) t p) (0, -1) x).2)), some (.inl (x : Int)), none], [], [A0, (moSeg 32 k f c n kp l nt w sh (p : Int) t d wa), B1, (miscSeg z fs ss sp la gr tl tp), B4, A5, C6]) := by
    intro j
    induction j with
    | zero =>
      intro x B1 hij hB1
      obtain rfl : 36 = x := by omega
      refine aGo okX5_bestSurveyCell 2 (f' := (9, [some (.inr 97), some (.inl ((amy (fun (v : Nat) => t - shr (p + 1) (k.set p 0) (f.set p 0) (c.set p (v : Int)) t p) (0, -1) 36).1)), some (.inl ((amy (fun (v : Nat) => t - shr (p + 1) (k.set p 0) (f.set p 0) (c.set p (v : Int)) t p) (0, -1) 36).2)), some (.inl (36 : Int)), none], [.inl 36, .inl (36 : Int)], _)) rfl ?_
      refine b_ge (tgt := 36) okX5_bestSurveyCell rfl rfl ⟨by omega, by omega⟩ ⟨by omega, by omega⟩ (fun h9 => ?_) (fun h9 => absurd h9 (by omega))
      refine aGo okX5_bestSurveyCell 1 (f' := (37, [some (.inr 97), some (.inl ((amy (fun (v : Nat) => t - shr (p + 1) (k.set p 0) (f.set p 0) (c.set p (v : Int)) t p) (0, -1) 36).1)), some (.inl ((amy (fun (v : Nat) => t - shr (p + 1) (k.set p 0) (f.set p 0) (c.set p (v : Int)) t p) (0, -1) 36).2)), some (.inl (36 : Int)), none], [.inl ((amy (fun (v : Nat) => t - shr (p + 1) (k.set p 0) (f.set p 0) (c.set p (v : Int)) t p) (0, -1) 36).1)], _)) rfl ?_
      exact b_ret (v := (some (.inl ((amy (fun (v : Nat) => t - shr (p + 1) (k.set p 0) (f.set p 0) (c.set p (v : Int)) t p) (0, -1) 36).1)))) ⟨rfl, Or.inl rfl⟩ ⟨rfl, B1, hB1, rfl⟩ rfl
    | succ j ih =>
      intro x B1 hij hB1
      have e6 := hF x (by omega)
      have e0 := amy_le (F := (fun (v : Nat) => t - shr (p + 1) (k.set p 0) (f.set p 0) (c.set p (v : Int)) t p)) (z := (0, -1)) (a := -1001) (b := 1000) (m := 36) ⟨by decide, by decide⟩ hF x (by omega)
      refine aGo okX5_bestSurveyCell 2 (f' := (9, [some (.inr 97), some (.inl ((amy (fun (v : Nat) => t - shr (p + 1) (k.set p 0) (f.set p 0) (c.set p (v : Int)) t p) (0, -1) x).1)), some (.inl ((amy (fun (v : Nat) => t - shr (p + 1) (k.set p 0) (f.set p 0) (c.set p (v : Int)) t p) (0, -1) x).2)), some (.inl (x : Int)), none], [.inl 36, .inl (x : Int)], _)) rfl ?_
      refine b_ge (tgt := 36) okX5_bestSurveyCell rfl rfl ⟨by omega, by omega⟩ ⟨by omega, by omega⟩ (fun h9 => absurd h9 (by omega)) (fun h9 => ?_)
      refine aGo okX5_bestSurveyCell 2 (f' := (14, [some (.inr 97), some (.inl ((amy (fun (v : Nat) => t - shr (p + 1) (k.set p 0) (f.set p 0) (c.set p (v : Int)) t p) (0, -1) x).1)), some (.inl ((amy (fun (v : Nat) => t - shr (p + 1) (k.set p 0) (f.set p 0) (c.set p (v : Int)) t p) (0, -1) x).2)), some (.inl (x : Int)), none], [.inl (x : Int), .inr 97], _)) rfl ?_
      refine b_vE (as := [.inl (x : Int)]) (rest := []) (k := 97) okX5_bestSurveyCell rfl lkX5_80 caX5_sharesBesideOneMoreIn (Nat.le_of_ble_eq_true rfl) rfl (Nat.le_of_ble_eq_true rfl) rfl rfl rfl (c_sharesBeside hm hB1 hp6 (v := (x : Int)) (by omega) (by omega)) ?_
      rintro _ _ ⟨rfl, B2, hB2, rfl⟩
      refine aGo okX5_bestSurveyCell 3 (f' := (22, [some (.inr 97), some (.inl ((amy (fun (v : Nat) => t - shr (p + 1) (k.set p 0) (f.set p 0) (c.set p (v : Int)) t p) (0, -1) x).1)), some (.inl ((amy (fun (v : Nat) => t - shr (p + 1) (k.set p 0) (f.set p 0) (c.set p (v : Int)) t p) (0, -1) x).2)), some (.inl (x : Int)), some (.inl (t - shr (p + 1) (k.set p 0) (f.set p 0) (c.set p (x : Int)) t p))], [.inl ((amy (fun (v : Nat) => t - shr (p + 1) (k.set p 0) (f.set p 0) (c.set p (v : Int)) t p) (0, -1) x).2), .inl (t - shr (p + 1) (k.set p 0) (f.set p 0) (c.set p (x : Int)) t p)], _)) rfl ?_
      refine b_le (tgt := 30) okX5_bestSurveyCell rfl rfl ⟨by omega, by omega⟩ ⟨by omega, by omega⟩ (fun h22 => ?_) (fun h22 => ?_)
      · refine aGo okX5_bestSurveyCell 2 (f' := (6, [some (.inr 97), some (.inl ((amy (fun (v : Nat) => t - shr (p + 1) (k.set p 0) (f.set p 0) (c.set p (v : Int)) t p) (0, -1) x).1)), some (.inl ((amy (fun (v : Nat) => t - shr (p + 1) (k.set p 0) (f.set p 0) (c.set p (v : Int)) t p) (0, -1) x).2)), some (.inl ((x : Int) + 1)), some (.inl (t - shr (p + 1) (k.set p 0) (f.set p 0) (c.set p (x : Int)) t p))], [], _)) rfl ?_
        refine b_cast (f' := (6, [some (.inr 97), some (.inl ((amy (fun (v : Nat) => t - shr (p + 1) (k.set p 0) (f.set p 0) (c.set p (v : Int)) t p) (0, -1) (x + 1)).1)), some (.inl ((amy (fun (v : Nat) => t - shr (p + 1) (k.set p 0) (f.set p 0) (c.set p (v : Int)) t p) (0, -1) (x + 1)).2)), some (.inl ((x : Int) + 1)), some (.inl (t - shr (p + 1) (k.set p 0) (f.set p 0) (c.set p (x : Int)) t p))], [], [A0, (moSeg 32 k f c n kp l nt w sh (p : Int) t d wa), B2, (miscSeg z fs ss sp la gr tl tp), B4, A5, C6])) (by rw [amy_f (F := (fun (v : Nat) => t - shr (p + 1) (k.set p 0) (f.set p 0) (c.set p (v : Int)) t p)) h22]) ?_
        refine b_lose (ls' := [some (.inr 97), some (.inl ((amy (fun (v : Nat) => t - shr (p + 1) (k.set p 0) (f.set p 0) (c.set p (v : Int)) t p) (0, -1) (x + 1)).1)), some (.inl ((amy (fun (v : Nat) => t - shr (p + 1) (k.set p 0) (f.set p 0) (c.set p (v : Int)) t p) (0, -1) (x + 1)).2)), some (.inl ((x : Int) + 1)), none]) (lose4g _ _ _ _ _) ?_
        exact ih (x + 1) B2 (by omega) hB2
      · refine aGo okX5_bestSurveyCell 6 (f' := (6, [some (.inr 97), some (.inl (x : Int)), some (.inl (t - shr (p + 1) (k.set p 0) (f.set p 0) (c.set p (x : Int)) t p)), some (.inl ((x : Int) + 1)), some (.inl (t - shr (p + 1) (k.set p 0) (f.set p 0) (c.set p (x : Int)) t p))], [], _)) rfl ?_
        refine b_cast (f' := (6, [some (.inr 97), some (.inl ((amy (fun (v : Nat) => t - shr (p + 1) (k.set p 0) (f.set p 0) (c.set p (v : Int)) t p) (0, -1) (x + 1)).1)), some (.inl ((amy (fun (v : Nat) => t - shr (p + 1) (k.set p 0) (f.set p 0) (c.set p (v : Int)) t p) (0, -1) (x + 1)).2)), some (.inl ((x : Int) + 1)), some (.inl (t - shr (p + 1) (k.set p 0) (f.set p 0) (c.set p (x : Int)) t p))], [], [A0, (moSeg 32 k f c n kp l nt w sh (p : Int) t d wa), B2, (miscSeg z fs ss sp la gr tl tp), B4, A5, C6])) (by rw [amy_t (F := (fun (v : Nat) => t - shr (p + 1) (k.set p 0) (f.set p 0) (c.set p (v : Int)) t p)) h22]) ?_
        refine b_lose (ls' := [some (.inr 97), some (.inl ((amy (fun (v : Nat) => t - shr (p + 1) (k.set p 0) (f.set p 0) (c.set p (v : Int)) t p) (0, -1) (x + 1)).1)), some (.inl ((amy (fun (v : Nat) => t - shr (p + 1) (k.set p 0) (f.set p 0) (c.set p (v : Int)) t p) (0, -1) (x + 1)).2)), some (.inl ((x : Int) + 1)), none]) (lose4g _ _ _ _ _) ?_
        exact ih (x + 1) B2 (by omega) hB2
  refine aGo okX5_bestSurveyCell 6 (f' := (6, [some (.inr 97), some (.inl 0), some (.inl (-1)), some (.inl 0), none], [], _)) rfl ?_
  exact lp 36 0 B (by omega) hB
set_option maxRecDepth 100000 in
set_option maxHeartbeats 4000000 in
theorem c_quarrelCell (hc : c.length = 7) (rc : rng c 35) {i g : Nat} (hi : i < 7) (hg : g < 7) {K : Int} (hK0 : 0 ≤ K) (hK1 : K ≤ 100) : aEv mX5_quarrelCell 2 0 0 N [.inr 97, .inl (i : Int), .inl (g : Int), .inl K] [A0, (moSeg 32 k f c n kp l nt w sh (p : Int) t d wa), B, (miscSeg z fs ss sp la gr tl tp), B4, A5, C6] (aQx (some (.inl (qcN c i g K 36).1)) [A0, (moSeg 32 k f c n kp l nt w sh (p : Int) t d wa), B, (miscSeg z fs ss sp la gr tl tp), B4, A5, C6]) := by
  refine aEv_of okX5_quarrelCell caX5_quarrelCell (Nat.le_of_ble_eq_true rfl) ?_
  have lp : ∀ (j x : Nat), x + j = 36 → AW mX5_quarrelCell 2 0 0 N none (aQx (some (.inl (qcN c i g K 36).1)) [A0, (moSeg 32 k f c n kp l nt w sh (p : Int) t d wa), B, (miscSeg z fs ss sp la gr tl tp), B4, A5, C6]) (10, [some (.inr 97), some (.inl (i : Int)), some (.inl (g : Int)), some (.inl K), some (.inl ((qcN c i g K x).1)), some (.inl ((qcN c i g K x).2)), some (.inl (x : Int)), none], [], [A0, (moSeg 32 k f c n kp l nt w sh (p : Int) t d wa), B, (miscSeg z fs ss sp la gr tl tp), B4, A5, C6]) := by
    intro j
    induction j with
    | zero =>
      intro x  hij 
      obtain rfl : 36 = x := by omega
      refine aGo okX5_quarrelCell 2 (f' := (14, [some (.inr 97), some (.inl (i : Int)), some (.inl (g : Int)), some (.inl K), some (.inl ((qcN c i g K 36).1)), some (.inl ((qcN c i g K 36).2)), some (.inl (36 : Int)), none], [.inl 36, .inl (36 : Int)], _)) rfl ?_
      refine b_ge (tgt := 77) okX5_quarrelCell rfl rfl ⟨by omega, by omega⟩ ⟨by omega, by omega⟩ (fun h14 => ?_) (fun h14 => absurd h14 (by omega))
      refine aGo okX5_quarrelCell 1 (f' := (79, [some (.inr 97), some (.inl (i : Int)), some (.inl (g : Int)), some (.inl K), some (.inl ((qcN c i g K 36).1)), some (.inl ((qcN c i g K 36).2)), some (.inl (36 : Int)), none], [.inl ((qcN c i g K 36).1)], _)) rfl ?_
      exact b_ret (v := (some (.inl ((qcN c i g K 36).1)))) ⟨rfl, Or.inl rfl⟩ ⟨rfl, rfl⟩ rfl
    | succ j ih =>
      intro x  hij 
      have e0 := qcN_le rc (i := i) (g := g) (K := K) x (by omega)
      have e1 := rc i
      have e2 := rc g
      have e3 := stp_le (rc i) (show 0 ≤ (x : Int) ∧ (x : Int) ≤ 35 by omega)
      have e4 := stp_le (show 0 ≤ (x : Int) ∧ (x : Int) ≤ 35 by omega) (rc g)
      refine aGo okX5_quarrelCell 2 (f' := (14, [some (.inr 97), some (.inl (i : Int)), some (.inl (g : Int)), some (.inl K), some (.inl ((qcN c i g K x).1)), some (.inl ((qcN c i g K x).2)), some (.inl (x : Int)), none], [.inl 36, .inl (x : Int)], _)) rfl ?_
      refine b_ge (tgt := 77) okX5_quarrelCell rfl rfl ⟨by omega, by omega⟩ ⟨by omega, by omega⟩ (fun h14 => absurd h14 (by omega)) (fun h14 => ?_)
      refine aGo okX5_quarrelCell 3 (f' := (22, [some (.inr 97), some (.inl (i : Int)), some (.inl (g : Int)), some (.inl K), some (.inl ((qcN c i g K x).1)), some (.inl ((qcN c i g K x).2)), some (.inl (x : Int)), none], [.inl (i : Int), .inr 32], _)) rfl ?_
      refine b_vV (as := [.inl (i : Int)]) (rest := []) (k := 32) (.inl (c.getD i 0)) okX5_quarrelCell rfl lkX5_89 caX3_cellOf (Nat.le_of_ble_eq_true rfl) rfl (Nat.le_of_ble_eq_true rfl) rfl rfl rfl (c_cellOf_1 (i := i) (by first | omega | (simp only [List.length_set]; omega)) (by omega)) ?_
      refine aGo okX5_quarrelCell 1 (f' := (27, [some (.inr 97), some (.inl (i : Int)), some (.inl (g : Int)), some (.inl K), some (.inl ((qcN c i g K x).1)), some (.inl ((qcN c i g K x).2)), some (.inl (x : Int)), none], [.inl (x : Int), .inl (c.getD i 0)], _)) rfl ?_
      refine b_vT (as := [.inl (c.getD i 0), .inl (x : Int)]) (rest := []) (.inl (stp (c.getD i 0) (x : Int))) okX5_quarrelCell rfl lkX5_92 caX7_steps (Nat.le_of_ble_eq_true rfl) rfl (Nat.le_of_ble_eq_true rfl) rfl (c_steps ⟨by omega, by omega⟩ ⟨by omega, by omega⟩) ?_
      refine aGo okX5_quarrelCell 5 (f' := (39, [some (.inr 97), some (.inl (i : Int)), some (.inl (g : Int)), some (.inl K), some (.inl ((qcN c i g K x).1)), some (.inl ((qcN c i g K x).2)), some (.inl (x : Int)), some (.inl (stp (c.getD i 0) (x : Int)))], [.inl (g : Int), .inr 32, .inl (x : Int)], _)) rfl ?_
      refine b_vV (as := [.inl (g : Int)]) (rest := [.inl (x : Int)]) (k := 32) (.inl (c.getD g 0)) okX5_quarrelCell rfl lkX5_89 caX3_cellOf (Nat.le_of_ble_eq_true rfl) rfl (Nat.le_of_ble_eq_true rfl) rfl rfl rfl (c_cellOf_1 (i := g) (by first | omega | (simp only [List.length_set]; omega)) (by omega)) ?_
      refine b_vT (as := [.inl (x : Int), .inl (c.getD g 0)]) (rest := []) (.inl (stp (x : Int) (c.getD g 0))) okX5_quarrelCell rfl lkX5_92 caX7_steps (Nat.le_of_ble_eq_true rfl) rfl (Nat.le_of_ble_eq_true rfl) rfl (c_steps ⟨by omega, by omega⟩ ⟨by omega, by omega⟩) ?_
      refine aGo okX5_quarrelCell 1 (f' := (46, [some (.inr 97), some (.inl (i : Int)), some (.inl (g : Int)), some (.inl K), some (.inl ((qcN c i g K x).1)), some (.inl ((qcN c i g K x).2)), some (.inl (x : Int)), some (.inl (stp (c.getD i 0) (x : Int)))], [.inl K, .inl (stp (x : Int) (c.getD g 0))], _)) rfl ?_
      refine b_le (tgt := 71) okX5_quarrelCell rfl rfl ⟨by omega, by omega⟩ ⟨by omega, by omega⟩ (fun h46 => ?_) (fun h46 => ?_)
      · refine aGo okX5_quarrelCell 2 (f' := (10, [some (.inr 97), some (.inl (i : Int)), some (.inl (g : Int)), some (.inl K), some (.inl ((qcN c i g K x).1)), some (.inl ((qcN c i g K x).2)), some (.inl ((x : Int) + 1)), some (.inl (stp (c.getD i 0) (x : Int)))], [], _)) rfl ?_
        refine b_cast (f' := (10, [some (.inr 97), some (.inl (i : Int)), some (.inl (g : Int)), some (.inl K), some (.inl ((qcN c i g K (x + 1)).1)), some (.inl ((qcN c i g K (x + 1)).2)), some (.inl ((x : Int) + 1)), some (.inl (stp (c.getD i 0) (x : Int)))], [], [A0, (moSeg 32 k f c n kp l nt w sh (p : Int) t d wa), B, (miscSeg z fs ss sp la gr tl tp), B4, A5, C6])) (by simp only [qcN]; rw [if_neg (by omega)]) ?_
        refine b_lose (ls' := [some (.inr 97), some (.inl (i : Int)), some (.inl (g : Int)), some (.inl K), some (.inl ((qcN c i g K (x + 1)).1)), some (.inl ((qcN c i g K (x + 1)).2)), some (.inl ((x : Int) + 1)), none]) (lose7h _ _ _ _ _ _ _ _) ?_
        exact ih (x + 1) (by omega)
      · refine aGo okX5_quarrelCell 2 (f' := (53, [some (.inr 97), some (.inl (i : Int)), some (.inl (g : Int)), some (.inl K), some (.inl ((qcN c i g K x).1)), some (.inl ((qcN c i g K x).2)), some (.inl (x : Int)), some (.inl (stp (c.getD i 0) (x : Int)))], [.inl (-9), .inl ((qcN c i g K x).1)], _)) rfl ?_
        refine b_eq (tgt := 63) okX5_quarrelCell rfl rfl ⟨by omega, by omega⟩ ⟨by omega, by omega⟩ (fun h53 => ?_) (fun h53 => ?_)
        · refine aGo okX5_quarrelCell 6 (f' := (10, [some (.inr 97), some (.inl (i : Int)), some (.inl (g : Int)), some (.inl K), some (.inl (x : Int)), some (.inl (stp (c.getD i 0) (x : Int))), some (.inl ((x : Int) + 1)), some (.inl (stp (c.getD i 0) (x : Int)))], [], _)) rfl ?_
          refine b_cast (f' := (10, [some (.inr 97), some (.inl (i : Int)), some (.inl (g : Int)), some (.inl K), some (.inl ((qcN c i g K (x + 1)).1)), some (.inl ((qcN c i g K (x + 1)).2)), some (.inl ((x : Int) + 1)), some (.inl (stp (c.getD i 0) (x : Int)))], [], [A0, (moSeg 32 k f c n kp l nt w sh (p : Int) t d wa), B, (miscSeg z fs ss sp la gr tl tp), B4, A5, C6])) (by simp only [qcN]; rw [if_pos (by omega)]) ?_
          refine b_lose (ls' := [some (.inr 97), some (.inl (i : Int)), some (.inl (g : Int)), some (.inl K), some (.inl ((qcN c i g K (x + 1)).1)), some (.inl ((qcN c i g K (x + 1)).2)), some (.inl ((x : Int) + 1)), none]) (lose7h _ _ _ _ _ _ _ _) ?_
          exact ih (x + 1) (by omega)
        · refine aGo okX5_quarrelCell 2 (f' := (60, [some (.inr 97), some (.inl (i : Int)), some (.inl (g : Int)), some (.inl K), some (.inl ((qcN c i g K x).1)), some (.inl ((qcN c i g K x).2)), some (.inl (x : Int)), some (.inl (stp (c.getD i 0) (x : Int)))], [.inl ((qcN c i g K x).2), .inl (stp (c.getD i 0) (x : Int))], _)) rfl ?_
          refine b_ge (tgt := 71) okX5_quarrelCell rfl rfl ⟨by omega, by omega⟩ ⟨by omega, by omega⟩ (fun h60 => ?_) (fun h60 => ?_)
          · refine aGo okX5_quarrelCell 2 (f' := (10, [some (.inr 97), some (.inl (i : Int)), some (.inl (g : Int)), some (.inl K), some (.inl ((qcN c i g K x).1)), some (.inl ((qcN c i g K x).2)), some (.inl ((x : Int) + 1)), some (.inl (stp (c.getD i 0) (x : Int)))], [], _)) rfl ?_
            refine b_cast (f' := (10, [some (.inr 97), some (.inl (i : Int)), some (.inl (g : Int)), some (.inl K), some (.inl ((qcN c i g K (x + 1)).1)), some (.inl ((qcN c i g K (x + 1)).2)), some (.inl ((x : Int) + 1)), some (.inl (stp (c.getD i 0) (x : Int)))], [], [A0, (moSeg 32 k f c n kp l nt w sh (p : Int) t d wa), B, (miscSeg z fs ss sp la gr tl tp), B4, A5, C6])) (by simp only [qcN]; rw [if_neg (by omega)]) ?_
            refine b_lose (ls' := [some (.inr 97), some (.inl (i : Int)), some (.inl (g : Int)), some (.inl K), some (.inl ((qcN c i g K (x + 1)).1)), some (.inl ((qcN c i g K (x + 1)).2)), some (.inl ((x : Int) + 1)), none]) (lose7h _ _ _ _ _ _ _ _) ?_
            exact ih (x + 1) (by omega)
          · refine aGo okX5_quarrelCell 6 (f' := (10, [some (.inr 97), some (.inl (i : Int)), some (.inl (g : Int)), some (.inl K), some (.inl (x : Int)), some (.inl (stp (c.getD i 0) (x : Int))), some (.inl ((x : Int) + 1)), some (.inl (stp (c.getD i 0) (x : Int)))], [], _)) rfl ?_
            refine b_cast (f' := (10, [some (.inr 97), some (.inl (i : Int)), some (.inl (g : Int)), some (.inl K), some (.inl ((qcN c i g K (x + 1)).1)), some (.inl ((qcN c i g K (x + 1)).2)), some (.inl ((x : Int) + 1)), some (.inl (stp (c.getD i 0) (x : Int)))], [], [A0, (moSeg 32 k f c n kp l nt w sh (p : Int) t d wa), B, (miscSeg z fs ss sp la gr tl tp), B4, A5, C6])) (by simp only [qcN]; rw [if_pos (by omega)]) ?_
            refine b_lose (ls' := [some (.inr 97), some (.inl (i : Int)), some (.inl (g : Int)), some (.inl K), some (.inl ((qcN c i g K (x + 1)).1)), some (.inl ((qcN c i g K (x + 1)).2)), some (.inl ((x : Int) + 1)), none]) (lose7h _ _ _ _ _ _ _ _) ?_
            exact ih (x + 1) (by omega)
  refine aGo okX5_quarrelCell 6 (f' := (10, [some (.inr 97), some (.inl (i : Int)), some (.inl (g : Int)), some (.inl K), some (.inl (-9)), some (.inl 0), some (.inl 0), none], [], _)) rfl ?_
  exact lp 36 0 (by omega)
set_option maxRecDepth 100000 in
set_option maxHeartbeats 4000000 in
theorem c_numberWithout_t {i g : Nat} (hi : i < 65536) (hg : g < 65536) (h : g < i) : aEv mX5_numberWithout 0 0 0 N [.inr 97, .inl (g : Int), .inl (i : Int)] [A0, (moSeg 32 k f c n kp l nt w sh (p : Int) t d wa), B, (miscSeg z fs ss sp la gr tl tp), B4, A5, C6] (aQx (some (.inl ((i - 1 : Nat) : Int))) [A0, (moSeg 32 k f c n kp l nt w sh (p : Int) t d wa), B, (miscSeg z fs ss sp la gr tl tp), B4, A5, C6]) := by
  refine aEv_of okX5_numberWithout caX5_numberWithout (Nat.le_of_ble_eq_true rfl) ?_
  refine aGo okX5_numberWithout 2 (f' := (2, [some (.inr 97), some (.inl (g : Int)), some (.inl (i : Int))], [.inl (g : Int), .inl (i : Int)], _)) rfl ?_
  refine b_le (tgt := 11) okX5_numberWithout rfl rfl ⟨by omega, by omega⟩ ⟨by omega, by omega⟩ (fun h2 => absurd h2 (by omega)) (fun h2 => ?_)
  refine aGo okX5_numberWithout 4 (f' := (12, [some (.inr 97), some (.inl (g : Int)), some (.inl (i : Int))], [.inl ((i : Int) - 1)], _)) rfl ?_
  exact b_ret (v := (some (.inl ((i : Int) - 1)))) ⟨rfl, Or.inl rfl⟩ ⟨by rw [show (i : Int) - 1 = ((i - 1 : Nat) : Int) by omega], rfl⟩ rfl
set_option maxRecDepth 100000 in
set_option maxHeartbeats 4000000 in
theorem c_numberWithout_f {i g : Nat} (hi : i < 65536) (hg : g < 65536) (h : i ≤ g) : aEv mX5_numberWithout 0 0 0 N [.inr 97, .inl (g : Int), .inl (i : Int)] [A0, (moSeg 32 k f c n kp l nt w sh (p : Int) t d wa), B, (miscSeg z fs ss sp la gr tl tp), B4, A5, C6] (aQx (some (.inl (i : Int))) [A0, (moSeg 32 k f c n kp l nt w sh (p : Int) t d wa), B, (miscSeg z fs ss sp la gr tl tp), B4, A5, C6]) := by
  refine aEv_of okX5_numberWithout caX5_numberWithout (Nat.le_of_ble_eq_true rfl) ?_
  refine aGo okX5_numberWithout 2 (f' := (2, [some (.inr 97), some (.inl (g : Int)), some (.inl (i : Int))], [.inl (g : Int), .inl (i : Int)], _)) rfl ?_
  refine b_le (tgt := 11) okX5_numberWithout rfl rfl ⟨by omega, by omega⟩ ⟨by omega, by omega⟩ (fun h2 => ?_) (fun h2 => absurd h2 (by omega))
  refine aGo okX5_numberWithout 1 (f' := (12, [some (.inr 97), some (.inl (g : Int)), some (.inl (i : Int))], [.inl (i : Int)], _)) rfl ?_
  exact b_ret (v := (some (.inl (i : Int)))) ⟨rfl, Or.inl rfl⟩ ⟨rfl, rfl⟩ rfl
set_option maxRecDepth 100000 in
set_option maxHeartbeats 4000000 in
theorem c_chosenCell_0 {x : Int} (hx : 0 ≤ x ∧ x ≤ 35) : aEv mX5_chosenCell 0 0 0 N [.inr 97, .inl x, .inl 0] [A0, (moSeg 32 k f c n kp l nt w sh (p : Int) t d wa), B, (miscSeg z fs ss sp la gr tl tp), B4, A5, C6] (aQx (some (.inl (mov x 0))) [A0, (moSeg 32 k f c n kp l nt w sh (p : Int) t d wa), B, (miscSeg z fs ss sp la gr tl tp), B4, A5, C6]) := by
  refine aEv_of okX5_chosenCell caX5_chosenCell (Nat.le_of_ble_eq_true rfl) ?_
  refine aGo okX5_chosenCell 1 (f' := (1, [some (.inr 97), some (.inl x), some (.inl 0)], [.inl 0], _)) rfl ?_
  refine b_swOut (tgt := 96) okX5_chosenCell rfl ⟨by decide, by decide⟩ (by decide) rfl ?_
  refine aGo okX5_chosenCell 1 (f' := (97, [some (.inr 97), some (.inl x), some (.inl 0)], [.inl x], _)) rfl ?_
  exact b_ret (v := (some (.inl x))) ⟨rfl, Or.inl rfl⟩ ⟨rfl, rfl⟩ rfl
set_option maxRecDepth 100000 in
set_option maxHeartbeats 4000000 in
theorem c_chosenCell_1 {x : Int} (hx : 0 ≤ x ∧ x ≤ 35) : aEv mX5_chosenCell 0 0 0 N [.inr 97, .inl x, .inl 1] [A0, (moSeg 32 k f c n kp l nt w sh (p : Int) t d wa), B, (miscSeg z fs ss sp la gr tl tp), B4, A5, C6] (aQx (some (.inl (mov x 1))) [A0, (moSeg 32 k f c n kp l nt w sh (p : Int) t d wa), B, (miscSeg z fs ss sp la gr tl tp), B4, A5, C6]) := by
  refine aEv_of okX5_chosenCell caX5_chosenCell (Nat.le_of_ble_eq_true rfl) ?_
  refine aGo okX5_chosenCell 1 (f' := (1, [some (.inr 97), some (.inl x), some (.inl 1)], [.inl 1], _)) rfl ?_
  refine b_swIn (tgt := 32) okX5_chosenCell rfl ⟨by decide, by decide⟩ (by decide) (by decide) rfl rfl ?_
  refine aGo okX5_chosenCell 2 (f' := (35, [some (.inr 97), some (.inl x), some (.inl 1)], [.inl 6, .inl x], _)) rfl ?_
  refine b_lt (tgt := 45) okX5_chosenCell rfl rfl ⟨by omega, by omega⟩ ⟨by omega, by omega⟩ (fun h35 => ?_) (fun h35 => ?_)
  · refine aGo okX5_chosenCell 1 (f' := (46, [some (.inr 97), some (.inl x), some (.inl 1)], [.inl x], _)) rfl ?_
    exact b_ret (v := (some (.inl x))) ⟨rfl, Or.inl rfl⟩ ⟨by rw [show mov x 1 = x from if_neg (by omega)], rfl⟩ rfl
  · refine aGo okX5_chosenCell 4 (f' := (46, [some (.inr 97), some (.inl x), some (.inl 1)], [.inl (x - 6)], _)) rfl ?_
    exact b_ret (v := (some (.inl (x - 6)))) ⟨rfl, Or.inl rfl⟩ ⟨by rw [show mov x 1 = (x - 6) from if_pos (by omega)], rfl⟩ rfl
set_option maxRecDepth 100000 in
set_option maxHeartbeats 4000000 in
theorem c_chosenCell_2 {x : Int} (hx : 0 ≤ x ∧ x ≤ 35) : aEv mX5_chosenCell 0 0 0 N [.inr 97, .inl x, .inl 2] [A0, (moSeg 32 k f c n kp l nt w sh (p : Int) t d wa), B, (miscSeg z fs ss sp la gr tl tp), B4, A5, C6] (aQx (some (.inl (mov x 2))) [A0, (moSeg 32 k f c n kp l nt w sh (p : Int) t d wa), B, (miscSeg z fs ss sp la gr tl tp), B4, A5, C6]) := by
  refine aEv_of okX5_chosenCell caX5_chosenCell (Nat.le_of_ble_eq_true rfl) ?_
  refine aGo okX5_chosenCell 1 (f' := (1, [some (.inr 97), some (.inl x), some (.inl 2)], [.inl 2], _)) rfl ?_
  refine b_swIn (tgt := 47) okX5_chosenCell rfl ⟨by decide, by decide⟩ (by decide) (by decide) rfl rfl ?_
  refine aGo okX5_chosenCell 2 (f' := (50, [some (.inr 97), some (.inl x), some (.inl 2)], [.inl 6, .inl x], _)) rfl ?_
  refine b_rem okX5_chosenCell rfl ⟨by omega, by omega⟩ ⟨by omega, by omega⟩ ?_
  refine b0_le (tgt := 60) okX5_chosenCell rfl rfl ⟨by omega, by omega⟩ (fun h51 => ?_) (fun h51 => ?_)
  · refine aGo okX5_chosenCell 1 (f' := (61, [some (.inr 97), some (.inl x), some (.inl 2)], [.inl x], _)) rfl ?_
    exact b_ret (v := (some (.inl x))) ⟨rfl, Or.inl rfl⟩ ⟨by rw [show mov x 2 = x from if_neg (by omega)], rfl⟩ rfl
  · refine aGo okX5_chosenCell 4 (f' := (61, [some (.inr 97), some (.inl x), some (.inl 2)], [.inl (x - 1)], _)) rfl ?_
    exact b_ret (v := (some (.inl (x - 1)))) ⟨rfl, Or.inl rfl⟩ ⟨by rw [show mov x 2 = (x - 1) from if_pos (by omega)], rfl⟩ rfl
set_option maxRecDepth 100000 in
set_option maxHeartbeats 4000000 in
theorem c_chosenCell_3 {x : Int} (hx : 0 ≤ x ∧ x ≤ 35) : aEv mX5_chosenCell 0 0 0 N [.inr 97, .inl x, .inl 3] [A0, (moSeg 32 k f c n kp l nt w sh (p : Int) t d wa), B, (miscSeg z fs ss sp la gr tl tp), B4, A5, C6] (aQx (some (.inl (mov x 3))) [A0, (moSeg 32 k f c n kp l nt w sh (p : Int) t d wa), B, (miscSeg z fs ss sp la gr tl tp), B4, A5, C6]) := by
  refine aEv_of okX5_chosenCell caX5_chosenCell (Nat.le_of_ble_eq_true rfl) ?_
  refine aGo okX5_chosenCell 1 (f' := (1, [some (.inr 97), some (.inl x), some (.inl 3)], [.inl 3], _)) rfl ?_
  refine b_swIn (tgt := 62) okX5_chosenCell rfl ⟨by decide, by decide⟩ (by decide) (by decide) rfl rfl ?_
  refine aGo okX5_chosenCell 2 (f' := (65, [some (.inr 97), some (.inl x), some (.inl 3)], [.inl 6, .inl x], _)) rfl ?_
  refine b_rem okX5_chosenCell rfl ⟨by omega, by omega⟩ ⟨by omega, by omega⟩ ?_
  refine aGo okX5_chosenCell 1 (f' := (67, [some (.inr 97), some (.inl x), some (.inl 3)], [.inl 5, .inl (x % 6)], _)) rfl ?_
  refine b_ge (tgt := 76) okX5_chosenCell rfl rfl ⟨by omega, by omega⟩ ⟨by omega, by omega⟩ (fun h67 => ?_) (fun h67 => ?_)
  · refine aGo okX5_chosenCell 1 (f' := (77, [some (.inr 97), some (.inl x), some (.inl 3)], [.inl x], _)) rfl ?_
    exact b_ret (v := (some (.inl x))) ⟨rfl, Or.inl rfl⟩ ⟨by rw [show mov x 3 = x from if_neg (by omega)], rfl⟩ rfl
  · refine aGo okX5_chosenCell 4 (f' := (77, [some (.inr 97), some (.inl x), some (.inl 3)], [.inl (x + 1)], _)) rfl ?_
    exact b_ret (v := (some (.inl (x + 1)))) ⟨rfl, Or.inl rfl⟩ ⟨by rw [show mov x 3 = (x + 1) from if_pos (by omega)], rfl⟩ rfl
set_option maxRecDepth 100000 in
set_option maxHeartbeats 4000000 in
theorem c_chosenCell_4 {x : Int} (hx : 0 ≤ x ∧ x ≤ 35) : aEv mX5_chosenCell 0 0 0 N [.inr 97, .inl x, .inl 4] [A0, (moSeg 32 k f c n kp l nt w sh (p : Int) t d wa), B, (miscSeg z fs ss sp la gr tl tp), B4, A5, C6] (aQx (some (.inl (mov x 4))) [A0, (moSeg 32 k f c n kp l nt w sh (p : Int) t d wa), B, (miscSeg z fs ss sp la gr tl tp), B4, A5, C6]) := by
  refine aEv_of okX5_chosenCell caX5_chosenCell (Nat.le_of_ble_eq_true rfl) ?_
  refine aGo okX5_chosenCell 1 (f' := (1, [some (.inr 97), some (.inl x), some (.inl 4)], [.inl 4], _)) rfl ?_
  refine b_swIn (tgt := 78) okX5_chosenCell rfl ⟨by decide, by decide⟩ (by decide) (by decide) rfl rfl ?_
  refine aGo okX5_chosenCell 4 (f' := (84, [some (.inr 97), some (.inl x), some (.inl 4)], [.inl 36, .inl (x + 6)], _)) rfl ?_
  refine b_ge (tgt := 94) okX5_chosenCell rfl rfl ⟨by omega, by omega⟩ ⟨by omega, by omega⟩ (fun h84 => ?_) (fun h84 => ?_)
  · refine aGo okX5_chosenCell 1 (f' := (95, [some (.inr 97), some (.inl x), some (.inl 4)], [.inl x], _)) rfl ?_
    exact b_ret (v := (some (.inl x))) ⟨rfl, Or.inl rfl⟩ ⟨by rw [show mov x 4 = x from if_neg (by omega)], rfl⟩ rfl
  · refine aGo okX5_chosenCell 4 (f' := (95, [some (.inr 97), some (.inl x), some (.inl 4)], [.inl (x + 6)], _)) rfl ?_
    exact b_ret (v := (some (.inl (x + 6)))) ⟨rfl, Or.inl rfl⟩ ⟨by rw [show mov x 4 = (x + 6) from if_pos (by omega)], rfl⟩ rfl
end AOA
