/-! OtherMoors, second half; laid by gen_other2.py -/
/-- shares and nets when one is gone -/
def shrR (p : Nat) (k f c : List Int) (t : Int) (g q : Nat) : Int := shr p (shL g k (p - g)) (shL g f (p - g)) (shL g c (p - g)) t q
def netR (p : Nat) (l : List Int) (g q : Nat) : Int := net p (colsL g (p + 1) (rowsL g (p + 1) l (p - g)) (p - g)) q
theorem shrR_le {p : Nat} {k f c : List Int} {t : Int} (hp : p ≤ 7) (hf : rng f 9) (hc : rng c 35) (ht : 0 ≤ t ∧ t ≤ 999) {g q : Nat} (hq : q < p) : 0 ≤ shrR p k f c t g q ∧ shrR p k f c t g q ≤ 1000 := shr_le hp (shL_rng hf _) (shL_rng hc _) ht hq
theorem netR_le {p : Nat} {l : List Int} (hp : p ≤ 7) (hl : rng l 99) (g q : Nat) : -700 ≤ netR p l g q ∧ netR p l g q ≤ 700 := net_le hp (colsL_rng (rowsL_rng hl _) _) q
def tkF (p : Nat) (k f c : List Int) (t : Int) (g i : Nat) : Int := shrR p k f c t g (nwI g i) - shr (p + 1) k f c t i
/-- who has more when g is gone -/
def gwP (p : Nat) (k f c l : List Int) (t : Int) (g y : Nat) : Prop := y ≠ g ∧ hasM (p + 1) k f c l t y < shrR p k f c t g (nwI g y) - netR p l g (nwI g y)
theorem gwP_dec (p : Nat) (k f c l : List Int) (t : Int) (g y : Nat) : gwP p k f c l t g y ∨ ¬ gwP p k f c l t g y := Classical.em _
noncomputable def gwF (p : Nat) (k f c l : List Int) (t : Int) (g : Nat) (m : Nat) : Int := sumN m (fun y => @ite Int (gwP p k f c l t g y) (Classical.propDecidable _) 1 0)
theorem gwF_t {p : Nat} {k f c l : List Int} {t : Int} {g m : Nat} (h : gwP p k f c l t g m) : gwF p k f c l t g (m + 1) = gwF p k f c l t g m + 1 := by unfold gwF; simp only [sumN]; rw [if_pos h]
theorem gwF_f {p : Nat} {k f c l : List Int} {t : Int} {g m : Nat} (h : ¬ gwP p k f c l t g m) : gwF p k f c l t g (m + 1) = gwF p k f c l t g m := by unfold gwF; simp only [sumN]; rw [if_neg h, Int.add_zero]
theorem gwF_le (p : Nat) (k f c l : List Int) (t : Int) (g m : Nat) : 0 ≤ gwF p k f c l t g m ∧ gwF p k f c l t g m ≤ m := by
  induction m with
  | zero => exact ⟨Int.le_refl 0, Int.le_refl 0⟩
  | succ m ih =>
    rcases gwP_dec p k f c l t g m with h | h
    · rw [gwF_t h]; omega
    · rw [gwF_f h]; omega
theorem set3 {c : List Int} {a b : Nat} (h : a ≠ b) (u v m : Int) : ((c.set a u).set b v).set a m = (c.set a m).set b v := by
  rw [List.set_comm _ _ (Ne.symm h), List.set_set]
section AOB
variable {A0 A3 B B2 B4 A5 C6 : List (Option aE)} {k f c n kp l nt w sh : List Int} {p : Nat} {t d wa : Int} {N : Nat} {z tl : Int} {fs ss sp la gr tp : List Int}
set_option maxRecDepth 100000 in
set_option maxHeartbeats 4000000 in
theorem c_takenBy (hm : mOK (p + 1) k f c n kp l nt w sh t d wa) (hB : thk B) {g i : Nat} (hg : g ≤ p) (hi : i ≤ p) (hgi : g ≠ i) : aEv mX5_takenBy 5 0 0 N [.inr 97, .inl (g : Int), .inl (i : Int)] [A0, (moSeg 32 k f c n kp l nt w sh (((p + 1) : Nat) : Int) t d wa), B, (miscSeg z fs ss sp la gr tl tp), B4, A5, C6] ((fun rv h => rv = some (.inl (tkF p k f c t g i)) ∧ ∃ B2, thk B2 ∧ h = [A0, (moSeg 32 k f c n kp l nt w sh (((p + 1) : Nat) : Int) t d wa), B2, (miscSeg z fs ss sp la gr tl tp), B4, A5, C6])) := by
  obtain ⟨⟨hp7, hk, hf, hc, hn, hkp, hl, rk, rf, rc, rn, rkp, rl, ht0, ht1, hd0, hd1⟩, ⟨hnt, znt⟩, ⟨hw, zw, zwa⟩, ⟨hsh, zsh⟩⟩ := id hm
  have hle := mOK_hle hm
  obtain ⟨k0, f0, c0, n0, kp0, l0, nt0, w0, sh0, P0, t0, d0, wa0, hl0, rfl⟩ := hB
  refine aEv_of okX5_takenBy caX5_takenBy (Nat.le_of_ble_eq_true rfl) ?_
  refine aGo okX5_takenBy 4 (f' := (8, [some (.inr 97), some (.inl (g : Int)), some (.inl (i : Int))], [.inr 32, .inr 64], _)) rfl ?_
  refine b_vN (as := [.inr 32]) (rest := []) (k := 64) okX5_takenBy rfl lkX5_37 caX3_takeFrom (Nat.le_of_ble_eq_true rfl) rfl (Nat.le_of_ble_eq_true rfl) rfl rfl rfl (c_take_21 (mOK_lens hm) hl0) ?_
  refine b_cast (f' := (11, [some (.inr 97), some (.inl (g : Int)), some (.inl (i : Int))], [], [A0, (moSeg 32 k f c n kp l nt w sh (((p + 1) : Nat) : Int) t d wa), (moSeg 64 k f c n kp l nt w sh (((p + 1) : Nat) : Int) t d wa), (miscSeg z fs ss sp la gr tl tp), B4, A5, C6])) rfl ?_
  refine aGo okX5_takenBy 3 (f' := (16, [some (.inr 97), some (.inl (g : Int)), some (.inl (i : Int))], [.inl (g : Int), .inr 64], _)) rfl ?_
  refine b_vE (as := [.inl (g : Int)]) (rest := []) (k := 64) okX5_takenBy rfl lkX5_64 caX3_remove (Nat.le_of_ble_eq_true rfl) rfl (Nat.le_of_ble_eq_true rfl) rfl rfl rfl (c_remove_2 (mOK_wH hm) hg hn hkp hl hnt) ?_
  rintro _ _ ⟨rfl, nt2, w2, sh2, zn2, zw2, zs2, rfl⟩
  refine aGo okX5_takenBy 5 (f' := (26, [some (.inr 97), some (.inl (g : Int)), some (.inl (i : Int))], [.inl (i : Int), .inl (g : Int), .inr 97, .inr 64], _)) rfl ?_
  by_cases hc26 : g < i
  · refine b_vV (as := [.inl (g : Int), .inl (i : Int)]) (rest := [.inr 64]) (k := 97) (.inl (((i - 1) : Nat) : Int)) okX5_takenBy rfl lkX5_67 caX5_numberWithout (Nat.le_of_ble_eq_true rfl) rfl (Nat.le_of_ble_eq_true rfl) rfl rfl rfl (c_numberWithout_t (i := i) (g := g) (by omega) (by omega) hc26) ?_
    have e1 := zs2.1
    refine b_vV (as := [.inl (((i - 1) : Nat) : Int)]) (rest := []) (k := 64) (.inl (sh2.getD (i - 1) 0)) okX5_takenBy rfl lkX5_47 caX3_shareOf (Nat.le_of_ble_eq_true rfl) rfl (Nat.le_of_ble_eq_true rfl) rfl rfl rfl (c_shareOf_2 (i := (i - 1)) (by first | omega | (simp only [List.length_set]; omega)) (by omega)) ?_
    refine aGo okX5_takenBy 3 (f' := (37, [some (.inr 97), some (.inl (g : Int)), some (.inl (i : Int))], [.inl (i : Int), .inr 32, .inl (sh2.getD (i - 1) 0)], _)) rfl ?_
    refine b_vV (as := [.inl (i : Int)]) (rest := [.inl (sh2.getD (i - 1) 0)]) (k := 32) (.inl (sh.getD i 0)) okX5_takenBy rfl lkX5_47 caX3_shareOf (Nat.le_of_ble_eq_true rfl) rfl (Nat.le_of_ble_eq_true rfl) rfl rfl rfl (c_shareOf_1 (i := i) (by first | omega | (simp only [List.length_set]; omega)) (by omega)) ?_
    refine aGo okX5_takenBy 1 (f' := (41, [some (.inr 97), some (.inl (g : Int)), some (.inl (i : Int))], [.inl ((sh2.getD (i - 1) 0) - (sh.getD i 0))], _)) rfl ?_
    exact b_ret (v := (some (.inl ((sh2.getD (i - 1) 0) - (sh.getD i 0))))) ⟨rfl, Or.inl rfl⟩ ⟨by rw [zs2.2 _ (by omega), zsh i (by omega)]; unfold tkF shrR nwI; rw [if_pos (by omega)], _, thk_of ⟨by rw [shL_len]; exact hk, by rw [shL_len]; exact hf, by rw [shL_len]; exact hc, by rw [shL_len]; exact hn, by rw [shL_len]; exact hkp, by rw [colsL_len, rowsL_len]; exact hl, zn2.1, zw2.1, zs2.1⟩, rfl⟩ rfl
  · refine b_vV (as := [.inl (g : Int), .inl (i : Int)]) (rest := [.inr 64]) (k := 97) (.inl (i : Int)) okX5_takenBy rfl lkX5_67 caX5_numberWithout (Nat.le_of_ble_eq_true rfl) rfl (Nat.le_of_ble_eq_true rfl) rfl rfl rfl (c_numberWithout_f (i := i) (g := g) (by omega) (by omega) (by omega)) ?_
    have e1 := zs2.1
    refine b_vV (as := [.inl (i : Int)]) (rest := []) (k := 64) (.inl (sh2.getD i 0)) okX5_takenBy rfl lkX5_47 caX3_shareOf (Nat.le_of_ble_eq_true rfl) rfl (Nat.le_of_ble_eq_true rfl) rfl rfl rfl (c_shareOf_2 (i := i) (by first | omega | (simp only [List.length_set]; omega)) (by omega)) ?_
    refine aGo okX5_takenBy 3 (f' := (37, [some (.inr 97), some (.inl (g : Int)), some (.inl (i : Int))], [.inl (i : Int), .inr 32, .inl (sh2.getD i 0)], _)) rfl ?_
    refine b_vV (as := [.inl (i : Int)]) (rest := [.inl (sh2.getD i 0)]) (k := 32) (.inl (sh.getD i 0)) okX5_takenBy rfl lkX5_47 caX3_shareOf (Nat.le_of_ble_eq_true rfl) rfl (Nat.le_of_ble_eq_true rfl) rfl rfl rfl (c_shareOf_1 (i := i) (by first | omega | (simp only [List.length_set]; omega)) (by omega)) ?_
    refine aGo okX5_takenBy 1 (f' := (41, [some (.inr 97), some (.inl (g : Int)), some (.inl (i : Int))], [.inl ((sh2.getD i 0) - (sh.getD i 0))], _)) rfl ?_
    exact b_ret (v := (some (.inl ((sh2.getD i 0) - (sh.getD i 0))))) ⟨rfl, Or.inl rfl⟩ ⟨by rw [zs2.2 _ (by omega), zsh i (by omega)]; unfold tkF shrR nwI; rw [if_neg (by omega)], _, thk_of ⟨by rw [shL_len]; exact hk, by rw [shL_len]; exact hf, by rw [shL_len]; exact hc, by rw [shL_len]; exact hn, by rw [shL_len]; exact hkp, by rw [colsL_len, rowsL_len]; exact hl, zn2.1, zw2.1, zs2.1⟩, rfl⟩ rfl
theorem tkF_le {p : Nat} {k f c : List Int} {t : Int} (hp : p + 1 ≤ 7) (rf : rng f 9) (rc : rng c 35) (ht : 0 ≤ t ∧ t ≤ 999) {g i : Nat} (hg : g ≤ p) (hi : i ≤ p) (hgi : g ≠ i) : -2000 ≤ tkF p k f c t g i ∧ tkF p k f c t g i ≤ 2000 := by
  have h1 := shr_le (p := p + 1) (k := k) hp rf rc ht (q := i) (by omega)
  have hq : nwI g i < p := by unfold nwI; split <;> omega
  have h2 := shrR_le (p := p) (k := k) (g := g) (by omega) rf rc ht hq
  unfold tkF; omega
theorem wfN_le2 {i : Nat} {F : Nat → Int} {p : Nat} (hF : ∀ x, x < p → x ≠ i → -2000 ≤ F x ∧ F x ≤ 2000) : ∀ x, x ≤ p → -9 ≤ (wfN i F x).1 ∧ (wfN i F x).1 ≤ x ∧ -2000 ≤ (wfN i F x).2 ∧ (wfN i F x).2 ≤ 2000 := by
  intro x
  induction x with
  | zero => intro _; exact ⟨(by decide : (-9 : Int) ≤ -9), (by decide : (-9 : Int) ≤ 0), (by decide : (-2000 : Int) ≤ 0), (by decide : (0 : Int) ≤ 2000)⟩
  | succ x ih =>
    intro hx
    have h1 := ih (by omega)
    simp only [wfN]
    split
    · omega
    · have h2 := hF x (by omega) (by assumption)
      split
      · refine ⟨?_, ?_, ?_, ?_⟩ <;> simp only <;> omega
      · omega
set_option maxRecDepth 100000 in
set_option maxHeartbeats 4000000 in
theorem c_worstFor (hm : mOK (p + 1) k f c n kp l nt w sh t d wa) (hB : thk B) {i : Nat} (hi : i ≤ p) : aEv mX5_worstFor 6 0 0 N [.inr 97, .inl (i : Int)] [A0, (moSeg 32 k f c n kp l nt w sh (((p + 1) : Nat) : Int) t d wa), B, (miscSeg z fs ss sp la gr tl tp), B4, A5, C6] ((fun rv h => rv = some (.inl ((wfN i (fun (y : Nat) => tkF p k f c t y i) (p + 1)).1)) ∧ ∃ B2, thk B2 ∧ h = [A0, (moSeg 32 k f c n kp l nt w sh (((p + 1) : Nat) : Int) t d wa), B2, (miscSeg z fs ss sp la gr tl tp), B4, A5, C6])) := by
  obtain ⟨⟨hp7, hk, hf, hc, hn, hkp, hl, rk, rf, rc, rn, rkp, rl, ht0, ht1, hd0, hd1⟩, ⟨hnt, znt⟩, ⟨hw, zw, zwa⟩, ⟨hsh, zsh⟩⟩ := id hm
  refine aEv_of okX5_worstFor caX5_worstFor (Nat.le_of_ble_eq_true rfl) ?_
  have hF : ∀ y : Nat, y < p + 1 → y ≠ i → -2000 ≤ tkF p k f c t y i ∧ tkF p k f c t y i ≤ 2000 := fun y hy hyi => tkF_le hp7 rf rc ⟨ht0, ht1⟩ (by omega) (by omega) hyi
  have lp : ∀ (j x : Nat) (B1 : List (Option aE)), x + j = (p + 1) → (thk B1) → AW mX5_worstFor 6 0 0 N none (fun rv h => rv = some (.inl ((wfN i (fun (y : Nat) => tkF p k f c t y i) (p + 1)).1)) ∧ ∃ B2, thk B2 ∧ h = [A0, (moSeg 32 k f c n kp l nt w sh (((p + 1) : Nat) : Int) t d wa), B2, (miscSeg z fs ss sp la gr tl tp), B4, A5, C6]) (8, [some (.inr 97), some (.inl (i : Int)), some (.inl ((wfN i (fun (y : Nat) => tkF p k f c t y i) x).1)), some (.inl ((wfN i (fun (y : Nat) => tkF p k f c t y i) x).2)), some (.inl (x : Int)), none], [], [A0, (moSeg 32 k f c n kp l nt w sh (((p + 1) : Nat) : Int) t d wa), B1, (miscSeg z fs ss sp la gr tl tp), B4, A5, C6]) := by
    intro j
    induction j with
    | zero =>
      intro x B1 hij hB1
      obtain rfl : (p + 1) = x := by omega
      refine aGo okX5_worstFor 3 (f' := (14, [some (.inr 97), some (.inl (i : Int)), some (.inl ((wfN i (fun (y : Nat) => tkF p k f c t y i) (p + 1)).1)), some (.inl ((wfN i (fun (y : Nat) => tkF p k f c t y i) (p + 1)).2)), some (.inl ((p + 1) : Int)), none], [.inr 32, .inl ((p + 1) : Int)], _)) rfl ?_
      refine b_vV (as := []) (rest := [.inl ((p + 1) : Int)]) (k := 32) (.inl (((p + 1) : Nat) : Int)) okX5_worstFor rfl lkX5_54 caX3_people (Nat.le_of_ble_eq_true rfl) rfl (Nat.le_of_ble_eq_true rfl) rfl rfl rfl (c_people_1) ?_
      refine b_ge (tgt := 59) okX5_worstFor rfl rfl ⟨by omega, by omega⟩ ⟨by omega, by omega⟩ (fun h17 => ?_) (fun h17 => absurd h17 (by omega))
      refine aGo okX5_worstFor 1 (f' := (60, [some (.inr 97), some (.inl (i : Int)), some (.inl ((wfN i (fun (y : Nat) => tkF p k f c t y i) (p + 1)).1)), some (.inl ((wfN i (fun (y : Nat) => tkF p k f c t y i) (p + 1)).2)), some (.inl ((p + 1) : Int)), none], [.inl ((wfN i (fun (y : Nat) => tkF p k f c t y i) (p + 1)).1)], _)) rfl ?_
      exact b_ret (v := (some (.inl ((wfN i (fun (y : Nat) => tkF p k f c t y i) (p + 1)).1)))) ⟨rfl, Or.inl rfl⟩ ⟨rfl, B1, hB1, rfl⟩ rfl
    | succ j ih =>
      intro x B1 hij hB1
      have e0 := wfN_le2 (i := i) hF x (show x ≤ p + 1 by omega)
      refine aGo okX5_worstFor 3 (f' := (14, [some (.inr 97), some (.inl (i : Int)), some (.inl ((wfN i (fun (y : Nat) => tkF p k f c t y i) x).1)), some (.inl ((wfN i (fun (y : Nat) => tkF p k f c t y i) x).2)), some (.inl (x : Int)), none], [.inr 32, .inl (x : Int)], _)) rfl ?_
      refine b_vV (as := []) (rest := [.inl (x : Int)]) (k := 32) (.inl (((p + 1) : Nat) : Int)) okX5_worstFor rfl lkX5_54 caX3_people (Nat.le_of_ble_eq_true rfl) rfl (Nat.le_of_ble_eq_true rfl) rfl rfl rfl (c_people_1) ?_
      refine b_ge (tgt := 59) okX5_worstFor rfl rfl ⟨by omega, by omega⟩ ⟨by omega, by omega⟩ (fun h17 => absurd h17 (by omega)) (fun h17 => ?_)
      refine aGo okX5_worstFor 2 (f' := (23, [some (.inr 97), some (.inl (i : Int)), some (.inl ((wfN i (fun (y : Nat) => tkF p k f c t y i) x).1)), some (.inl ((wfN i (fun (y : Nat) => tkF p k f c t y i) x).2)), some (.inl (x : Int)), none], [.inl (i : Int), .inl (x : Int)], _)) rfl ?_
      refine b_eq (tgt := 53) okX5_worstFor rfl rfl ⟨by omega, by omega⟩ ⟨by omega, by omega⟩ (fun h23 => ?_) (fun h23 => ?_)
      · refine aGo okX5_worstFor 2 (f' := (8, [some (.inr 97), some (.inl (i : Int)), some (.inl ((wfN i (fun (y : Nat) => tkF p k f c t y i) x).1)), some (.inl ((wfN i (fun (y : Nat) => tkF p k f c t y i) x).2)), some (.inl ((x : Int) + 1)), none], [], _)) rfl ?_
        refine b_cast (f' := (8, [some (.inr 97), some (.inl (i : Int)), some (.inl ((wfN i (fun (y : Nat) => tkF p k f c t y i) (x + 1)).1)), some (.inl ((wfN i (fun (y : Nat) => tkF p k f c t y i) (x + 1)).2)), some (.inl ((x : Int) + 1)), none], [], [A0, (moSeg 32 k f c n kp l nt w sh (((p + 1) : Nat) : Int) t d wa), B1, (miscSeg z fs ss sp la gr tl tp), B4, A5, C6])) (by simp only [wfN]; rw [if_pos (show x = i by omega)]) ?_
        exact ih (x + 1) B1 (by omega) hB1
      · have e1 := hF x (by omega) (by omega)
        refine aGo okX5_worstFor 3 (f' := (30, [some (.inr 97), some (.inl (i : Int)), some (.inl ((wfN i (fun (y : Nat) => tkF p k f c t y i) x).1)), some (.inl ((wfN i (fun (y : Nat) => tkF p k f c t y i) x).2)), some (.inl (x : Int)), none], [.inl (i : Int), .inl (x : Int), .inr 97], _)) rfl ?_
        refine b_vE (as := [.inl (x : Int), .inl (i : Int)]) (rest := []) (k := 97) okX5_worstFor rfl lkX5_70 caX5_takenBy (Nat.le_of_ble_eq_true rfl) rfl (Nat.le_of_ble_eq_true rfl) rfl rfl rfl (c_takenBy hm hB1 (g := x) (i := i) (by omega) (by omega) (by omega)) ?_
        rintro _ _ ⟨rfl, B2, hB2, rfl⟩
        refine aGo okX5_worstFor 3 (f' := (38, [some (.inr 97), some (.inl (i : Int)), some (.inl ((wfN i (fun (y : Nat) => tkF p k f c t y i) x).1)), some (.inl ((wfN i (fun (y : Nat) => tkF p k f c t y i) x).2)), some (.inl (x : Int)), some (.inl (tkF p k f c t x i))], [.inl (-9), .inl ((wfN i (fun (y : Nat) => tkF p k f c t y i) x).1)], _)) rfl ?_
        refine b_eq (tgt := 47) okX5_worstFor rfl rfl ⟨by omega, by omega⟩ ⟨by omega, by omega⟩ (fun h38 => ?_) (fun h38 => ?_)
        · refine aGo okX5_worstFor 6 (f' := (8, [some (.inr 97), some (.inl (i : Int)), some (.inl (x : Int)), some (.inl (tkF p k f c t x i)), some (.inl ((x : Int) + 1)), some (.inl (tkF p k f c t x i))], [], _)) rfl ?_
          refine b_cast (f' := (8, [some (.inr 97), some (.inl (i : Int)), some (.inl ((wfN i (fun (y : Nat) => tkF p k f c t y i) (x + 1)).1)), some (.inl ((wfN i (fun (y : Nat) => tkF p k f c t y i) (x + 1)).2)), some (.inl ((x : Int) + 1)), some (.inl (tkF p k f c t x i))], [], [A0, (moSeg 32 k f c n kp l nt w sh (((p + 1) : Nat) : Int) t d wa), B2, (miscSeg z fs ss sp la gr tl tp), B4, A5, C6])) (by simp only [wfN]; rw [if_neg (show ¬ x = i by omega), if_pos (by omega)]) ?_
          refine b_lose (ls' := [some (.inr 97), some (.inl (i : Int)), some (.inl ((wfN i (fun (y : Nat) => tkF p k f c t y i) (x + 1)).1)), some (.inl ((wfN i (fun (y : Nat) => tkF p k f c t y i) (x + 1)).2)), some (.inl ((x : Int) + 1)), none]) (lose5 _ _ _ _ _ _) ?_
          exact ih (x + 1) B2 (by omega) hB2
        · refine aGo okX5_worstFor 2 (f' := (44, [some (.inr 97), some (.inl (i : Int)), some (.inl ((wfN i (fun (y : Nat) => tkF p k f c t y i) x).1)), some (.inl ((wfN i (fun (y : Nat) => tkF p k f c t y i) x).2)), some (.inl (x : Int)), some (.inl (tkF p k f c t x i))], [.inl ((wfN i (fun (y : Nat) => tkF p k f c t y i) x).2), .inl (tkF p k f c t x i)], _)) rfl ?_
          refine b_le (tgt := 53) okX5_worstFor rfl rfl ⟨by omega, by omega⟩ ⟨by omega, by omega⟩ (fun h44 => ?_) (fun h44 => ?_)
          · refine aGo okX5_worstFor 2 (f' := (8, [some (.inr 97), some (.inl (i : Int)), some (.inl ((wfN i (fun (y : Nat) => tkF p k f c t y i) x).1)), some (.inl ((wfN i (fun (y : Nat) => tkF p k f c t y i) x).2)), some (.inl ((x : Int) + 1)), some (.inl (tkF p k f c t x i))], [], _)) rfl ?_
            refine b_cast (f' := (8, [some (.inr 97), some (.inl (i : Int)), some (.inl ((wfN i (fun (y : Nat) => tkF p k f c t y i) (x + 1)).1)), some (.inl ((wfN i (fun (y : Nat) => tkF p k f c t y i) (x + 1)).2)), some (.inl ((x : Int) + 1)), some (.inl (tkF p k f c t x i))], [], [A0, (moSeg 32 k f c n kp l nt w sh (((p + 1) : Nat) : Int) t d wa), B2, (miscSeg z fs ss sp la gr tl tp), B4, A5, C6])) (by simp only [wfN]; rw [if_neg (show ¬ x = i by omega), if_neg (by omega)]) ?_
            refine b_lose (ls' := [some (.inr 97), some (.inl (i : Int)), some (.inl ((wfN i (fun (y : Nat) => tkF p k f c t y i) (x + 1)).1)), some (.inl ((wfN i (fun (y : Nat) => tkF p k f c t y i) (x + 1)).2)), some (.inl ((x : Int) + 1)), none]) (lose5 _ _ _ _ _ _) ?_
            exact ih (x + 1) B2 (by omega) hB2
          · refine aGo okX5_worstFor 6 (f' := (8, [some (.inr 97), some (.inl (i : Int)), some (.inl (x : Int)), some (.inl (tkF p k f c t x i)), some (.inl ((x : Int) + 1)), some (.inl (tkF p k f c t x i))], [], _)) rfl ?_
            refine b_cast (f' := (8, [some (.inr 97), some (.inl (i : Int)), some (.inl ((wfN i (fun (y : Nat) => tkF p k f c t y i) (x + 1)).1)), some (.inl ((wfN i (fun (y : Nat) => tkF p k f c t y i) (x + 1)).2)), some (.inl ((x : Int) + 1)), some (.inl (tkF p k f c t x i))], [], [A0, (moSeg 32 k f c n kp l nt w sh (((p + 1) : Nat) : Int) t d wa), B2, (miscSeg z fs ss sp la gr tl tp), B4, A5, C6])) (by simp only [wfN]; rw [if_neg (show ¬ x = i by omega), if_pos (by omega)]) ?_
            refine b_lose (ls' := [some (.inr 97), some (.inl (i : Int)), some (.inl ((wfN i (fun (y : Nat) => tkF p k f c t y i) (x + 1)).1)), some (.inl ((wfN i (fun (y : Nat) => tkF p k f c t y i) (x + 1)).2)), some (.inl ((x : Int) + 1)), none]) (lose5 _ _ _ _ _ _) ?_
            exact ih (x + 1) B2 (by omega) hB2
  refine aGo okX5_worstFor 6 (f' := (8, [some (.inr 97), some (.inl (i : Int)), some (.inl (-9)), some (.inl 0), some (.inl 0), none], [], _)) rfl ?_
  exact lp (p + 1) 0 B (by omega) hB
set_option maxRecDepth 100000 in
set_option maxHeartbeats 4000000 in
theorem c_gainersWithout (hm : mOK (p + 1) k f c n kp l nt w sh t d wa) (hB : thk B) {g : Nat} (hg : g ≤ p) : aEv mX5_gainersWithout 5 0 0 N [.inr 97, .inl (g : Int)] [A0, (moSeg 32 k f c n kp l nt w sh (((p + 1) : Nat) : Int) t d wa), B, (miscSeg z fs ss sp la gr tl tp), B4, A5, C6] ((fun rv h => rv = some (.inl (gwF p k f c l t g (p + 1))) ∧ ∃ B2, thk B2 ∧ h = [A0, (moSeg 32 k f c n kp l nt w sh (((p + 1) : Nat) : Int) t d wa), B2, (miscSeg z fs ss sp la gr tl tp), B4, A5, C6])) := by
  obtain ⟨⟨hp7, hk, hf, hc, hn, hkp, hl, rk, rf, rc, rn, rkp, rl, ht0, ht1, hd0, hd1⟩, ⟨hnt, znt⟩, ⟨hw, zw, zwa⟩, ⟨hsh, zsh⟩⟩ := id hm
  have hle := mOK_hle hm
  obtain ⟨k0, f0, c0, n0, kp0, l0, nt0, w0, sh0, P0, t0, d0, wa0, hl0, rfl⟩ := hB
  refine aEv_of okX5_gainersWithout caX5_gainersWithout (Nat.le_of_ble_eq_true rfl) ?_
  refine aGo okX5_gainersWithout 4 (f' := (8, [some (.inr 97), some (.inl (g : Int)), none, none], [.inr 32, .inr 64], _)) rfl ?_
  refine b_vN (as := [.inr 32]) (rest := []) (k := 64) okX5_gainersWithout rfl lkX5_37 caX3_takeFrom (Nat.le_of_ble_eq_true rfl) rfl (Nat.le_of_ble_eq_true rfl) rfl rfl rfl (c_take_21 (mOK_lens hm) hl0) ?_
  refine b_cast (f' := (11, [some (.inr 97), some (.inl (g : Int)), none, none], [], [A0, (moSeg 32 k f c n kp l nt w sh (((p + 1) : Nat) : Int) t d wa), (moSeg 64 k f c n kp l nt w sh (((p + 1) : Nat) : Int) t d wa), (miscSeg z fs ss sp la gr tl tp), B4, A5, C6])) rfl ?_
  refine aGo okX5_gainersWithout 3 (f' := (16, [some (.inr 97), some (.inl (g : Int)), none, none], [.inl (g : Int), .inr 64], _)) rfl ?_
  refine b_vE (as := [.inl (g : Int)]) (rest := []) (k := 64) okX5_gainersWithout rfl lkX5_64 caX3_remove (Nat.le_of_ble_eq_true rfl) rfl (Nat.le_of_ble_eq_true rfl) rfl rfl rfl (c_remove_2 (mOK_wH hm) hg hn hkp hl hnt) ?_
  rintro _ _ ⟨rfl, nt2, w2, sh2, zn2, zw2, zs2, rfl⟩
  refine aGo okX5_gainersWithout 4 (f' := (23, [some (.inr 97), some (.inl (g : Int)), some (.inl 0), some (.inl 0)], [], _)) rfl ?_
  have lp : ∀ (j x : Nat), x + j = (p + 1) → AW mX5_gainersWithout 5 0 0 N none (fun rv h => rv = some (.inl (gwF p k f c l t g (p + 1))) ∧ ∃ B2, thk B2 ∧ h = [A0, (moSeg 32 k f c n kp l nt w sh (((p + 1) : Nat) : Int) t d wa), B2, (miscSeg z fs ss sp la gr tl tp), B4, A5, C6]) (23, [some (.inr 97), some (.inl (g : Int)), some (.inl (gwF p k f c l t g x)), some (.inl (x : Int))], [], [A0, (moSeg 32 k f c n kp l nt w sh (((p + 1) : Nat) : Int) t d wa), (moSeg 64 (shL g k (p - g)) (shL g f (p - g)) (shL g c (p - g)) (shL g n (p - g)) (shL g kp (p - g)) (colsL g (p + 1) (rowsL g (p + 1) l (p - g)) (p - g)) nt2 w2 sh2 (p : Int) t d (wAll p (shL g k (p - g)) (shL g f (p - g)) (shL g c (p - g)))), (miscSeg z fs ss sp la gr tl tp), B4, A5, C6]) := by
    intro j
    induction j with
    | zero =>
      intro x  hij 
      obtain rfl : (p + 1) = x := by omega
      refine aGo okX5_gainersWithout 3 (f' := (28, [some (.inr 97), some (.inl (g : Int)), some (.inl (gwF p k f c l t g (p + 1))), some (.inl ((p + 1) : Int))], [.inr 32, .inl ((p + 1) : Int)], _)) rfl ?_
      refine b_vV (as := []) (rest := [.inl ((p + 1) : Int)]) (k := 32) (.inl (((p + 1) : Nat) : Int)) okX5_gainersWithout rfl lkX5_54 caX3_people (Nat.le_of_ble_eq_true rfl) rfl (Nat.le_of_ble_eq_true rfl) rfl rfl rfl (c_people_1) ?_
      refine b_ge (tgt := 72) okX5_gainersWithout rfl rfl ⟨by omega, by omega⟩ ⟨by omega, by omega⟩ (fun h31 => ?_) (fun h31 => absurd h31 (by omega))
      refine aGo okX5_gainersWithout 1 (f' := (73, [some (.inr 97), some (.inl (g : Int)), some (.inl (gwF p k f c l t g (p + 1))), some (.inl ((p + 1) : Int))], [.inl (gwF p k f c l t g (p + 1))], _)) rfl ?_
      exact b_ret (v := (some (.inl (gwF p k f c l t g (p + 1))))) ⟨rfl, Or.inl rfl⟩ ⟨rfl, _, thk_of ⟨by rw [shL_len]; exact hk, by rw [shL_len]; exact hf, by rw [shL_len]; exact hc, by rw [shL_len]; exact hn, by rw [shL_len]; exact hkp, by rw [colsL_len, rowsL_len]; exact hl, zn2.1, zw2.1, zs2.1⟩, rfl⟩ rfl
    | succ j ih =>
      intro x  hij 
      refine aGo okX5_gainersWithout 3 (f' := (28, [some (.inr 97), some (.inl (g : Int)), some (.inl (gwF p k f c l t g x)), some (.inl (x : Int))], [.inr 32, .inl (x : Int)], _)) rfl ?_
      refine b_vV (as := []) (rest := [.inl (x : Int)]) (k := 32) (.inl (((p + 1) : Nat) : Int)) okX5_gainersWithout rfl lkX5_54 caX3_people (Nat.le_of_ble_eq_true rfl) rfl (Nat.le_of_ble_eq_true rfl) rfl rfl rfl (c_people_1) ?_
      refine b_ge (tgt := 72) okX5_gainersWithout rfl rfl ⟨by omega, by omega⟩ ⟨by omega, by omega⟩ (fun h31 => absurd h31 (by omega)) (fun h31 => ?_)
      refine aGo okX5_gainersWithout 2 (f' := (36, [some (.inr 97), some (.inl (g : Int)), some (.inl (gwF p k f c l t g x)), some (.inl (x : Int))], [.inl (g : Int), .inl (x : Int)], _)) rfl ?_
      refine b_eq (tgt := 66) okX5_gainersWithout rfl rfl ⟨by omega, by omega⟩ ⟨by omega, by omega⟩ (fun h36 => ?_) (fun h36 => ?_)
      · have hno : ¬ gwP p k f c l t g x := fun z => z.1 (by omega)
        refine aGo okX5_gainersWithout 2 (f' := (23, [some (.inr 97), some (.inl (g : Int)), some (.inl (gwF p k f c l t g x)), some (.inl ((x : Int) + 1))], [], _)) rfl ?_
        refine b_cast (f' := (23, [some (.inr 97), some (.inl (g : Int)), some (.inl (gwF p k f c l t g (x + 1))), some (.inl ((x : Int) + 1))], [], [A0, (moSeg 32 k f c n kp l nt w sh (((p + 1) : Nat) : Int) t d wa), (moSeg 64 (shL g k (p - g)) (shL g f (p - g)) (shL g c (p - g)) (shL g n (p - g)) (shL g kp (p - g)) (colsL g (p + 1) (rowsL g (p + 1) l (p - g)) (p - g)) nt2 w2 sh2 (p : Int) t d (wAll p (shL g k (p - g)) (shL g f (p - g)) (shL g c (p - g)))), (miscSeg z fs ss sp la gr tl tp), B4, A5, C6])) (by rw [gwF_f hno]) ?_
        exact ih (x + 1) (by omega)
      · refine aGo okX5_gainersWithout 5 (f' := (46, [some (.inr 97), some (.inl (g : Int)), some (.inl (gwF p k f c l t g x)), some (.inl (x : Int))], [.inl (x : Int), .inl (g : Int), .inr 97, .inr 64], _)) rfl ?_
        by_cases hc46 : g < x
        · refine b_vV (as := [.inl (g : Int), .inl (x : Int)]) (rest := [.inr 64]) (k := 97) (.inl (((x - 1) : Nat) : Int)) okX5_gainersWithout rfl lkX5_67 caX5_numberWithout (Nat.le_of_ble_eq_true rfl) rfl (Nat.le_of_ble_eq_true rfl) rfl rfl rfl (c_numberWithout_t (i := x) (g := g) (by omega) (by omega) hc46) ?_
          have f1 := zs2.2 (x - 1) (by omega)
          have f2 := zn2.2 (x - 1) (by omega)
          have f3 := shrR_le (p := p) (k := k) (g := g) (by omega) rf rc ⟨ht0, ht1⟩ (show (x - 1) < p by omega)
          have f4 := netR_le (p := p) (by omega) rl g (x - 1)
          have f5 := zsh x (by omega)
          have f6 := znt x (by omega)
          have f7 := hle x (by omega)
          unfold shrR at f3
          unfold netR at f4
          have e1 := zs2.1
          have e2 := zn2.1
          refine b_vV (as := [.inl (((x - 1) : Nat) : Int)]) (rest := []) (k := 64) (.inl ((sh2.getD (x - 1) 0) - (nt2.getD (x - 1) 0))) okX5_gainersWithout rfl lkX5_83 caX3_hasOf (Nat.le_of_ble_eq_true rfl) rfl (Nat.le_of_ble_eq_true rfl) rfl rfl rfl (c_hasOf_2 (i := (x - 1)) (by first | omega | (simp only [List.length_set]; omega)) (by first | omega | (simp only [List.length_set]; omega)) (by omega)) ?_
          refine aGo okX5_gainersWithout 3 (f' := (57, [some (.inr 97), some (.inl (g : Int)), some (.inl (gwF p k f c l t g x)), some (.inl (x : Int))], [.inl (x : Int), .inr 32, .inl ((sh2.getD (x - 1) 0) - (nt2.getD (x - 1) 0))], _)) rfl ?_
          refine b_vV (as := [.inl (x : Int)]) (rest := [.inl ((sh2.getD (x - 1) 0) - (nt2.getD (x - 1) 0))]) (k := 32) (.inl ((sh.getD x 0) - (nt.getD x 0))) okX5_gainersWithout rfl lkX5_83 caX3_hasOf (Nat.le_of_ble_eq_true rfl) rfl (Nat.le_of_ble_eq_true rfl) rfl rfl rfl (c_hasOf_1 (i := x) (by first | omega | (simp only [List.length_set]; omega)) (by first | omega | (simp only [List.length_set]; omega)) (by omega)) ?_
          refine b_le (tgt := 66) okX5_gainersWithout rfl rfl ⟨by omega, by omega⟩ ⟨by omega, by omega⟩ (fun h60 => ?_) (fun h60 => ?_)
          · have hno : ¬ gwP p k f c l t g x := by unfold gwP hasM nwI shrR netR; rw [if_pos (by omega)]; omega
            refine aGo okX5_gainersWithout 2 (f' := (23, [some (.inr 97), some (.inl (g : Int)), some (.inl (gwF p k f c l t g x)), some (.inl ((x : Int) + 1))], [], _)) rfl ?_
            refine b_cast (f' := (23, [some (.inr 97), some (.inl (g : Int)), some (.inl (gwF p k f c l t g (x + 1))), some (.inl ((x : Int) + 1))], [], [A0, (moSeg 32 k f c n kp l nt w sh (((p + 1) : Nat) : Int) t d wa), (moSeg 64 (shL g k (p - g)) (shL g f (p - g)) (shL g c (p - g)) (shL g n (p - g)) (shL g kp (p - g)) (colsL g (p + 1) (rowsL g (p + 1) l (p - g)) (p - g)) nt2 w2 sh2 (p : Int) t d (wAll p (shL g k (p - g)) (shL g f (p - g)) (shL g c (p - g)))), (miscSeg z fs ss sp la gr tl tp), B4, A5, C6])) (by rw [gwF_f hno]) ?_
            exact ih (x + 1) (by omega)
          · have hyes : gwP p k f c l t g x := by unfold gwP hasM nwI shrR netR; rw [if_pos (by omega)]; omega
            refine aGo okX5_gainersWithout 1 (f' := (66, [some (.inr 97), some (.inl (g : Int)), some (.inl ((gwF p k f c l t g x) + 1)), some (.inl (x : Int))], [], _)) rfl ?_
            refine aGo okX5_gainersWithout 2 (f' := (23, [some (.inr 97), some (.inl (g : Int)), some (.inl ((gwF p k f c l t g x) + 1)), some (.inl ((x : Int) + 1))], [], _)) rfl ?_
            refine b_cast (f' := (23, [some (.inr 97), some (.inl (g : Int)), some (.inl (gwF p k f c l t g (x + 1))), some (.inl ((x : Int) + 1))], [], [A0, (moSeg 32 k f c n kp l nt w sh (((p + 1) : Nat) : Int) t d wa), (moSeg 64 (shL g k (p - g)) (shL g f (p - g)) (shL g c (p - g)) (shL g n (p - g)) (shL g kp (p - g)) (colsL g (p + 1) (rowsL g (p + 1) l (p - g)) (p - g)) nt2 w2 sh2 (p : Int) t d (wAll p (shL g k (p - g)) (shL g f (p - g)) (shL g c (p - g)))), (miscSeg z fs ss sp la gr tl tp), B4, A5, C6])) (by rw [gwF_t hyes]) ?_
            exact ih (x + 1) (by omega)
        · refine b_vV (as := [.inl (g : Int), .inl (x : Int)]) (rest := [.inr 64]) (k := 97) (.inl (x : Int)) okX5_gainersWithout rfl lkX5_67 caX5_numberWithout (Nat.le_of_ble_eq_true rfl) rfl (Nat.le_of_ble_eq_true rfl) rfl rfl rfl (c_numberWithout_f (i := x) (g := g) (by omega) (by omega) (by omega)) ?_
          have f1 := zs2.2 x (by omega)
          have f2 := zn2.2 x (by omega)
          have f3 := shrR_le (p := p) (k := k) (g := g) (by omega) rf rc ⟨ht0, ht1⟩ (show x < p by omega)
          have f4 := netR_le (p := p) (by omega) rl g x
          have f5 := zsh x (by omega)
          have f6 := znt x (by omega)
          have f7 := hle x (by omega)
          unfold shrR at f3
          unfold netR at f4
          have e1 := zs2.1
          have e2 := zn2.1
          refine b_vV (as := [.inl (x : Int)]) (rest := []) (k := 64) (.inl ((sh2.getD x 0) - (nt2.getD x 0))) okX5_gainersWithout rfl lkX5_83 caX3_hasOf (Nat.le_of_ble_eq_true rfl) rfl (Nat.le_of_ble_eq_true rfl) rfl rfl rfl (c_hasOf_2 (i := x) (by first | omega | (simp only [List.length_set]; omega)) (by first | omega | (simp only [List.length_set]; omega)) (by omega)) ?_
          refine aGo okX5_gainersWithout 3 (f' := (57, [some (.inr 97), some (.inl (g : Int)), some (.inl (gwF p k f c l t g x)), some (.inl (x : Int))], [.inl (x : Int), .inr 32, .inl ((sh2.getD x 0) - (nt2.getD x 0))], _)) rfl ?_
          refine b_vV (as := [.inl (x : Int)]) (rest := [.inl ((sh2.getD x 0) - (nt2.getD x 0))]) (k := 32) (.inl ((sh.getD x 0) - (nt.getD x 0))) okX5_gainersWithout rfl lkX5_83 caX3_hasOf (Nat.le_of_ble_eq_true rfl) rfl (Nat.le_of_ble_eq_true rfl) rfl rfl rfl (c_hasOf_1 (i := x) (by first | omega | (simp only [List.length_set]; omega)) (by first | omega | (simp only [List.length_set]; omega)) (by omega)) ?_
          refine b_le (tgt := 66) okX5_gainersWithout rfl rfl ⟨by omega, by omega⟩ ⟨by omega, by omega⟩ (fun h60 => ?_) (fun h60 => ?_)
          · have hno : ¬ gwP p k f c l t g x := by unfold gwP hasM nwI shrR netR; rw [if_neg (by omega)]; omega
            refine aGo okX5_gainersWithout 2 (f' := (23, [some (.inr 97), some (.inl (g : Int)), some (.inl (gwF p k f c l t g x)), some (.inl ((x : Int) + 1))], [], _)) rfl ?_
            refine b_cast (f' := (23, [some (.inr 97), some (.inl (g : Int)), some (.inl (gwF p k f c l t g (x + 1))), some (.inl ((x : Int) + 1))], [], [A0, (moSeg 32 k f c n kp l nt w sh (((p + 1) : Nat) : Int) t d wa), (moSeg 64 (shL g k (p - g)) (shL g f (p - g)) (shL g c (p - g)) (shL g n (p - g)) (shL g kp (p - g)) (colsL g (p + 1) (rowsL g (p + 1) l (p - g)) (p - g)) nt2 w2 sh2 (p : Int) t d (wAll p (shL g k (p - g)) (shL g f (p - g)) (shL g c (p - g)))), (miscSeg z fs ss sp la gr tl tp), B4, A5, C6])) (by rw [gwF_f hno]) ?_
            exact ih (x + 1) (by omega)
          · have hyes : gwP p k f c l t g x := by unfold gwP hasM nwI shrR netR; rw [if_neg (by omega)]; omega
            refine aGo okX5_gainersWithout 1 (f' := (66, [some (.inr 97), some (.inl (g : Int)), some (.inl ((gwF p k f c l t g x) + 1)), some (.inl (x : Int))], [], _)) rfl ?_
            refine aGo okX5_gainersWithout 2 (f' := (23, [some (.inr 97), some (.inl (g : Int)), some (.inl ((gwF p k f c l t g x) + 1)), some (.inl ((x : Int) + 1))], [], _)) rfl ?_
            refine b_cast (f' := (23, [some (.inr 97), some (.inl (g : Int)), some (.inl (gwF p k f c l t g (x + 1))), some (.inl ((x : Int) + 1))], [], [A0, (moSeg 32 k f c n kp l nt w sh (((p + 1) : Nat) : Int) t d wa), (moSeg 64 (shL g k (p - g)) (shL g f (p - g)) (shL g c (p - g)) (shL g n (p - g)) (shL g kp (p - g)) (colsL g (p + 1) (rowsL g (p + 1) l (p - g)) (p - g)) nt2 w2 sh2 (p : Int) t d (wAll p (shL g k (p - g)) (shL g f (p - g)) (shL g c (p - g)))), (miscSeg z fs ss sp la gr tl tp), B4, A5, C6])) (by rw [gwF_t hyes]) ?_
            exact ih (x + 1) (by omega)
  exact lp (p + 1) 0 (by omega)
set_option maxRecDepth 100000 in
set_option maxHeartbeats 4000000 in
theorem c_bestLeaver (hm : mOK (p + 1) k f c n kp l nt w sh t d wa) (hB : thk B) : aEv mX5_bestLeaver 6 0 0 N [.inr 97] [A0, (moSeg 32 k f c n kp l nt w sh (((p + 1) : Nat) : Int) t d wa), B, (miscSeg z fs ss sp la gr tl tp), B4, A5, C6] ((fun rv h => rv = some (.inl ((amy (fun (y : Nat) => gwF p k f c l t y (p + 1)) (-9, -1) (p + 1)).1)) ∧ ∃ B2, thk B2 ∧ h = [A0, (moSeg 32 k f c n kp l nt w sh (((p + 1) : Nat) : Int) t d wa), B2, (miscSeg z fs ss sp la gr tl tp), B4, A5, C6])) := by
  obtain ⟨⟨hp7, hk, hf, hc, hn, hkp, hl, rk, rf, rc, rn, rkp, rl, ht0, ht1, hd0, hd1⟩, ⟨hnt, znt⟩, ⟨hw, zw, zwa⟩, ⟨hsh, zsh⟩⟩ := id hm
  refine aEv_of okX5_bestLeaver caX5_bestLeaver (Nat.le_of_ble_eq_true rfl) ?_
  have lp : ∀ (j x : Nat) (B1 : List (Option aE)), x + j = (p + 1) → (thk B1) → AW mX5_bestLeaver 6 0 0 N none (fun rv h => rv = some (.inl ((amy (fun (y : Nat) => gwF p k f c l t y (p + 1)) (-9, -1) (p + 1)).1)) ∧ ∃ B2, thk B2 ∧ h = [A0, (moSeg 32 k f c n kp l nt w sh (((p + 1) : Nat) : Int) t d wa), B2, (miscSeg z fs ss sp la gr tl tp), B4, A5, C6]) (7, [some (.inr 97), some (.inl ((amy (fun (y : Nat) => gwF p k f c l t y (p + 1)) (-9, -1) x).1)), some (.inl ((amy (fun (y : Nat) => gwF p k f c l t y (p + 1)) (-9, -1) x).2)), some (.inl (x : Int)), none], [], [A0, (moSeg 32 k f c n kp l nt w sh (((p + 1) : Nat) : Int) t d wa), B1, (miscSeg z fs ss sp la gr tl tp), B4, A5, C6]) := by
    intro j
    induction j with
    | zero =>
      intro x B1 hij hB1
      obtain rfl : (p + 1) = x := by omega
      refine aGo okX5_bestLeaver 3 (f' := (12, [some (.inr 97), some (.inl ((amy (fun (y : Nat) => gwF p k f c l t y (p + 1)) (-9, -1) (p + 1)).1)), some (.inl ((amy (fun (y : Nat) => gwF p k f c l t y (p + 1)) (-9, -1) (p + 1)).2)), some (.inl ((p + 1) : Int)), none], [.inr 32, .inl ((p + 1) : Int)], _)) rfl ?_
      refine b_vV (as := []) (rest := [.inl ((p + 1) : Int)]) (k := 32) (.inl (((p + 1) : Nat) : Int)) okX5_bestLeaver rfl lkX5_54 caX3_people (Nat.le_of_ble_eq_true rfl) rfl (Nat.le_of_ble_eq_true rfl) rfl rfl rfl (c_people_1) ?_
      refine b_ge (tgt := 42) okX5_bestLeaver rfl rfl ⟨by omega, by omega⟩ ⟨by omega, by omega⟩ (fun h15 => ?_) (fun h15 => absurd h15 (by omega))
      refine aGo okX5_bestLeaver 1 (f' := (43, [some (.inr 97), some (.inl ((amy (fun (y : Nat) => gwF p k f c l t y (p + 1)) (-9, -1) (p + 1)).1)), some (.inl ((amy (fun (y : Nat) => gwF p k f c l t y (p + 1)) (-9, -1) (p + 1)).2)), some (.inl ((p + 1) : Int)), none], [.inl ((amy (fun (y : Nat) => gwF p k f c l t y (p + 1)) (-9, -1) (p + 1)).1)], _)) rfl ?_
      exact b_ret (v := (some (.inl ((amy (fun (y : Nat) => gwF p k f c l t y (p + 1)) (-9, -1) (p + 1)).1)))) ⟨rfl, Or.inl rfl⟩ ⟨rfl, B1, hB1, rfl⟩ rfl
    | succ j ih =>
      intro x B1 hij hB1
      have e6 := gwF_le p k f c l t x (p + 1)
      have e0 := amy_le (F := (fun (y : Nat) => gwF p k f c l t y (p + 1))) (z := (-9, -1)) (a := -1) (b := 8) (m := p + 1) ⟨by decide, by decide⟩ (fun y _ => by have := gwF_le p k f c l t y (p + 1); show -1 ≤ gwF p k f c l t y (p + 1) ∧ gwF p k f c l t y (p + 1) ≤ 8; omega) x (by omega)
      refine aGo okX5_bestLeaver 3 (f' := (12, [some (.inr 97), some (.inl ((amy (fun (y : Nat) => gwF p k f c l t y (p + 1)) (-9, -1) x).1)), some (.inl ((amy (fun (y : Nat) => gwF p k f c l t y (p + 1)) (-9, -1) x).2)), some (.inl (x : Int)), none], [.inr 32, .inl (x : Int)], _)) rfl ?_
      refine b_vV (as := []) (rest := [.inl (x : Int)]) (k := 32) (.inl (((p + 1) : Nat) : Int)) okX5_bestLeaver rfl lkX5_54 caX3_people (Nat.le_of_ble_eq_true rfl) rfl (Nat.le_of_ble_eq_true rfl) rfl rfl rfl (c_people_1) ?_
      refine b_ge (tgt := 42) okX5_bestLeaver rfl rfl ⟨by omega, by omega⟩ ⟨by omega, by omega⟩ (fun h15 => absurd h15 (by omega)) (fun h15 => ?_)
      refine aGo okX5_bestLeaver 2 (f' := (20, [some (.inr 97), some (.inl ((amy (fun (y : Nat) => gwF p k f c l t y (p + 1)) (-9, -1) x).1)), some (.inl ((amy (fun (y : Nat) => gwF p k f c l t y (p + 1)) (-9, -1) x).2)), some (.inl (x : Int)), none], [.inl (x : Int), .inr 97], _)) rfl ?_
      refine b_vE (as := [.inl (x : Int)]) (rest := []) (k := 97) okX5_bestLeaver rfl lkX5_86 caX5_gainersWithout (Nat.le_of_ble_eq_true rfl) rfl (Nat.le_of_ble_eq_true rfl) rfl rfl rfl (c_gainersWithout hm hB1 (g := x) (by omega)) ?_
      rintro _ _ ⟨rfl, B2, hB2, rfl⟩
      refine aGo okX5_bestLeaver 3 (f' := (28, [some (.inr 97), some (.inl ((amy (fun (y : Nat) => gwF p k f c l t y (p + 1)) (-9, -1) x).1)), some (.inl ((amy (fun (y : Nat) => gwF p k f c l t y (p + 1)) (-9, -1) x).2)), some (.inl (x : Int)), some (.inl (gwF p k f c l t x (p + 1)))], [.inl ((amy (fun (y : Nat) => gwF p k f c l t y (p + 1)) (-9, -1) x).2), .inl (gwF p k f c l t x (p + 1))], _)) rfl ?_
      refine b_le (tgt := 36) okX5_bestLeaver rfl rfl ⟨by omega, by omega⟩ ⟨by omega, by omega⟩ (fun h28 => ?_) (fun h28 => ?_)
      · refine aGo okX5_bestLeaver 2 (f' := (7, [some (.inr 97), some (.inl ((amy (fun (y : Nat) => gwF p k f c l t y (p + 1)) (-9, -1) x).1)), some (.inl ((amy (fun (y : Nat) => gwF p k f c l t y (p + 1)) (-9, -1) x).2)), some (.inl ((x : Int) + 1)), some (.inl (gwF p k f c l t x (p + 1)))], [], _)) rfl ?_
        refine b_cast (f' := (7, [some (.inr 97), some (.inl ((amy (fun (y : Nat) => gwF p k f c l t y (p + 1)) (-9, -1) (x + 1)).1)), some (.inl ((amy (fun (y : Nat) => gwF p k f c l t y (p + 1)) (-9, -1) (x + 1)).2)), some (.inl ((x : Int) + 1)), some (.inl (gwF p k f c l t x (p + 1)))], [], [A0, (moSeg 32 k f c n kp l nt w sh (((p + 1) : Nat) : Int) t d wa), B2, (miscSeg z fs ss sp la gr tl tp), B4, A5, C6])) (by rw [amy_f (F := (fun (y : Nat) => gwF p k f c l t y (p + 1))) h28]) ?_
        refine b_lose (ls' := [some (.inr 97), some (.inl ((amy (fun (y : Nat) => gwF p k f c l t y (p + 1)) (-9, -1) (x + 1)).1)), some (.inl ((amy (fun (y : Nat) => gwF p k f c l t y (p + 1)) (-9, -1) (x + 1)).2)), some (.inl ((x : Int) + 1)), none]) (lose4g _ _ _ _ _) ?_
        exact ih (x + 1) B2 (by omega) hB2
      · refine aGo okX5_bestLeaver 6 (f' := (7, [some (.inr 97), some (.inl (x : Int)), some (.inl (gwF p k f c l t x (p + 1))), some (.inl ((x : Int) + 1)), some (.inl (gwF p k f c l t x (p + 1)))], [], _)) rfl ?_
        refine b_cast (f' := (7, [some (.inr 97), some (.inl ((amy (fun (y : Nat) => gwF p k f c l t y (p + 1)) (-9, -1) (x + 1)).1)), some (.inl ((amy (fun (y : Nat) => gwF p k f c l t y (p + 1)) (-9, -1) (x + 1)).2)), some (.inl ((x : Int) + 1)), some (.inl (gwF p k f c l t x (p + 1)))], [], [A0, (moSeg 32 k f c n kp l nt w sh (((p + 1) : Nat) : Int) t d wa), B2, (miscSeg z fs ss sp la gr tl tp), B4, A5, C6])) (by rw [amy_t (F := (fun (y : Nat) => gwF p k f c l t y (p + 1))) h28]) ?_
        refine b_lose (ls' := [some (.inr 97), some (.inl ((amy (fun (y : Nat) => gwF p k f c l t y (p + 1)) (-9, -1) (x + 1)).1)), some (.inl ((amy (fun (y : Nat) => gwF p k f c l t y (p + 1)) (-9, -1) (x + 1)).2)), some (.inl ((x : Int) + 1)), none]) (lose4g _ _ _ _ _) ?_
        exact ih (x + 1) B2 (by omega) hB2
  refine aGo okX5_bestLeaver 6 (f' := (7, [some (.inr 97), some (.inl (-9)), some (.inl (-1)), some (.inl 0), none], [], _)) rfl ?_
  exact lp (p + 1) 0 B (by omega) hB
set_option maxRecDepth 100000 in
set_option maxHeartbeats 4000000 in
theorem c_bestLeaver_0  : aEv mX5_bestLeaver 6 0 0 N [.inr 97] [A0, (moSeg 32 k f c n kp l nt w sh 0 t d wa), B, (miscSeg z fs ss sp la gr tl tp), B4, A5, C6] (aQx (some (.inl (-9))) [A0, (moSeg 32 k f c n kp l nt w sh 0 t d wa), B, (miscSeg z fs ss sp la gr tl tp), B4, A5, C6]) := by
  refine aEv_of okX5_bestLeaver caX5_bestLeaver (Nat.le_of_ble_eq_true rfl) ?_
  refine aGo okX5_bestLeaver 9 (f' := (12, [some (.inr 97), some (.inl (-9)), some (.inl (-1)), some (.inl 0), none], [.inr 32, .inl 0], _)) rfl ?_
  refine b_vV (as := []) (rest := [.inl 0]) (k := 32) (.inl 0) okX5_bestLeaver rfl lkX5_54 caX3_people (Nat.le_of_ble_eq_true rfl) rfl (Nat.le_of_ble_eq_true rfl) rfl rfl rfl (c_people_1) ?_
  refine b_ge (tgt := 42) okX5_bestLeaver rfl rfl ⟨by omega, by omega⟩ ⟨by omega, by omega⟩ (fun h15 => ?_) (fun h15 => absurd h15 (by omega))
  refine aGo okX5_bestLeaver 1 (f' := (43, [some (.inr 97), some (.inl (-9)), some (.inl (-1)), some (.inl 0), none], [.inl (-9)], _)) rfl ?_
  exact b_ret (v := (some (.inl (-9)))) ⟨rfl, Or.inl rfl⟩ ⟨rfl, rfl⟩ rfl
end AOB
