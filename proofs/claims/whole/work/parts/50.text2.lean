/-! Text.firstWrongLetter; laid by gen_text2.py -/
theorem tx_pos : ∀ f : Nat, f < 6 → 1 ≤ aTxLen.getD f 0 := by decide
theorem chr_ask : ∀ f : Nat, f < 6 → ∀ i : Nat, i < 8 → 1 ≤ i → i < aTxLen.getD f 0 → chr f i = 48 ∨ chr f i = 63 ∨ chr f i = 59 := by decide +kernel
theorem fitI_le (c a : Int) : 0 ≤ fitI c a ∧ fitI c a ≤ 1 := by
  unfold fitI
  split
  · split <;> decide
  · split <;> split <;> decide
/-- the first letter that does not fit, of j from place i on in form f at x; -1 -/
def innF (tp : List Int) (m x f : Nat) : Nat → Nat → Int
  | 0, _ => -1
  | j + 1, i => if m ≤ x + i ∨ fitI (tp.getD (x + i) 0) (chr f i) = 0 then ((x + i : Nat) : Int) else innF tp m x f j (i + 1)
theorem innF_t {tp : List Int} {m x f j i : Nat} (h : m ≤ x + i ∨ fitI (tp.getD (x + i) 0) (chr f i) = 0) : innF tp m x f (j + 1) i = ((x + i : Nat) : Int) := if_pos h
theorem innF_f {tp : List Int} {m x f j i : Nat} (h : ¬ (m ≤ x + i ∨ fitI (tp.getD (x + i) 0) (chr f i) = 0)) : innF tp m x f (j + 1) i = innF tp m x f j (i + 1) := if_neg h
/-- the first wrong letter of m letters, from place x on, in at most s statements -/
def fwF (tp : List Int) (m : Nat) : Nat → Nat → Int
  | 0, _ => if m = 0 then 0 else -1
  | s + 1, x => if m ≤ x then (if m = 0 then 0 else -1) else if fmI (tp.getD x 0) = 6 then (x : Int) else
      if innF tp m x (fmI (tp.getD x 0)) (aTxLen.getD (fmI (tp.getD x 0)) 0 - 1) 1 = -1 then fwF tp m s (x + aTxLen.getD (fmI (tp.getD x 0)) 0) else innF tp m x (fmI (tp.getD x 0)) (aTxLen.getD (fmI (tp.getD x 0)) 0 - 1) 1
theorem fwF_end {tp : List Int} {m s x : Nat} (h : m ≤ x) : fwF tp m s x = if m = 0 then 0 else -1 := by
  cases s with
  | zero => rfl
  | succ s => exact if_pos h
theorem fwF_no {tp : List Int} {m s x : Nat} (h : ¬ m ≤ x) (hf : fmI (tp.getD x 0) = 6) : fwF tp m (s + 1) x = (x : Int) := by
  simp only [fwF]; rw [if_neg h, if_pos hf]
theorem fwF_in {tp : List Int} {m s x f L : Nat} (h : ¬ m ≤ x) (hf : f = fmI (tp.getD x 0)) (h6 : f ≠ 6) (hL : aTxLen.getD f 0 = L) {v : Int} (hv : innF tp m x f (L - 1) 1 = v) (hn : v ≠ -1) : fwF tp m (s + 1) x = v := by
  subst hf; subst hL; subst hv
  simp only [fwF]; rw [if_neg h, if_neg h6, if_neg hn]
theorem fwF_on {tp : List Int} {m s x f L : Nat} (h : ¬ m ≤ x) (hf : f = fmI (tp.getD x 0)) (h6 : f ≠ 6) (hL : aTxLen.getD f 0 = L) (hv : innF tp m x f (L - 1) 1 = -1) : fwF tp m (s + 1) x = fwF tp m s (x + L) := by
  subst hf; subst hL
  simp only [fwF]; rw [if_neg h, if_neg h6, if_pos hv]
theorem lose23b (a0 a1 a2 a3 : Option aV) : ∀ (i : Nat) (v : aV), [a0, a1, none, none][i]? = some (some v) → [a0, a1, a2, a3][i]? = some (some v) := by
  intro i v h
  match i, h with
  | 0, h => exact h
  | 1, h => exact h
  | 2, h => simp at h
  | 3, h => simp at h
  | i + 4, h => simp at h
section ATY
variable {A0 A3 B B2 B4 A5 C6 : List (Option aE)} {k f c n kp l nt w sh : List Int} {p : Nat} {t d wa : Int} {N : Nat} {z tl : Int} {fs ss sp la gr tp : List Int}
theorem c_fits {v a : Int} (hv : 0 ≤ v ∧ v ≤ 255) (ha : a = 48 ∨ a = 63 ∨ a = 59) : aEx mX6_fits 7 N [.inr 110, .inl v, .inl a] [A0, (moSeg 32 k f c n kp l nt w sh (p : Int) t d wa), B, (miscSeg z fs ss sp la gr tl tp), B4, A5, C6] (some (.inl (fitI v a))) [A0, (moSeg 32 k f c n kp l nt w sh (p : Int) t d wa), B, (miscSeg z fs ss sp la gr tl tp), B4, A5, C6] := by
  rcases ha with rfl | rfl | rfl
  · exact c_fits_d hv
  · exact c_fits_k hv
  · exact c_fits_e hv
set_option maxRecDepth 100000 in
set_option maxHeartbeats 4000000 in
theorem c_firstWrongLetter {m : Nat} (hm : m ≤ 96) (htp : tp.length = 96) (rtp : rng tp 255) : aEv mX6_firstWrongLetter 8 0 0 N [.inr 110] [A0, (moSeg 32 k f c n kp l nt w sh (p : Int) t d wa), B, (miscSeg z fs ss sp la gr (m : Int) tp), B4, A5, C6] ((aQx (some (.inl (fwF tp m 97 0))) [A0, (moSeg 32 k f c n kp l nt w sh (p : Int) t d wa), B, (miscSeg z fs ss sp la gr (m : Int) tp), B4, A5, C6])) := by
  refine aEv_of okX6_firstWrongLetter caX6_firstWrongLetter (Nat.le_of_ble_eq_true rfl) ?_
  have lp : ∀ (j x : Nat), m ≤ x + j → x ≤ m + 8 → AW mX6_firstWrongLetter 8 0 0 N none (aQx (some (.inl (fwF tp m j x))) [A0, (moSeg 32 k f c n kp l nt w sh (p : Int) t d wa), B, (miscSeg z fs ss sp la gr (m : Int) tp), B4, A5, C6]) (2, [some (.inr 110), some (.inl (x : Int)), none, none], [], [A0, (moSeg 32 k f c n kp l nt w sh (p : Int) t d wa), B, (miscSeg z fs ss sp la gr (m : Int) tp), B4, A5, C6]) := by
    intro j
    induction j with
    | zero =>
      intro x hj hx8
      refine aGo okX6_firstWrongLetter 3 (f' := (7, [some (.inr 110), some (.inl (x : Int)), none, none], [.inl (m : Int), .inl (x : Int)], _)) rfl ?_
      refine b_ge (tgt := 87) okX6_firstWrongLetter rfl rfl ⟨by omega, by omega⟩ ⟨by omega, by omega⟩ (fun h7 => ?_) (fun h7 => absurd h7 (by omega))
      refine aGo okX6_firstWrongLetter 2 (f' := (91, [some (.inr 110), some (.inl (x : Int)), none, none], [.inl (m : Int)], _)) rfl ?_
      refine b0_ne (tgt := 98) okX6_firstWrongLetter rfl rfl ⟨by omega, by omega⟩ (fun h91 => ?_) (fun h91 => ?_)
      · refine aGo okX6_firstWrongLetter 1 (f' := (99, [some (.inr 110), some (.inl (x : Int)), none, none], [.inl (-1)], _)) rfl ?_
        exact b_ret (v := (some (.inl (-1)))) ⟨rfl, Or.inl rfl⟩ ⟨by rw [fwF_end (by omega)]; first | rw [if_pos (by omega)] | rw [if_neg (by omega)], rfl⟩ rfl
      · refine aGo okX6_firstWrongLetter 2 (f' := (99, [some (.inr 110), some (.inl (x : Int)), none, none], [.inl 0], _)) rfl ?_
        exact b_ret (v := (some (.inl 0))) ⟨rfl, Or.inl rfl⟩ ⟨by rw [fwF_end (by omega)]; first | rw [if_pos (by omega)] | rw [if_neg (by omega)], rfl⟩ rfl
    | succ j ih =>
      intro x hj hx8
      refine aGo okX6_firstWrongLetter 3 (f' := (7, [some (.inr 110), some (.inl (x : Int)), none, none], [.inl (m : Int), .inl (x : Int)], _)) rfl ?_
      refine b_ge (tgt := 87) okX6_firstWrongLetter rfl rfl ⟨by omega, by omega⟩ ⟨by omega, by omega⟩ (fun h7 => ?_) (fun h7 => ?_)
      · refine aGo okX6_firstWrongLetter 2 (f' := (91, [some (.inr 110), some (.inl (x : Int)), none, none], [.inl (m : Int)], _)) rfl ?_
        refine b0_ne (tgt := 98) okX6_firstWrongLetter rfl rfl ⟨by omega, by omega⟩ (fun h91 => ?_) (fun h91 => ?_)
        · refine aGo okX6_firstWrongLetter 1 (f' := (99, [some (.inr 110), some (.inl (x : Int)), none, none], [.inl (-1)], _)) rfl ?_
          exact b_ret (v := (some (.inl (-1)))) ⟨rfl, Or.inl rfl⟩ ⟨by rw [fwF_end (by omega)]; first | rw [if_pos (by omega)] | rw [if_neg (by omega)], rfl⟩ rfl
        · refine aGo okX6_firstWrongLetter 2 (f' := (99, [some (.inr 110), some (.inl (x : Int)), none, none], [.inl 0], _)) rfl ?_
          exact b_ret (v := (some (.inl 0))) ⟨rfl, Or.inl rfl⟩ ⟨by rw [fwF_end (by omega)]; first | rw [if_pos (by omega)] | rw [if_neg (by omega)], rfl⟩ rfl
      · refine aGo okX6_firstWrongLetter 2 (f' := (12, [some (.inr 110), some (.inl (x : Int)), none, none], [.inl (x : Int), .inr 110], _)) rfl ?_
        refine b_vE (as := [.inl (x : Int)]) (rest := []) (k := 110) okX6_firstWrongLetter rfl lkX6_36 caX6_formAt (Nat.le_of_ble_eq_true rfl) rfl (Nat.le_of_ble_eq_true rfl) rfl rfl rfl (c_formAt (x := x) (by omega) htp rtp) ?_
        rintro _ _ ⟨rfl, rfl⟩
        obtain ⟨fo, hf⟩ : ∃ fo, fo = fmI (tp.getD x 0) := ⟨_, rfl⟩
        have hf6 : fo ≤ 6 := by rw [hf]; exact fmI_le _
        obtain ⟨L, hL⟩ : ∃ L, aTxLen.getD fo 0 = L := ⟨_, rfl⟩
        have hL8 := tx_len fo (by omega)
        rw [hL] at hL8
        rw [← hf]
        refine aGo okX6_firstWrongLetter 2 (f' := (17, [some (.inr 110), some (.inl (x : Int)), some (.inr (1025 + fo)), none], [.inr (1025 + fo)], _)) rfl ?_
        by_cases hc17 : fo = 6
        · refine b_vZ (i := fo) (as := []) (rest := []) (.inl 1) okX6_firstWrongLetter rfl lkX6_50 caJ0_isEmpty_aae02 (Nat.le_of_ble_eq_true rfl) rfl (Nat.le_of_ble_eq_true rfl) (by omega) rfl rfl (c_isEmpty_t (i := fo) (by omega) (by rw [hc17]; rfl)) ?_
          refine b0_eq (tgt := 25) okX6_firstWrongLetter rfl rfl ⟨by omega, by omega⟩ (fun h20 => absurd h20 (by omega)) (fun h20 => ?_)
          refine aGo okX6_firstWrongLetter 1 (f' := (24, [some (.inr 110), some (.inl (x : Int)), some (.inr (1025 + fo)), none], [.inl (x : Int)], _)) rfl ?_
          exact b_ret (v := (some (.inl (x : Int)))) ⟨rfl, Or.inl rfl⟩ ⟨by rw [fwF_no (by omega) (by rw [← hf]; exact hc17)], rfl⟩ rfl
        · refine b_vZ (i := fo) (as := []) (rest := []) (.inl 0) okX6_firstWrongLetter rfl lkX6_50 caJ0_isEmpty_aae02 (Nat.le_of_ble_eq_true rfl) rfl (Nat.le_of_ble_eq_true rfl) (by omega) rfl rfl (c_isEmpty_f (i := fo) (by omega) (by have := tx_pos fo (by omega); omega)) ?_
          refine b0_eq (tgt := 25) okX6_firstWrongLetter rfl rfl ⟨by omega, by omega⟩ (fun h20 => ?_) (fun h20 => absurd h20 (by omega))
          refine aGo okX6_firstWrongLetter 2 (f' := (27, [some (.inr 110), some (.inl (x : Int)), some (.inr (1025 + fo)), some (.inl 1)], [], _)) rfl ?_
          have hL1 := tx_pos fo (by omega)
          rw [hL] at hL1
          have lq : ∀ (j2 i : Nat), i + j2 = L → 1 ≤ i → innF tp m x fo (L - 1) 1 = innF tp m x fo j2 i → AW mX6_firstWrongLetter 8 0 0 N none (aQx (some (.inl (fwF tp m (j + 1) x))) [A0, (moSeg 32 k f c n kp l nt w sh (p : Int) t d wa), B, (miscSeg z fs ss sp la gr (m : Int) tp), B4, A5, C6]) (27, [some (.inr 110), some (.inl (x : Int)), some (.inr (1025 + fo)), some (.inl (i : Int))], [], [A0, (moSeg 32 k f c n kp l nt w sh (p : Int) t d wa), B, (miscSeg z fs ss sp la gr (m : Int) tp), B4, A5, C6]) := by
            intro j2
            induction j2 with
            | zero =>
              intro i hij2 hi1 hin
              obtain rfl : L = i := by omega
              refine aGo okX6_firstWrongLetter 2 (f' := (29, [some (.inr 110), some (.inl (x : Int)), some (.inr (1025 + fo)), some (.inl (L : Int))], [.inr (1025 + fo), .inl (L : Int)], _)) rfl ?_
              refine b_vZ (i := fo) (as := []) (rest := [.inl (L : Int)]) (.inl (L : Int)) okX6_firstWrongLetter rfl lkX6_40 caJ0_length_8abf5 (Nat.le_of_ble_eq_true rfl) rfl (Nat.le_of_ble_eq_true rfl) (by omega) rfl rfl (c_strLenV (i := fo) (L := (L : Int)) (by omega) (by rw [hL])) ?_
              refine b_ge (tgt := 77) okX6_firstWrongLetter rfl rfl ⟨by omega, by omega⟩ ⟨by omega, by omega⟩ (fun h32 => ?_) (fun h32 => absurd h32 (by omega))
              refine aGo okX6_firstWrongLetter 2 (f' := (79, [some (.inr 110), some (.inl (x : Int)), some (.inr (1025 + fo)), some (.inl (L : Int))], [.inr (1025 + fo), .inl (x : Int)], _)) rfl ?_
              refine b_vZ (i := fo) (as := []) (rest := [.inl (x : Int)]) (.inl (L : Int)) okX6_firstWrongLetter rfl lkX6_40 caJ0_length_8abf5 (Nat.le_of_ble_eq_true rfl) rfl (Nat.le_of_ble_eq_true rfl) (by omega) rfl rfl (c_strLenV (i := fo) (L := (L : Int)) (by omega) (by rw [hL])) ?_
              refine aGo okX6_firstWrongLetter 3 (f' := (2, [some (.inr 110), some (.inl ((x : Int) + (L : Int))), some (.inr (1025 + fo)), some (.inl (L : Int))], [], _)) rfl ?_
              refine b_lose (ls' := [some (.inr 110), some (.inl ((x : Int) + (L : Int))), none, none]) (lose23b _ _ _ _) ?_
              rw [fwF_on (f := fo) (L := L) (by omega) hf (by omega) hL hin]
              exact ih (x + L) (by omega) (by omega)
            | succ j2 ih2 =>
              intro i hij2 hi1 hin
              refine aGo okX6_firstWrongLetter 2 (f' := (29, [some (.inr 110), some (.inl (x : Int)), some (.inr (1025 + fo)), some (.inl (i : Int))], [.inr (1025 + fo), .inl (i : Int)], _)) rfl ?_
              refine b_vZ (i := fo) (as := []) (rest := [.inl (i : Int)]) (.inl (L : Int)) okX6_firstWrongLetter rfl lkX6_40 caJ0_length_8abf5 (Nat.le_of_ble_eq_true rfl) rfl (Nat.le_of_ble_eq_true rfl) (by omega) rfl rfl (c_strLenV (i := fo) (L := (L : Int)) (by omega) (by rw [hL])) ?_
              refine b_ge (tgt := 77) okX6_firstWrongLetter rfl rfl ⟨by omega, by omega⟩ ⟨by omega, by omega⟩ (fun h32 => absurd h32 (by omega)) (fun h32 => ?_)
              refine aGo okX6_firstWrongLetter 5 (f' := (42, [some (.inr 110), some (.inl (x : Int)), some (.inr (1025 + fo)), some (.inl (i : Int))], [.inl (m : Int), .inl ((x : Int) + (i : Int))], _)) rfl ?_
              refine b_ge (tgt := 67) okX6_firstWrongLetter rfl rfl ⟨by omega, by omega⟩ ⟨by omega, by omega⟩ (fun h42 => ?_) (fun h42 => ?_)
              · refine aGo okX6_firstWrongLetter 3 (f' := (70, [some (.inr 110), some (.inl (x : Int)), some (.inr (1025 + fo)), some (.inl (i : Int))], [.inl ((x : Int) + (i : Int))], _)) rfl ?_
                exact b_ret (v := (some (.inl ((x : Int) + (i : Int))))) ⟨rfl, Or.inl rfl⟩ ⟨by rw [fwF_in (f := fo) (L := L) (by omega) hf (by omega) hL (hin.trans (innF_t (by omega))) (by omega)]; rfl, rfl⟩ rfl
              · refine aGo okX6_firstWrongLetter 6 (f' := (53, [some (.inr 110), some (.inl (x : Int)), some (.inr (1025 + fo)), some (.inl (i : Int))], [.inl ((x : Int) + (i : Int)), .inr 111, .inr 110], _)) rfl ?_
                refine b_vV (as := [.inl ((x : Int) + (i : Int))]) (rest := [.inr 110]) (k := 111) (.inl (tp.getD (x + i) 0)) okX6_firstWrongLetter rfl lkX6_54 caX4_at (Nat.le_of_ble_eq_true rfl) rfl (Nat.le_of_ble_eq_true rfl) rfl rfl rfl (c_at (i := (x + i)) rfl rfl (by first | omega | (simp only [List.length_set]; omega)) (by omega)) ?_
                refine aGo okX6_firstWrongLetter 2 (f' := (58, [some (.inr 110), some (.inl (x : Int)), some (.inr (1025 + fo)), some (.inl (i : Int))], [.inl (i : Int), .inr (1025 + fo), .inl (tp.getD (x + i) 0), .inr 110], _)) rfl ?_
                refine b_vZ (i := fo) (as := [.inl (i : Int)]) (rest := [.inl (tp.getD (x + i) 0), .inr 110]) (.inl (chr fo i)) okX6_firstWrongLetter rfl lkX6_58 caJ0_charAt_5068e (Nat.le_of_ble_eq_true rfl) rfl (Nat.le_of_ble_eq_true rfl) (by omega) rfl rfl (c_strAtV (i := fo) (j := i) (C := chr fo i) (by omega) (by omega) rfl) ?_
                refine b_vV (as := [.inl (tp.getD (x + i) 0), .inl (chr fo i)]) (rest := []) (k := 110) (.inl (fitI (tp.getD (x + i) 0) (chr fo i))) okX6_firstWrongLetter rfl lkX6_62 caX6_fits (Nat.le_of_ble_eq_true rfl) rfl (Nat.le_of_ble_eq_true rfl) rfl rfl rfl (c_fits (rtp _) (chr_ask fo (by omega) i (by omega) (by omega) (by omega))) ?_
                have e3 := fitI_le (tp.getD (x + i) 0) (chr fo i)
                refine b0_ne (tgt := 71) okX6_firstWrongLetter rfl rfl ⟨by omega, by omega⟩ (fun h64 => ?_) (fun h64 => ?_)
                · refine aGo okX6_firstWrongLetter 2 (f' := (27, [some (.inr 110), some (.inl (x : Int)), some (.inr (1025 + fo)), some (.inl ((i : Int) + 1))], [], _)) rfl ?_
                  exact ih2 (i + 1) (by omega) (by omega) (hin.trans (innF_f (by omega)))
                · refine aGo okX6_firstWrongLetter 3 (f' := (70, [some (.inr 110), some (.inl (x : Int)), some (.inr (1025 + fo)), some (.inl (i : Int))], [.inl ((x : Int) + (i : Int))], _)) rfl ?_
                  exact b_ret (v := (some (.inl ((x : Int) + (i : Int))))) ⟨rfl, Or.inl rfl⟩ ⟨by rw [fwF_in (f := fo) (L := L) (by omega) hf (by omega) hL (hin.trans (innF_t (by omega))) (by omega)]; rfl, rfl⟩ rfl
          exact lq (L - 1) 1 (by omega) (by omega) rfl
  refine aGo okX6_firstWrongLetter 2 (f' := (2, [some (.inr 110), some (.inl 0), none, none], [], _)) rfl ?_
  exact lp 97 0 (by omega) (by omega)
end ATY
