/-! Text, first half; laid by gen_text.py -/
theorem c_strLenV {N i : Nat} {h : aH} {L : Int} (hi : i < 8) (hL : ((aTxLen.getD i 0 : Nat) : Int) = L) : aEx mJ0_length_8abf5 1 N [.inr (1025 + i)] h (some (.inl L)) h := by
  rw [← hL]; exact c_strLen hi
theorem c_strAtV {N i j : Nat} {h : aH} {C : Int} (hi : i < 8) (hj : j < aTxLen.getD i 0) (hC : chr i j = C) : aEx mJ0_charAt_5068e 3 N [.inr (1025 + i), .inl (j : Int)] h (some (.inl C)) h := by
  rw [← hC]; exact c_strAt hi hj
/-- the form that a letter begins -/
def fmI (c : Int) : Nat := if c = 112 then 0 else if c = 97 then 1 else if c = 108 then 2 else if c = 107 then 3 else if c = 115 then 4 else if c = 100 then 5 else 6
theorem fmI_out {c : Int} (h : ¬ (97 ≤ c ∧ c ≤ 115)) : fmI c = 6 := by
  unfold fmI
  rw [if_neg (by omega), if_neg (by omega), if_neg (by omega), if_neg (by omega), if_neg (by omega), if_neg (by omega)]
theorem fmI_le (c : Int) : fmI c ≤ 6 := by
  unfold fmI
  split
  · decide
  · split
    · decide
    · split
      · decide
      · split
        · decide
        · split
          · decide
          · split <;> decide
/-- the kind that a letter names -/
def kdF (c : Int) : Int := if c = 112 then 0 else if c = 115 then 1 else if c = 119 then 2 else if c = 99 then 3 else if c = 111 then 4 else if c = 110 then 5 else -1
theorem kdF_at0 {c : Int} (h : c = 112) : kdF c = 0 := by subst h; rfl
theorem kdF_at1 {c : Int} (h : c = 115) : kdF c = 1 := by subst h; rfl
theorem kdF_at2 {c : Int} (h : c = 119) : kdF c = 2 := by subst h; rfl
theorem kdF_at3 {c : Int} (h : c = 99) : kdF c = 3 := by subst h; rfl
theorem kdF_at4 {c : Int} (h : c = 111) : kdF c = 4 := by subst h; rfl
theorem kdF_at5 {c : Int} (h : c = 110) : kdF c = 5 := by subst h; rfl
theorem kdF_no {c : Int} (h : c ≠ 112 ∧ c ≠ 115 ∧ c ≠ 119 ∧ c ≠ 99 ∧ c ≠ 111 ∧ c ≠ 110) : kdF c = -1 := by
  unfold kdF
  rw [if_neg h.1, if_neg h.2.1, if_neg h.2.2.1, if_neg h.2.2.2.1, if_neg h.2.2.2.2.1, if_neg h.2.2.2.2.2]
theorem kdF_le (c : Int) : -1 ≤ kdF c ∧ kdF c ≤ 5 := by
  unfold kdF
  split
  · decide
  · split
    · decide
    · split
      · decide
      · split
        · decide
        · split
          · decide
          · split <;> decide
/-- is a letter what the form asks for -/
def fitI (c a : Int) : Int := if a = 48 then (if 48 ≤ c ∧ c ≤ 57 then 1 else 0) else if a = 63 then (if 0 ≤ kdF c then 1 else 0) else if c = a then 1 else 0
theorem fit_d1 {c : Int} (h : 48 ≤ c ∧ c ≤ 57) : fitI c 48 = 1 := by unfold fitI; rw [if_pos rfl, if_pos h]
theorem fit_d0 {c : Int} (h : ¬ (48 ≤ c ∧ c ≤ 57)) : fitI c 48 = 0 := by unfold fitI; rw [if_pos rfl, if_neg h]
theorem fit_k1 {c : Int} (h : 0 ≤ kdF c) : fitI c 63 = 1 := by unfold fitI; rw [if_neg (by decide), if_pos rfl, if_pos h]
theorem fit_k0 {c : Int} (h : ¬ 0 ≤ kdF c) : fitI c 63 = 0 := by unfold fitI; rw [if_neg (by decide), if_pos rfl, if_neg h]
theorem fit_e1 {c : Int} (h : c = 59) : fitI c 59 = 1 := by unfold fitI; rw [if_neg (by decide), if_neg (by decide), if_pos h]
theorem fit_e0 {c : Int} (h : c ≠ 59) : fitI c 59 = 0 := by unfold fitI; rw [if_neg (by decide), if_neg (by decide), if_neg h]
/-- a number of m digits -/
def numL (tp : List Int) (x : Nat) : Nat → Int
  | 0 => 0
  | i + 1 => 10 * numL tp x i + tp.getD (x + i) 0 - 48
section ATX
variable {A0 A3 B B2 B4 A5 C6 : List (Option aE)} {k f c n kp l nt w sh : List Int} {p : Nat} {t d wa : Int} {N : Nat} {z tl : Int} {fs ss sp la gr tp : List Int}
set_option maxRecDepth 100000 in
set_option maxHeartbeats 4000000 in
theorem c_length {x : Nat} : aEv mX6_length 0 0 0 N [.inr 110] [A0, (moSeg 32 k f c n kp l nt w sh (p : Int) t d wa), B, (miscSeg z fs ss sp la gr (x : Int) tp), B4, A5, C6] (aQx (some (.inl (x : Int))) [A0, (moSeg 32 k f c n kp l nt w sh (p : Int) t d wa), B, (miscSeg z fs ss sp la gr (x : Int) tp), B4, A5, C6]) := by
  refine aEv_of okX6_length caX6_length (Nat.le_of_ble_eq_true rfl) ?_
  refine aGo okX6_length 2 (f' := (4, [some (.inr 110)], [.inl (x : Int)], _)) rfl ?_
  exact b_ret (v := (some (.inl (x : Int)))) ⟨rfl, Or.inl rfl⟩ ⟨rfl, rfl⟩ rfl
set_option maxRecDepth 100000 in
set_option maxHeartbeats 4000000 in
theorem c_hasRoom_t {x : Nat} (hx : x < 96) : aEv mX6_hasRoom 0 0 0 N [.inr 110] [A0, (moSeg 32 k f c n kp l nt w sh (p : Int) t d wa), B, (miscSeg z fs ss sp la gr (x : Int) tp), B4, A5, C6] (aQx (some (.inl 1)) [A0, (moSeg 32 k f c n kp l nt w sh (p : Int) t d wa), B, (miscSeg z fs ss sp la gr (x : Int) tp), B4, A5, C6]) := by
  refine aEv_of okX6_hasRoom caX6_hasRoom (Nat.le_of_ble_eq_true rfl) ?_
  refine aGo okX6_hasRoom 3 (f' := (6, [some (.inr 110)], [.inl 96, .inl (x : Int)], _)) rfl ?_
  refine b_ge (tgt := 13) okX6_hasRoom rfl rfl ⟨by omega, by omega⟩ ⟨by omega, by omega⟩ (fun h6 => absurd h6 (by omega)) (fun h6 => ?_)
  refine aGo okX6_hasRoom 2 (f' := (14, [some (.inr 110)], [.inl 1], _)) rfl ?_
  exact b_ret (v := (some (.inl 1))) ⟨rfl, Or.inr ⟨rfl, Or.inr rfl⟩⟩ ⟨rfl, rfl⟩ rfl
set_option maxRecDepth 100000 in
set_option maxHeartbeats 4000000 in
theorem c_hasRoom_f {x : Nat} (hx : x = 96) : aEv mX6_hasRoom 0 0 0 N [.inr 110] [A0, (moSeg 32 k f c n kp l nt w sh (p : Int) t d wa), B, (miscSeg z fs ss sp la gr (x : Int) tp), B4, A5, C6] (aQx (some (.inl 0)) [A0, (moSeg 32 k f c n kp l nt w sh (p : Int) t d wa), B, (miscSeg z fs ss sp la gr (x : Int) tp), B4, A5, C6]) := by
  refine aEv_of okX6_hasRoom caX6_hasRoom (Nat.le_of_ble_eq_true rfl) ?_
  refine aGo okX6_hasRoom 3 (f' := (6, [some (.inr 110)], [.inl 96, .inl (x : Int)], _)) rfl ?_
  refine b_ge (tgt := 13) okX6_hasRoom rfl rfl ⟨by omega, by omega⟩ ⟨by omega, by omega⟩ (fun h6 => ?_) (fun h6 => absurd h6 (by omega))
  refine aGo okX6_hasRoom 1 (f' := (14, [some (.inr 110)], [.inl 0], _)) rfl ?_
  exact b_ret (v := (some (.inl 0))) ⟨rfl, Or.inr ⟨rfl, Or.inl rfl⟩⟩ ⟨rfl, rfl⟩ rfl
set_option maxRecDepth 100000 in
set_option maxHeartbeats 4000000 in
theorem c_append {x : Nat} (hx : x < 96) (htp : tp.length = 96) {v : Int} : aEv mX6_append 1 0 0 N [.inr 110, .inl v] [A0, (moSeg 32 k f c n kp l nt w sh (p : Int) t d wa), B, (miscSeg z fs ss sp la gr (x : Int) tp), B4, A5, C6] (aQx (some (.inl ((x : Int) + 1))) [A0, (moSeg 32 k f c n kp l nt w sh (p : Int) t d wa), B, (miscSeg z fs ss sp la gr ((x : Int) + 1) (tp.set x v)), B4, A5, C6]) := by
  refine aEv_of okX6_append caX6_append (Nat.le_of_ble_eq_true rfl) ?_
  refine aGo okX6_append 5 (f' := (9, [some (.inr 110), some (.inl v)], [.inl v, .inl (x : Int), .inr 111], _)) rfl ?_
  refine b_vN (as := [.inl (x : Int), .inl v]) (rest := []) (k := 111) okX6_append rfl lkX6_24 caX4_put (Nat.le_of_ble_eq_true rfl) rfl (Nat.le_of_ble_eq_true rfl) rfl rfl rfl (c_put (i := x) rfl rfl (by first | omega | (simp only [List.length_set]; omega)) (by first | omega | (simp only [List.length_set]; omega)) v) ?_
  refine b_cast (f' := (12, [some (.inr 110), some (.inl v)], [], [A0, (moSeg 32 k f c n kp l nt w sh (p : Int) t d wa), B, (miscSeg z fs ss sp la gr (x : Int) (tp.set x v)), B4, A5, C6])) rfl ?_
  refine aGo okX6_append 8 (f' := (26, [some (.inr 110), some (.inl v)], [.inl ((x : Int) + 1)], [A0, (moSeg 32 k f c n kp l nt w sh (p : Int) t d wa), B, (miscSeg z fs ss sp la gr ((x : Int) + 1) (tp.set x v)), B4, A5, C6])) rfl ?_
  exact b_ret (v := (some (.inl ((x : Int) + 1)))) ⟨rfl, Or.inl rfl⟩ ⟨rfl, rfl⟩ rfl
set_option maxRecDepth 100000 in
set_option maxHeartbeats 4000000 in
theorem c_drop  : aEv mX6_drop 0 0 0 N [.inr 110] [A0, (moSeg 32 k f c n kp l nt w sh (p : Int) t d wa), B, (miscSeg z fs ss sp la gr tl tp), B4, A5, C6] (aQx (none) [A0, (moSeg 32 k f c n kp l nt w sh (p : Int) t d wa), B, (miscSeg z fs ss sp la gr 0 tp), B4, A5, C6]) := by
  refine aEv_of okX6_drop caX6_drop (Nat.le_of_ble_eq_true rfl) ?_
  refine aGo okX6_drop 3 (f' := (5, [some (.inr 110)], [], [A0, (moSeg 32 k f c n kp l nt w sh (p : Int) t d wa), B, (miscSeg z fs ss sp la gr 0 tp), B4, A5, C6])) rfl ?_
  exact b_ret (v := none) ⟨rfl, rfl⟩ ⟨rfl, rfl⟩ rfl
set_option maxRecDepth 100000 in
set_option maxHeartbeats 4000000 in
theorem c_formAt {x : Nat} (hx : x < 96) (htp : tp.length = 96) (rtp : rng tp 255) : aEv mX6_formAt 1 0 0 N [.inr 110, .inl (x : Int)] [A0, (moSeg 32 k f c n kp l nt w sh (p : Int) t d wa), B, (miscSeg z fs ss sp la gr tl tp), B4, A5, C6] (aQx (some (.inr (1025 + fmI (tp.getD x 0)))) [A0, (moSeg 32 k f c n kp l nt w sh (p : Int) t d wa), B, (miscSeg z fs ss sp la gr tl tp), B4, A5, C6]) := by
  refine aEv_of okX6_formAt caX6_formAt (Nat.le_of_ble_eq_true rfl) ?_
  refine aGo okX6_formAt 3 (f' := (5, [some (.inr 110), some (.inl (x : Int))], [.inl (x : Int), .inr 111], _)) rfl ?_
  refine b_vV (as := [.inl (x : Int)]) (rest := []) (k := 111) (.inl (tp.getD x 0)) okX6_formAt rfl lkX6_54 caX4_at (Nat.le_of_ble_eq_true rfl) rfl (Nat.le_of_ble_eq_true rfl) rfl rfl rfl (c_at (i := x) rfl rfl (by first | omega | (simp only [List.length_set]; omega)) (by omega)) ?_
  have e1 := rtp x
  by_cases hr : 97 ≤ tp.getD x 0 ∧ tp.getD x 0 ≤ 115
  · have hsx := (show tp.getD x 0 = 97 ∨ tp.getD x 0 = 98 ∨ tp.getD x 0 = 99 ∨ tp.getD x 0 = 100 ∨ tp.getD x 0 = 101 ∨ tp.getD x 0 = 102 ∨ tp.getD x 0 = 103 ∨ tp.getD x 0 = 104 ∨ tp.getD x 0 = 105 ∨ tp.getD x 0 = 106 ∨ tp.getD x 0 = 107 ∨ tp.getD x 0 = 108 ∨ tp.getD x 0 = 109 ∨ tp.getD x 0 = 110 ∨ tp.getD x 0 = 111 ∨ tp.getD x 0 = 112 ∨ tp.getD x 0 = 113 ∨ tp.getD x 0 = 114 ∨ tp.getD x 0 = 115 from by omega)
    rcases hsx with hsw | hsw | hsw | hsw | hsw | hsw | hsw | hsw | hsw | hsw | hsw | hsw | hsw | hsw | hsw | hsw | hsw | hsw | hsw
    · refine b_cast (f' := (8, [some (.inr 110), some (.inl (x : Int))], [.inl 97], [A0, (moSeg 32 k f c n kp l nt w sh (p : Int) t d wa), B, (miscSeg z fs ss sp la gr tl tp), B4, A5, C6])) (congrArg (fun zz : Int => ((8, [some (.inr 110), some (.inl (x : Int))], .inl zz :: [], [A0, (moSeg 32 k f c n kp l nt w sh (p : Int) t d wa), B, (miscSeg z fs ss sp la gr tl tp), B4, A5, C6]) : aF)) hsw) ?_
      refine b_swIn (tgt := 103) okX6_formAt rfl ⟨by decide, by decide⟩ (by decide) (by decide) rfl rfl ?_
      refine b_ldcS (i := 1) okX6_formAt rfl rfl rfl ?_
      exact b_ret (v := (some (.inr 1026))) ⟨rfl, _, rfl⟩ ⟨by rw [hsw]; rfl, rfl⟩ rfl
    · refine b_cast (f' := (8, [some (.inr 110), some (.inl (x : Int))], [.inl 98], [A0, (moSeg 32 k f c n kp l nt w sh (p : Int) t d wa), B, (miscSeg z fs ss sp la gr tl tp), B4, A5, C6])) (congrArg (fun zz : Int => ((8, [some (.inr 110), some (.inl (x : Int))], .inl zz :: [], [A0, (moSeg 32 k f c n kp l nt w sh (p : Int) t d wa), B, (miscSeg z fs ss sp la gr tl tp), B4, A5, C6]) : aF)) hsw) ?_
      refine b_swIn (tgt := 118) okX6_formAt rfl ⟨by decide, by decide⟩ (by decide) (by decide) rfl rfl ?_
      refine b_ldcS (i := 6) okX6_formAt rfl rfl rfl ?_
      exact b_ret (v := (some (.inr 1031))) ⟨rfl, _, rfl⟩ ⟨by rw [hsw]; rfl, rfl⟩ rfl
    · refine b_cast (f' := (8, [some (.inr 110), some (.inl (x : Int))], [.inl 99], [A0, (moSeg 32 k f c n kp l nt w sh (p : Int) t d wa), B, (miscSeg z fs ss sp la gr tl tp), B4, A5, C6])) (congrArg (fun zz : Int => ((8, [some (.inr 110), some (.inl (x : Int))], .inl zz :: [], [A0, (moSeg 32 k f c n kp l nt w sh (p : Int) t d wa), B, (miscSeg z fs ss sp la gr tl tp), B4, A5, C6]) : aF)) hsw) ?_
      refine b_swIn (tgt := 118) okX6_formAt rfl ⟨by decide, by decide⟩ (by decide) (by decide) rfl rfl ?_
      refine b_ldcS (i := 6) okX6_formAt rfl rfl rfl ?_
      exact b_ret (v := (some (.inr 1031))) ⟨rfl, _, rfl⟩ ⟨by rw [hsw]; rfl, rfl⟩ rfl
    · refine b_cast (f' := (8, [some (.inr 110), some (.inl (x : Int))], [.inl 100], [A0, (moSeg 32 k f c n kp l nt w sh (p : Int) t d wa), B, (miscSeg z fs ss sp la gr tl tp), B4, A5, C6])) (congrArg (fun zz : Int => ((8, [some (.inr 110), some (.inl (x : Int))], .inl zz :: [], [A0, (moSeg 32 k f c n kp l nt w sh (p : Int) t d wa), B, (miscSeg z fs ss sp la gr tl tp), B4, A5, C6]) : aF)) hsw) ?_
      refine b_swIn (tgt := 115) okX6_formAt rfl ⟨by decide, by decide⟩ (by decide) (by decide) rfl rfl ?_
      refine b_ldcS (i := 5) okX6_formAt rfl rfl rfl ?_
      exact b_ret (v := (some (.inr 1030))) ⟨rfl, _, rfl⟩ ⟨by rw [hsw]; rfl, rfl⟩ rfl
    · refine b_cast (f' := (8, [some (.inr 110), some (.inl (x : Int))], [.inl 101], [A0, (moSeg 32 k f c n kp l nt w sh (p : Int) t d wa), B, (miscSeg z fs ss sp la gr tl tp), B4, A5, C6])) (congrArg (fun zz : Int => ((8, [some (.inr 110), some (.inl (x : Int))], .inl zz :: [], [A0, (moSeg 32 k f c n kp l nt w sh (p : Int) t d wa), B, (miscSeg z fs ss sp la gr tl tp), B4, A5, C6]) : aF)) hsw) ?_
      refine b_swIn (tgt := 118) okX6_formAt rfl ⟨by decide, by decide⟩ (by decide) (by decide) rfl rfl ?_
      refine b_ldcS (i := 6) okX6_formAt rfl rfl rfl ?_
      exact b_ret (v := (some (.inr 1031))) ⟨rfl, _, rfl⟩ ⟨by rw [hsw]; rfl, rfl⟩ rfl
    · refine b_cast (f' := (8, [some (.inr 110), some (.inl (x : Int))], [.inl 102], [A0, (moSeg 32 k f c n kp l nt w sh (p : Int) t d wa), B, (miscSeg z fs ss sp la gr tl tp), B4, A5, C6])) (congrArg (fun zz : Int => ((8, [some (.inr 110), some (.inl (x : Int))], .inl zz :: [], [A0, (moSeg 32 k f c n kp l nt w sh (p : Int) t d wa), B, (miscSeg z fs ss sp la gr tl tp), B4, A5, C6]) : aF)) hsw) ?_
      refine b_swIn (tgt := 118) okX6_formAt rfl ⟨by decide, by decide⟩ (by decide) (by decide) rfl rfl ?_
      refine b_ldcS (i := 6) okX6_formAt rfl rfl rfl ?_
      exact b_ret (v := (some (.inr 1031))) ⟨rfl, _, rfl⟩ ⟨by rw [hsw]; rfl, rfl⟩ rfl
    · refine b_cast (f' := (8, [some (.inr 110), some (.inl (x : Int))], [.inl 103], [A0, (moSeg 32 k f c n kp l nt w sh (p : Int) t d wa), B, (miscSeg z fs ss sp la gr tl tp), B4, A5, C6])) (congrArg (fun zz : Int => ((8, [some (.inr 110), some (.inl (x : Int))], .inl zz :: [], [A0, (moSeg 32 k f c n kp l nt w sh (p : Int) t d wa), B, (miscSeg z fs ss sp la gr tl tp), B4, A5, C6]) : aF)) hsw) ?_
      refine b_swIn (tgt := 118) okX6_formAt rfl ⟨by decide, by decide⟩ (by decide) (by decide) rfl rfl ?_
      refine b_ldcS (i := 6) okX6_formAt rfl rfl rfl ?_
      exact b_ret (v := (some (.inr 1031))) ⟨rfl, _, rfl⟩ ⟨by rw [hsw]; rfl, rfl⟩ rfl
    · refine b_cast (f' := (8, [some (.inr 110), some (.inl (x : Int))], [.inl 104], [A0, (moSeg 32 k f c n kp l nt w sh (p : Int) t d wa), B, (miscSeg z fs ss sp la gr tl tp), B4, A5, C6])) (congrArg (fun zz : Int => ((8, [some (.inr 110), some (.inl (x : Int))], .inl zz :: [], [A0, (moSeg 32 k f c n kp l nt w sh (p : Int) t d wa), B, (miscSeg z fs ss sp la gr tl tp), B4, A5, C6]) : aF)) hsw) ?_
      refine b_swIn (tgt := 118) okX6_formAt rfl ⟨by decide, by decide⟩ (by decide) (by decide) rfl rfl ?_
      refine b_ldcS (i := 6) okX6_formAt rfl rfl rfl ?_
      exact b_ret (v := (some (.inr 1031))) ⟨rfl, _, rfl⟩ ⟨by rw [hsw]; rfl, rfl⟩ rfl
    · refine b_cast (f' := (8, [some (.inr 110), some (.inl (x : Int))], [.inl 105], [A0, (moSeg 32 k f c n kp l nt w sh (p : Int) t d wa), B, (miscSeg z fs ss sp la gr tl tp), B4, A5, C6])) (congrArg (fun zz : Int => ((8, [some (.inr 110), some (.inl (x : Int))], .inl zz :: [], [A0, (moSeg 32 k f c n kp l nt w sh (p : Int) t d wa), B, (miscSeg z fs ss sp la gr tl tp), B4, A5, C6]) : aF)) hsw) ?_
      refine b_swIn (tgt := 118) okX6_formAt rfl ⟨by decide, by decide⟩ (by decide) (by decide) rfl rfl ?_
      refine b_ldcS (i := 6) okX6_formAt rfl rfl rfl ?_
      exact b_ret (v := (some (.inr 1031))) ⟨rfl, _, rfl⟩ ⟨by rw [hsw]; rfl, rfl⟩ rfl
    · refine b_cast (f' := (8, [some (.inr 110), some (.inl (x : Int))], [.inl 106], [A0, (moSeg 32 k f c n kp l nt w sh (p : Int) t d wa), B, (miscSeg z fs ss sp la gr tl tp), B4, A5, C6])) (congrArg (fun zz : Int => ((8, [some (.inr 110), some (.inl (x : Int))], .inl zz :: [], [A0, (moSeg 32 k f c n kp l nt w sh (p : Int) t d wa), B, (miscSeg z fs ss sp la gr tl tp), B4, A5, C6]) : aF)) hsw) ?_
      refine b_swIn (tgt := 118) okX6_formAt rfl ⟨by decide, by decide⟩ (by decide) (by decide) rfl rfl ?_
      refine b_ldcS (i := 6) okX6_formAt rfl rfl rfl ?_
      exact b_ret (v := (some (.inr 1031))) ⟨rfl, _, rfl⟩ ⟨by rw [hsw]; rfl, rfl⟩ rfl
    · refine b_cast (f' := (8, [some (.inr 110), some (.inl (x : Int))], [.inl 107], [A0, (moSeg 32 k f c n kp l nt w sh (p : Int) t d wa), B, (miscSeg z fs ss sp la gr tl tp), B4, A5, C6])) (congrArg (fun zz : Int => ((8, [some (.inr 110), some (.inl (x : Int))], .inl zz :: [], [A0, (moSeg 32 k f c n kp l nt w sh (p : Int) t d wa), B, (miscSeg z fs ss sp la gr tl tp), B4, A5, C6]) : aF)) hsw) ?_
      refine b_swIn (tgt := 109) okX6_formAt rfl ⟨by decide, by decide⟩ (by decide) (by decide) rfl rfl ?_
      refine b_ldcS (i := 3) okX6_formAt rfl rfl rfl ?_
      exact b_ret (v := (some (.inr 1028))) ⟨rfl, _, rfl⟩ ⟨by rw [hsw]; rfl, rfl⟩ rfl
    · refine b_cast (f' := (8, [some (.inr 110), some (.inl (x : Int))], [.inl 108], [A0, (moSeg 32 k f c n kp l nt w sh (p : Int) t d wa), B, (miscSeg z fs ss sp la gr tl tp), B4, A5, C6])) (congrArg (fun zz : Int => ((8, [some (.inr 110), some (.inl (x : Int))], .inl zz :: [], [A0, (moSeg 32 k f c n kp l nt w sh (p : Int) t d wa), B, (miscSeg z fs ss sp la gr tl tp), B4, A5, C6]) : aF)) hsw) ?_
      refine b_swIn (tgt := 106) okX6_formAt rfl ⟨by decide, by decide⟩ (by decide) (by decide) rfl rfl ?_
      refine b_ldcS (i := 2) okX6_formAt rfl rfl rfl ?_
      exact b_ret (v := (some (.inr 1027))) ⟨rfl, _, rfl⟩ ⟨by rw [hsw]; rfl, rfl⟩ rfl
    · refine b_cast (f' := (8, [some (.inr 110), some (.inl (x : Int))], [.inl 109], [A0, (moSeg 32 k f c n kp l nt w sh (p : Int) t d wa), B, (miscSeg z fs ss sp la gr tl tp), B4, A5, C6])) (congrArg (fun zz : Int => ((8, [some (.inr 110), some (.inl (x : Int))], .inl zz :: [], [A0, (moSeg 32 k f c n kp l nt w sh (p : Int) t d wa), B, (miscSeg z fs ss sp la gr tl tp), B4, A5, C6]) : aF)) hsw) ?_
      refine b_swIn (tgt := 118) okX6_formAt rfl ⟨by decide, by decide⟩ (by decide) (by decide) rfl rfl ?_
      refine b_ldcS (i := 6) okX6_formAt rfl rfl rfl ?_
      exact b_ret (v := (some (.inr 1031))) ⟨rfl, _, rfl⟩ ⟨by rw [hsw]; rfl, rfl⟩ rfl
    · refine b_cast (f' := (8, [some (.inr 110), some (.inl (x : Int))], [.inl 110], [A0, (moSeg 32 k f c n kp l nt w sh (p : Int) t d wa), B, (miscSeg z fs ss sp la gr tl tp), B4, A5, C6])) (congrArg (fun zz : Int => ((8, [some (.inr 110), some (.inl (x : Int))], .inl zz :: [], [A0, (moSeg 32 k f c n kp l nt w sh (p : Int) t d wa), B, (miscSeg z fs ss sp la gr tl tp), B4, A5, C6]) : aF)) hsw) ?_
      refine b_swIn (tgt := 118) okX6_formAt rfl ⟨by decide, by decide⟩ (by decide) (by decide) rfl rfl ?_
      refine b_ldcS (i := 6) okX6_formAt rfl rfl rfl ?_
      exact b_ret (v := (some (.inr 1031))) ⟨rfl, _, rfl⟩ ⟨by rw [hsw]; rfl, rfl⟩ rfl
    · refine b_cast (f' := (8, [some (.inr 110), some (.inl (x : Int))], [.inl 111], [A0, (moSeg 32 k f c n kp l nt w sh (p : Int) t d wa), B, (miscSeg z fs ss sp la gr tl tp), B4, A5, C6])) (congrArg (fun zz : Int => ((8, [some (.inr 110), some (.inl (x : Int))], .inl zz :: [], [A0, (moSeg 32 k f c n kp l nt w sh (p : Int) t d wa), B, (miscSeg z fs ss sp la gr tl tp), B4, A5, C6]) : aF)) hsw) ?_
      refine b_swIn (tgt := 118) okX6_formAt rfl ⟨by decide, by decide⟩ (by decide) (by decide) rfl rfl ?_
      refine b_ldcS (i := 6) okX6_formAt rfl rfl rfl ?_
      exact b_ret (v := (some (.inr 1031))) ⟨rfl, _, rfl⟩ ⟨by rw [hsw]; rfl, rfl⟩ rfl
    · refine b_cast (f' := (8, [some (.inr 110), some (.inl (x : Int))], [.inl 112], [A0, (moSeg 32 k f c n kp l nt w sh (p : Int) t d wa), B, (miscSeg z fs ss sp la gr tl tp), B4, A5, C6])) (congrArg (fun zz : Int => ((8, [some (.inr 110), some (.inl (x : Int))], .inl zz :: [], [A0, (moSeg 32 k f c n kp l nt w sh (p : Int) t d wa), B, (miscSeg z fs ss sp la gr tl tp), B4, A5, C6]) : aF)) hsw) ?_
      refine b_swIn (tgt := 100) okX6_formAt rfl ⟨by decide, by decide⟩ (by decide) (by decide) rfl rfl ?_
      refine b_ldcS (i := 0) okX6_formAt rfl rfl rfl ?_
      exact b_ret (v := (some (.inr 1025))) ⟨rfl, _, rfl⟩ ⟨by rw [hsw]; rfl, rfl⟩ rfl
    · refine b_cast (f' := (8, [some (.inr 110), some (.inl (x : Int))], [.inl 113], [A0, (moSeg 32 k f c n kp l nt w sh (p : Int) t d wa), B, (miscSeg z fs ss sp la gr tl tp), B4, A5, C6])) (congrArg (fun zz : Int => ((8, [some (.inr 110), some (.inl (x : Int))], .inl zz :: [], [A0, (moSeg 32 k f c n kp l nt w sh (p : Int) t d wa), B, (miscSeg z fs ss sp la gr tl tp), B4, A5, C6]) : aF)) hsw) ?_
      refine b_swIn (tgt := 118) okX6_formAt rfl ⟨by decide, by decide⟩ (by decide) (by decide) rfl rfl ?_
      refine b_ldcS (i := 6) okX6_formAt rfl rfl rfl ?_
      exact b_ret (v := (some (.inr 1031))) ⟨rfl, _, rfl⟩ ⟨by rw [hsw]; rfl, rfl⟩ rfl
    · refine b_cast (f' := (8, [some (.inr 110), some (.inl (x : Int))], [.inl 114], [A0, (moSeg 32 k f c n kp l nt w sh (p : Int) t d wa), B, (miscSeg z fs ss sp la gr tl tp), B4, A5, C6])) (congrArg (fun zz : Int => ((8, [some (.inr 110), some (.inl (x : Int))], .inl zz :: [], [A0, (moSeg 32 k f c n kp l nt w sh (p : Int) t d wa), B, (miscSeg z fs ss sp la gr tl tp), B4, A5, C6]) : aF)) hsw) ?_
      refine b_swIn (tgt := 118) okX6_formAt rfl ⟨by decide, by decide⟩ (by decide) (by decide) rfl rfl ?_
      refine b_ldcS (i := 6) okX6_formAt rfl rfl rfl ?_
      exact b_ret (v := (some (.inr 1031))) ⟨rfl, _, rfl⟩ ⟨by rw [hsw]; rfl, rfl⟩ rfl
    · refine b_cast (f' := (8, [some (.inr 110), some (.inl (x : Int))], [.inl 115], [A0, (moSeg 32 k f c n kp l nt w sh (p : Int) t d wa), B, (miscSeg z fs ss sp la gr tl tp), B4, A5, C6])) (congrArg (fun zz : Int => ((8, [some (.inr 110), some (.inl (x : Int))], .inl zz :: [], [A0, (moSeg 32 k f c n kp l nt w sh (p : Int) t d wa), B, (miscSeg z fs ss sp la gr tl tp), B4, A5, C6]) : aF)) hsw) ?_
      refine b_swIn (tgt := 112) okX6_formAt rfl ⟨by decide, by decide⟩ (by decide) (by decide) rfl rfl ?_
      refine b_ldcS (i := 4) okX6_formAt rfl rfl rfl ?_
      exact b_ret (v := (some (.inr 1029))) ⟨rfl, _, rfl⟩ ⟨by rw [hsw]; rfl, rfl⟩ rfl
  · refine b_swOut (tgt := 118) okX6_formAt rfl ⟨by omega, by omega⟩ (by omega) rfl ?_
    refine b_ldcS (i := 6) okX6_formAt rfl rfl rfl ?_
    exact b_ret (v := (some (.inr 1031))) ⟨rfl, _, rfl⟩ ⟨by rw [fmI_out hr], rfl⟩ rfl
set_option maxRecDepth 100000 in
set_option maxHeartbeats 4000000 in
theorem c_textKind {v : Int} (hv : 0 ≤ v ∧ v ≤ 255) : aEv mX6_kindOf 6 0 0 N [.inr 110, .inl v] [A0, (moSeg 32 k f c n kp l nt w sh (p : Int) t d wa), B, (miscSeg z fs ss sp la gr tl tp), B4, A5, C6] (aQx (some (.inl (kdF v))) [A0, (moSeg 32 k f c n kp l nt w sh (p : Int) t d wa), B, (miscSeg z fs ss sp la gr tl tp), B4, A5, C6]) := by
  refine aEv_of okX6_kindOf caX6_kindOf (Nat.le_of_ble_eq_true rfl) ?_
  refine aGo okX6_kindOf 2 (f' := (2, [some (.inr 110), some (.inl v), some (.inl 0)], [], _)) rfl ?_
  refine aGo okX6_kindOf 1 (f' := (3, [some (.inr 110), some (.inl v), some (.inl 0)], [.inl 0], _)) rfl ?_
  refine b_ldcS (i := 7) okX6_kindOf rfl rfl rfl ?_
  refine b_vZ (i := 7) (as := []) (rest := [.inl 0]) (.inl 6) okX6_kindOf rfl lkX6_40 caJ0_length_8abf5 (Nat.le_of_ble_eq_true rfl) rfl (Nat.le_of_ble_eq_true rfl) (by decide) rfl rfl (c_strLenV (i := 7) (L := 6) (by decide) (by decide)) ?_
  refine b_ge (tgt := 29) okX6_kindOf rfl rfl ⟨by omega, by omega⟩ ⟨by omega, by omega⟩ (fun h8 => absurd h8 (by omega)) (fun h8 => ?_)
  refine b_ldcS (i := 7) okX6_kindOf rfl rfl rfl ?_
  refine aGo okX6_kindOf 1 (f' := (14, [some (.inr 110), some (.inl v), some (.inl 0)], [.inl 0, .inr 1032], _)) rfl ?_
  refine b_vZ (i := 7) (as := [.inl 0]) (rest := []) (.inl 112) okX6_kindOf rfl lkX6_58 caJ0_charAt_5068e (Nat.le_of_ble_eq_true rfl) rfl (Nat.le_of_ble_eq_true rfl) (by decide) rfl rfl (c_strAtV (i := 7) (j := 0) (C := 112) (by decide) (by decide) (by decide +kernel)) ?_
  refine aGo okX6_kindOf 1 (f' := (18, [some (.inr 110), some (.inl v), some (.inl 0)], [.inl v, .inl 112], _)) rfl ?_
  refine b_ne (tgt := 23) okX6_kindOf rfl rfl ⟨by omega, by omega⟩ ⟨by omega, by omega⟩ (fun h18 => ?_) (fun h18 => ?_)
  · refine aGo okX6_kindOf 2 (f' := (2, [some (.inr 110), some (.inl v), some (.inl (0 + 1))], [], _)) rfl ?_
    refine b_cast (f' := (2, [some (.inr 110), some (.inl v), some (.inl 1)], [], [A0, (moSeg 32 k f c n kp l nt w sh (p : Int) t d wa), B, (miscSeg z fs ss sp la gr tl tp), B4, A5, C6])) rfl ?_
    refine aGo okX6_kindOf 1 (f' := (3, [some (.inr 110), some (.inl v), some (.inl 1)], [.inl 1], _)) rfl ?_
    refine b_ldcS (i := 7) okX6_kindOf rfl rfl rfl ?_
    refine b_vZ (i := 7) (as := []) (rest := [.inl 1]) (.inl 6) okX6_kindOf rfl lkX6_40 caJ0_length_8abf5 (Nat.le_of_ble_eq_true rfl) rfl (Nat.le_of_ble_eq_true rfl) (by decide) rfl rfl (c_strLenV (i := 7) (L := 6) (by decide) (by decide)) ?_
    refine b_ge (tgt := 29) okX6_kindOf rfl rfl ⟨by omega, by omega⟩ ⟨by omega, by omega⟩ (fun h8 => absurd h8 (by omega)) (fun h8 => ?_)
    refine b_ldcS (i := 7) okX6_kindOf rfl rfl rfl ?_
    refine aGo okX6_kindOf 1 (f' := (14, [some (.inr 110), some (.inl v), some (.inl 1)], [.inl 1, .inr 1032], _)) rfl ?_
    refine b_vZ (i := 7) (as := [.inl 1]) (rest := []) (.inl 115) okX6_kindOf rfl lkX6_58 caJ0_charAt_5068e (Nat.le_of_ble_eq_true rfl) rfl (Nat.le_of_ble_eq_true rfl) (by decide) rfl rfl (c_strAtV (i := 7) (j := 1) (C := 115) (by decide) (by decide) (by decide +kernel)) ?_
    refine aGo okX6_kindOf 1 (f' := (18, [some (.inr 110), some (.inl v), some (.inl 1)], [.inl v, .inl 115], _)) rfl ?_
    refine b_ne (tgt := 23) okX6_kindOf rfl rfl ⟨by omega, by omega⟩ ⟨by omega, by omega⟩ (fun h18 => ?_) (fun h18 => ?_)
    · refine aGo okX6_kindOf 2 (f' := (2, [some (.inr 110), some (.inl v), some (.inl (1 + 1))], [], _)) rfl ?_
      refine b_cast (f' := (2, [some (.inr 110), some (.inl v), some (.inl 2)], [], [A0, (moSeg 32 k f c n kp l nt w sh (p : Int) t d wa), B, (miscSeg z fs ss sp la gr tl tp), B4, A5, C6])) rfl ?_
      refine aGo okX6_kindOf 1 (f' := (3, [some (.inr 110), some (.inl v), some (.inl 2)], [.inl 2], _)) rfl ?_
      refine b_ldcS (i := 7) okX6_kindOf rfl rfl rfl ?_
      refine b_vZ (i := 7) (as := []) (rest := [.inl 2]) (.inl 6) okX6_kindOf rfl lkX6_40 caJ0_length_8abf5 (Nat.le_of_ble_eq_true rfl) rfl (Nat.le_of_ble_eq_true rfl) (by decide) rfl rfl (c_strLenV (i := 7) (L := 6) (by decide) (by decide)) ?_
      refine b_ge (tgt := 29) okX6_kindOf rfl rfl ⟨by omega, by omega⟩ ⟨by omega, by omega⟩ (fun h8 => absurd h8 (by omega)) (fun h8 => ?_)
      refine b_ldcS (i := 7) okX6_kindOf rfl rfl rfl ?_
      refine aGo okX6_kindOf 1 (f' := (14, [some (.inr 110), some (.inl v), some (.inl 2)], [.inl 2, .inr 1032], _)) rfl ?_
      refine b_vZ (i := 7) (as := [.inl 2]) (rest := []) (.inl 119) okX6_kindOf rfl lkX6_58 caJ0_charAt_5068e (Nat.le_of_ble_eq_true rfl) rfl (Nat.le_of_ble_eq_true rfl) (by decide) rfl rfl (c_strAtV (i := 7) (j := 2) (C := 119) (by decide) (by decide) (by decide +kernel)) ?_
      refine aGo okX6_kindOf 1 (f' := (18, [some (.inr 110), some (.inl v), some (.inl 2)], [.inl v, .inl 119], _)) rfl ?_
      refine b_ne (tgt := 23) okX6_kindOf rfl rfl ⟨by omega, by omega⟩ ⟨by omega, by omega⟩ (fun h18 => ?_) (fun h18 => ?_)
      · refine aGo okX6_kindOf 2 (f' := (2, [some (.inr 110), some (.inl v), some (.inl (2 + 1))], [], _)) rfl ?_
        refine b_cast (f' := (2, [some (.inr 110), some (.inl v), some (.inl 3)], [], [A0, (moSeg 32 k f c n kp l nt w sh (p : Int) t d wa), B, (miscSeg z fs ss sp la gr tl tp), B4, A5, C6])) rfl ?_
        refine aGo okX6_kindOf 1 (f' := (3, [some (.inr 110), some (.inl v), some (.inl 3)], [.inl 3], _)) rfl ?_
        refine b_ldcS (i := 7) okX6_kindOf rfl rfl rfl ?_
        refine b_vZ (i := 7) (as := []) (rest := [.inl 3]) (.inl 6) okX6_kindOf rfl lkX6_40 caJ0_length_8abf5 (Nat.le_of_ble_eq_true rfl) rfl (Nat.le_of_ble_eq_true rfl) (by decide) rfl rfl (c_strLenV (i := 7) (L := 6) (by decide) (by decide)) ?_
        refine b_ge (tgt := 29) okX6_kindOf rfl rfl ⟨by omega, by omega⟩ ⟨by omega, by omega⟩ (fun h8 => absurd h8 (by omega)) (fun h8 => ?_)
        refine b_ldcS (i := 7) okX6_kindOf rfl rfl rfl ?_
        refine aGo okX6_kindOf 1 (f' := (14, [some (.inr 110), some (.inl v), some (.inl 3)], [.inl 3, .inr 1032], _)) rfl ?_
        refine b_vZ (i := 7) (as := [.inl 3]) (rest := []) (.inl 99) okX6_kindOf rfl lkX6_58 caJ0_charAt_5068e (Nat.le_of_ble_eq_true rfl) rfl (Nat.le_of_ble_eq_true rfl) (by decide) rfl rfl (c_strAtV (i := 7) (j := 3) (C := 99) (by decide) (by decide) (by decide +kernel)) ?_
        refine aGo okX6_kindOf 1 (f' := (18, [some (.inr 110), some (.inl v), some (.inl 3)], [.inl v, .inl 99], _)) rfl ?_
        refine b_ne (tgt := 23) okX6_kindOf rfl rfl ⟨by omega, by omega⟩ ⟨by omega, by omega⟩ (fun h18 => ?_) (fun h18 => ?_)
        · refine aGo okX6_kindOf 2 (f' := (2, [some (.inr 110), some (.inl v), some (.inl (3 + 1))], [], _)) rfl ?_
          refine b_cast (f' := (2, [some (.inr 110), some (.inl v), some (.inl 4)], [], [A0, (moSeg 32 k f c n kp l nt w sh (p : Int) t d wa), B, (miscSeg z fs ss sp la gr tl tp), B4, A5, C6])) rfl ?_
          refine aGo okX6_kindOf 1 (f' := (3, [some (.inr 110), some (.inl v), some (.inl 4)], [.inl 4], _)) rfl ?_
          refine b_ldcS (i := 7) okX6_kindOf rfl rfl rfl ?_
          refine b_vZ (i := 7) (as := []) (rest := [.inl 4]) (.inl 6) okX6_kindOf rfl lkX6_40 caJ0_length_8abf5 (Nat.le_of_ble_eq_true rfl) rfl (Nat.le_of_ble_eq_true rfl) (by decide) rfl rfl (c_strLenV (i := 7) (L := 6) (by decide) (by decide)) ?_
          refine b_ge (tgt := 29) okX6_kindOf rfl rfl ⟨by omega, by omega⟩ ⟨by omega, by omega⟩ (fun h8 => absurd h8 (by omega)) (fun h8 => ?_)
          refine b_ldcS (i := 7) okX6_kindOf rfl rfl rfl ?_
          refine aGo okX6_kindOf 1 (f' := (14, [some (.inr 110), some (.inl v), some (.inl 4)], [.inl 4, .inr 1032], _)) rfl ?_
          refine b_vZ (i := 7) (as := [.inl 4]) (rest := []) (.inl 111) okX6_kindOf rfl lkX6_58 caJ0_charAt_5068e (Nat.le_of_ble_eq_true rfl) rfl (Nat.le_of_ble_eq_true rfl) (by decide) rfl rfl (c_strAtV (i := 7) (j := 4) (C := 111) (by decide) (by decide) (by decide +kernel)) ?_
          refine aGo okX6_kindOf 1 (f' := (18, [some (.inr 110), some (.inl v), some (.inl 4)], [.inl v, .inl 111], _)) rfl ?_
          refine b_ne (tgt := 23) okX6_kindOf rfl rfl ⟨by omega, by omega⟩ ⟨by omega, by omega⟩ (fun h18 => ?_) (fun h18 => ?_)
          · refine aGo okX6_kindOf 2 (f' := (2, [some (.inr 110), some (.inl v), some (.inl (4 + 1))], [], _)) rfl ?_
            refine b_cast (f' := (2, [some (.inr 110), some (.inl v), some (.inl 5)], [], [A0, (moSeg 32 k f c n kp l nt w sh (p : Int) t d wa), B, (miscSeg z fs ss sp la gr tl tp), B4, A5, C6])) rfl ?_
            refine aGo okX6_kindOf 1 (f' := (3, [some (.inr 110), some (.inl v), some (.inl 5)], [.inl 5], _)) rfl ?_
            refine b_ldcS (i := 7) okX6_kindOf rfl rfl rfl ?_
            refine b_vZ (i := 7) (as := []) (rest := [.inl 5]) (.inl 6) okX6_kindOf rfl lkX6_40 caJ0_length_8abf5 (Nat.le_of_ble_eq_true rfl) rfl (Nat.le_of_ble_eq_true rfl) (by decide) rfl rfl (c_strLenV (i := 7) (L := 6) (by decide) (by decide)) ?_
            refine b_ge (tgt := 29) okX6_kindOf rfl rfl ⟨by omega, by omega⟩ ⟨by omega, by omega⟩ (fun h8 => absurd h8 (by omega)) (fun h8 => ?_)
            refine b_ldcS (i := 7) okX6_kindOf rfl rfl rfl ?_
            refine aGo okX6_kindOf 1 (f' := (14, [some (.inr 110), some (.inl v), some (.inl 5)], [.inl 5, .inr 1032], _)) rfl ?_
            refine b_vZ (i := 7) (as := [.inl 5]) (rest := []) (.inl 110) okX6_kindOf rfl lkX6_58 caJ0_charAt_5068e (Nat.le_of_ble_eq_true rfl) rfl (Nat.le_of_ble_eq_true rfl) (by decide) rfl rfl (c_strAtV (i := 7) (j := 5) (C := 110) (by decide) (by decide) (by decide +kernel)) ?_
            refine aGo okX6_kindOf 1 (f' := (18, [some (.inr 110), some (.inl v), some (.inl 5)], [.inl v, .inl 110], _)) rfl ?_
            refine b_ne (tgt := 23) okX6_kindOf rfl rfl ⟨by omega, by omega⟩ ⟨by omega, by omega⟩ (fun h18 => ?_) (fun h18 => ?_)
            · refine aGo okX6_kindOf 2 (f' := (2, [some (.inr 110), some (.inl v), some (.inl (5 + 1))], [], _)) rfl ?_
              refine b_cast (f' := (2, [some (.inr 110), some (.inl v), some (.inl 6)], [], [A0, (moSeg 32 k f c n kp l nt w sh (p : Int) t d wa), B, (miscSeg z fs ss sp la gr tl tp), B4, A5, C6])) rfl ?_
              refine aGo okX6_kindOf 1 (f' := (3, [some (.inr 110), some (.inl v), some (.inl 6)], [.inl 6], _)) rfl ?_
              refine b_ldcS (i := 7) okX6_kindOf rfl rfl rfl ?_
              refine b_vZ (i := 7) (as := []) (rest := [.inl 6]) (.inl 6) okX6_kindOf rfl lkX6_40 caJ0_length_8abf5 (Nat.le_of_ble_eq_true rfl) rfl (Nat.le_of_ble_eq_true rfl) (by decide) rfl rfl (c_strLenV (i := 7) (L := 6) (by decide) (by decide)) ?_
              refine b_ge (tgt := 29) okX6_kindOf rfl rfl ⟨by omega, by omega⟩ ⟨by omega, by omega⟩ (fun h8 => ?_) (fun h8 => absurd h8 (by omega))
              refine aGo okX6_kindOf 1 (f' := (30, [some (.inr 110), some (.inl v), some (.inl 6)], [.inl (-1)], _)) rfl ?_
              exact b_ret (v := (some (.inl (-1)))) ⟨rfl, Or.inl rfl⟩ ⟨by rw [kdF_no ⟨by omega, by omega, by omega, by omega, by omega, by omega⟩], rfl⟩ rfl
            · refine aGo okX6_kindOf 1 (f' := (22, [some (.inr 110), some (.inl v), some (.inl 5)], [.inl 5], _)) rfl ?_
              exact b_ret (v := (some (.inl 5))) ⟨rfl, Or.inl rfl⟩ ⟨by rw [kdF_at5 (by omega)], rfl⟩ rfl
          · refine aGo okX6_kindOf 1 (f' := (22, [some (.inr 110), some (.inl v), some (.inl 4)], [.inl 4], _)) rfl ?_
            exact b_ret (v := (some (.inl 4))) ⟨rfl, Or.inl rfl⟩ ⟨by rw [kdF_at4 (by omega)], rfl⟩ rfl
        · refine aGo okX6_kindOf 1 (f' := (22, [some (.inr 110), some (.inl v), some (.inl 3)], [.inl 3], _)) rfl ?_
          exact b_ret (v := (some (.inl 3))) ⟨rfl, Or.inl rfl⟩ ⟨by rw [kdF_at3 (by omega)], rfl⟩ rfl
      · refine aGo okX6_kindOf 1 (f' := (22, [some (.inr 110), some (.inl v), some (.inl 2)], [.inl 2], _)) rfl ?_
        exact b_ret (v := (some (.inl 2))) ⟨rfl, Or.inl rfl⟩ ⟨by rw [kdF_at2 (by omega)], rfl⟩ rfl
    · refine aGo okX6_kindOf 1 (f' := (22, [some (.inr 110), some (.inl v), some (.inl 1)], [.inl 1], _)) rfl ?_
      exact b_ret (v := (some (.inl 1))) ⟨rfl, Or.inl rfl⟩ ⟨by rw [kdF_at1 (by omega)], rfl⟩ rfl
  · refine aGo okX6_kindOf 1 (f' := (22, [some (.inr 110), some (.inl v), some (.inl 0)], [.inl 0], _)) rfl ?_
    exact b_ret (v := (some (.inl 0))) ⟨rfl, Or.inl rfl⟩ ⟨by rw [kdF_at0 (by omega)], rfl⟩ rfl
set_option maxRecDepth 100000 in
set_option maxHeartbeats 4000000 in
theorem c_fits_d {v : Int} (hv : 0 ≤ v ∧ v ≤ 255) : aEv mX6_fits 7 0 0 N [.inr 110, .inl v, .inl 48] [A0, (moSeg 32 k f c n kp l nt w sh (p : Int) t d wa), B, (miscSeg z fs ss sp la gr tl tp), B4, A5, C6] (aQx (some (.inl (fitI v 48))) [A0, (moSeg 32 k f c n kp l nt w sh (p : Int) t d wa), B, (miscSeg z fs ss sp la gr tl tp), B4, A5, C6]) := by
  refine aEv_of okX6_fits caX6_fits (Nat.le_of_ble_eq_true rfl) ?_
  refine aGo okX6_fits 1 (f' := (1, [some (.inr 110), some (.inl v), some (.inl 48)], [.inl 48], _)) rfl ?_
  refine b_look (tgt := 28) okX6_fits rfl (by decide) ⟨by decide, by decide⟩ rfl rfl ?_
  refine aGo okX6_fits 2 (f' := (31, [some (.inr 110), some (.inl v), some (.inl 48)], [.inl 48, .inl v], _)) rfl ?_
  refine b_lt (tgt := 44) okX6_fits rfl rfl ⟨by omega, by omega⟩ ⟨by omega, by omega⟩ (fun h31 => ?_) (fun h31 => ?_)
  · refine aGo okX6_fits 1 (f' := (45, [some (.inr 110), some (.inl v), some (.inl 48)], [.inl 0], _)) rfl ?_
    exact b_ret (v := (some (.inl 0))) ⟨rfl, Or.inr ⟨rfl, Or.inl rfl⟩⟩ ⟨by rw [fit_d0 (by omega)], rfl⟩ rfl
  · refine aGo okX6_fits 2 (f' := (37, [some (.inr 110), some (.inl v), some (.inl 48)], [.inl 57, .inl v], _)) rfl ?_
    refine b_gt (tgt := 44) okX6_fits rfl rfl ⟨by omega, by omega⟩ ⟨by omega, by omega⟩ (fun h37 => ?_) (fun h37 => ?_)
    · refine aGo okX6_fits 1 (f' := (45, [some (.inr 110), some (.inl v), some (.inl 48)], [.inl 0], _)) rfl ?_
      exact b_ret (v := (some (.inl 0))) ⟨rfl, Or.inr ⟨rfl, Or.inl rfl⟩⟩ ⟨by rw [fit_d0 (by omega)], rfl⟩ rfl
    · refine aGo okX6_fits 2 (f' := (45, [some (.inr 110), some (.inl v), some (.inl 48)], [.inl 1], _)) rfl ?_
      exact b_ret (v := (some (.inl 1))) ⟨rfl, Or.inr ⟨rfl, Or.inr rfl⟩⟩ ⟨by rw [fit_d1 (by omega)], rfl⟩ rfl
set_option maxRecDepth 100000 in
set_option maxHeartbeats 4000000 in
theorem c_fits_k {v : Int} (hv : 0 ≤ v ∧ v ≤ 255) : aEv mX6_fits 7 0 0 N [.inr 110, .inl v, .inl 63] [A0, (moSeg 32 k f c n kp l nt w sh (p : Int) t d wa), B, (miscSeg z fs ss sp la gr tl tp), B4, A5, C6] (aQx (some (.inl (fitI v 63))) [A0, (moSeg 32 k f c n kp l nt w sh (p : Int) t d wa), B, (miscSeg z fs ss sp la gr tl tp), B4, A5, C6]) := by
  refine aEv_of okX6_fits caX6_fits (Nat.le_of_ble_eq_true rfl) ?_
  refine aGo okX6_fits 1 (f' := (1, [some (.inr 110), some (.inl v), some (.inl 63)], [.inl 63], _)) rfl ?_
  refine b_look (tgt := 46) okX6_fits rfl (by decide) ⟨by decide, by decide⟩ rfl rfl ?_
  refine aGo okX6_fits 2 (f' := (48, [some (.inr 110), some (.inl v), some (.inl 63)], [.inl v, .inr 110], _)) rfl ?_
  refine b_vE (as := [.inl v]) (rest := []) (k := 110) okX6_fits rfl lkX6_80 caX6_kindOf (Nat.le_of_ble_eq_true rfl) rfl (Nat.le_of_ble_eq_true rfl) rfl rfl rfl (c_textKind hv) ?_
  rintro _ _ ⟨rfl, rfl⟩
  have e1 := kdF_le v
  refine b0_lt (tgt := 58) okX6_fits rfl rfl ⟨by omega, by omega⟩ (fun h51 => ?_) (fun h51 => ?_)
  · refine aGo okX6_fits 1 (f' := (59, [some (.inr 110), some (.inl v), some (.inl 63)], [.inl 0], _)) rfl ?_
    exact b_ret (v := (some (.inl 0))) ⟨rfl, Or.inr ⟨rfl, Or.inl rfl⟩⟩ ⟨by rw [fit_k0 (by omega)], rfl⟩ rfl
  · refine aGo okX6_fits 2 (f' := (59, [some (.inr 110), some (.inl v), some (.inl 63)], [.inl 1], _)) rfl ?_
    exact b_ret (v := (some (.inl 1))) ⟨rfl, Or.inr ⟨rfl, Or.inr rfl⟩⟩ ⟨by rw [fit_k1 (by omega)], rfl⟩ rfl
set_option maxRecDepth 100000 in
set_option maxHeartbeats 4000000 in
theorem c_fits_e {v : Int} (hv : 0 ≤ v ∧ v ≤ 255) : aEv mX6_fits 7 0 0 N [.inr 110, .inl v, .inl 59] [A0, (moSeg 32 k f c n kp l nt w sh (p : Int) t d wa), B, (miscSeg z fs ss sp la gr tl tp), B4, A5, C6] (aQx (some (.inl (fitI v 59))) [A0, (moSeg 32 k f c n kp l nt w sh (p : Int) t d wa), B, (miscSeg z fs ss sp la gr tl tp), B4, A5, C6]) := by
  refine aEv_of okX6_fits caX6_fits (Nat.le_of_ble_eq_true rfl) ?_
  refine aGo okX6_fits 1 (f' := (1, [some (.inr 110), some (.inl v), some (.inl 59)], [.inl 59], _)) rfl ?_
  refine b_look (tgt := 60) okX6_fits rfl (by decide) ⟨by decide, by decide⟩ rfl rfl ?_
  refine aGo okX6_fits 2 (f' := (62, [some (.inr 110), some (.inl v), some (.inl 59)], [.inl 59, .inl v], _)) rfl ?_
  refine b_ne (tgt := 69) okX6_fits rfl rfl ⟨by omega, by omega⟩ ⟨by omega, by omega⟩ (fun h62 => ?_) (fun h62 => ?_)
  · refine aGo okX6_fits 1 (f' := (70, [some (.inr 110), some (.inl v), some (.inl 59)], [.inl 0], _)) rfl ?_
    exact b_ret (v := (some (.inl 0))) ⟨rfl, Or.inr ⟨rfl, Or.inl rfl⟩⟩ ⟨by rw [fit_e0 (by omega)], rfl⟩ rfl
  · refine aGo okX6_fits 2 (f' := (70, [some (.inr 110), some (.inl v), some (.inl 59)], [.inl 1], _)) rfl ?_
    exact b_ret (v := (some (.inl 1))) ⟨rfl, Or.inr ⟨rfl, Or.inr rfl⟩⟩ ⟨by rw [fit_e1 (by omega)], rfl⟩ rfl
set_option maxRecDepth 100000 in
set_option maxHeartbeats 4000000 in
theorem c_number {x m : Nat} (hx : x ≤ 200) (hm : m ≤ 4) (htp : tp.length = 96) : aEv mX6_number 1 0 0 N [.inr 110, .inl (x : Int), .inl (m : Int)] [A0, (moSeg 32 k f c n kp l nt w sh (p : Int) t d wa), B, (miscSeg z fs ss sp la gr tl tp), B4, A5, C6] ((aQx (some (.inl (numL tp x m))) [A0, (moSeg 32 k f c n kp l nt w sh (p : Int) t d wa), B, (miscSeg z fs ss sp la gr tl tp), B4, A5, C6])) := by
  refine aEv_of okX6_number caX6_number (Nat.le_of_ble_eq_true rfl) ?_
  have lp : ∀ (j i : Nat), i + j = m → AW mX6_number 1 0 0 N none (aQx (some (.inl (numL tp x m))) [A0, (moSeg 32 k f c n kp l nt w sh (p : Int) t d wa), B, (miscSeg z fs ss sp la gr tl tp), B4, A5, C6]) (5, [some (.inr 110), some (.inl (x : Int)), some (.inl (m : Int)), some (.inl (numL tp x i)), some (.inl (i : Int))], [], [A0, (moSeg 32 k f c n kp l nt w sh (p : Int) t d wa), B, (miscSeg z fs ss sp la gr tl tp), B4, A5, C6]) := by
    intro j
    induction j with
    | zero =>
      intro i  hij 
      obtain rfl : m = i := by omega
      refine aGo okX6_number 2 (f' := (8, [some (.inr 110), some (.inl (x : Int)), some (.inl (m : Int)), some (.inl (numL tp x m)), some (.inl (m : Int))], [.inl (m : Int), .inl (m : Int)], _)) rfl ?_
      refine b_ge (tgt := 37) okX6_number rfl rfl ⟨by omega, by omega⟩ ⟨by omega, by omega⟩ (fun h8 => ?_) (fun h8 => absurd h8 (by omega))
      refine aGo okX6_number 1 (f' := (38, [some (.inr 110), some (.inl (x : Int)), some (.inl (m : Int)), some (.inl (numL tp x m)), some (.inl (m : Int))], [.inl (numL tp x m)], _)) rfl ?_
      exact b_ret (v := (some (.inl (numL tp x m)))) ⟨rfl, Or.inl rfl⟩ ⟨rfl, rfl⟩ rfl
    | succ j ih =>
      intro i  hij 
      refine aGo okX6_number 2 (f' := (8, [some (.inr 110), some (.inl (x : Int)), some (.inl (m : Int)), some (.inl (numL tp x i)), some (.inl (i : Int))], [.inl (m : Int), .inl (i : Int)], _)) rfl ?_
      refine b_ge (tgt := 37) okX6_number rfl rfl ⟨by omega, by omega⟩ ⟨by omega, by omega⟩ (fun h8 => absurd h8 (by omega)) (fun h8 => ?_)
      refine aGo okX6_number 8 (f' := (23, [some (.inr 110), some (.inl (x : Int)), some (.inl (m : Int)), some (.inl (numL tp x i)), some (.inl (i : Int))], [.inl ((x : Int) + (i : Int)), .inr 111, .inl (10 * (numL tp x i))], _)) rfl ?_
      refine b_vV (as := [.inl ((x : Int) + (i : Int))]) (rest := [.inl (10 * (numL tp x i))]) (k := 111) (.inl (tp.getD (x + i) 0)) okX6_number rfl lkX6_54 caX4_at (Nat.le_of_ble_eq_true rfl) rfl (Nat.le_of_ble_eq_true rfl) rfl rfl rfl (c_at (i := (x + i)) rfl rfl (by first | omega | (simp only [List.length_set]; omega)) (by omega)) ?_
      refine aGo okX6_number 6 (f' := (5, [some (.inr 110), some (.inl (x : Int)), some (.inl (m : Int)), some (.inl (((10 * (numL tp x i)) + (tp.getD (x + i) 0)) - 48)), some (.inl ((i : Int) + 1))], [], _)) rfl ?_
      refine b_cast (f' := (5, [some (.inr 110), some (.inl (x : Int)), some (.inl (m : Int)), some (.inl (numL tp x (i + 1))), some (.inl ((i : Int) + 1))], [], [A0, (moSeg 32 k f c n kp l nt w sh (p : Int) t d wa), B, (miscSeg z fs ss sp la gr tl tp), B4, A5, C6])) (congrArg (fun q : Int => ((5, [some (.inr 110), some (.inl (x : Int)), some (.inl (m : Int)), some (.inl q), some (.inl ((i : Int) + 1))], [], [A0, (moSeg 32 k f c n kp l nt w sh (p : Int) t d wa), B, (miscSeg z fs ss sp la gr tl tp), B4, A5, C6]) : aF)) (rfl)) ?_
      exact ih (i + 1) (by omega)
  refine aGo okX6_number 4 (f' := (5, [some (.inr 110), some (.inl (x : Int)), some (.inl (m : Int)), some (.inl 0), some (.inl 0)], [], _)) rfl ?_
  exact lp m 0 (by omega)
end ATX
