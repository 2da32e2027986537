/-! The reference: small methods; laid by gen_mod.py -/
theorem c_isIn_t {N : Nat} {hH : aH} {x : Int} {y : Int} {z : Int} (hx : aI x) (hy : aI y) (hz : aI z) (h : y ≤ x ∧ x ≤ z) : aEx mX8_isIn 0 N [.inl x, .inl y, .inl z] hH (some (.inl (1))) hH := by
  refine aEv_of okX8_isIn caX8_isIn (Nat.le_of_ble_eq_true rfl) ?_
  obtain ⟨hx1, hx2⟩ := hx
  obtain ⟨hy1, hy2⟩ := hy
  obtain ⟨hz1, hz2⟩ := hz
  refine aGo okX8_isIn 2 (f' := (2, [some (.inl x), some (.inl y), some (.inl z)], [.inl y, .inl x], _)) rfl ?_
  refine b_lt (tgt := 14) okX8_isIn rfl rfl ⟨by omega, by omega⟩ ⟨by omega, by omega⟩ (fun h2 => absurd h2 (by omega)) (fun h2 => ?_)
  refine aGo okX8_isIn 2 (f' := (7, [some (.inl x), some (.inl y), some (.inl z)], [.inl z, .inl x], _)) rfl ?_
  refine b_gt (tgt := 14) okX8_isIn rfl rfl ⟨by omega, by omega⟩ ⟨by omega, by omega⟩ (fun h7 => absurd h7 (by omega)) (fun h7 => ?_)
  refine aGo okX8_isIn 2 (f' := (15, [some (.inl x), some (.inl y), some (.inl z)], [.inl 1], _)) rfl ?_
  exact b_ret (v := (some (.inl 1))) ⟨rfl, Or.inr ⟨rfl, Or.inr rfl⟩⟩ ⟨rfl, rfl⟩ rfl
theorem c_isIn_f {N : Nat} {hH : aH} {x : Int} {y : Int} {z : Int} (hx : aI x) (hy : aI y) (hz : aI z) (h : ¬ (y ≤ x ∧ x ≤ z)) : aEx mX8_isIn 0 N [.inl x, .inl y, .inl z] hH (some (.inl (0))) hH := by
  refine aEv_of okX8_isIn caX8_isIn (Nat.le_of_ble_eq_true rfl) ?_
  obtain ⟨hx1, hx2⟩ := hx
  obtain ⟨hy1, hy2⟩ := hy
  obtain ⟨hz1, hz2⟩ := hz
  refine aGo okX8_isIn 2 (f' := (2, [some (.inl x), some (.inl y), some (.inl z)], [.inl y, .inl x], _)) rfl ?_
  refine b_lt (tgt := 14) okX8_isIn rfl rfl ⟨by omega, by omega⟩ ⟨by omega, by omega⟩ (fun h2 => ?_) (fun h2 => ?_)
  · refine aGo okX8_isIn 1 (f' := (15, [some (.inl x), some (.inl y), some (.inl z)], [.inl 0], _)) rfl ?_
    exact b_ret (v := (some (.inl 0))) ⟨rfl, Or.inr ⟨rfl, Or.inl rfl⟩⟩ ⟨rfl, rfl⟩ rfl
  · refine aGo okX8_isIn 2 (f' := (7, [some (.inl x), some (.inl y), some (.inl z)], [.inl z, .inl x], _)) rfl ?_
    refine b_gt (tgt := 14) okX8_isIn rfl rfl ⟨by omega, by omega⟩ ⟨by omega, by omega⟩ (fun h7 => ?_) (fun h7 => absurd h7 (by omega))
    refine aGo okX8_isIn 1 (f' := (15, [some (.inl x), some (.inl y), some (.inl z)], [.inl 0], _)) rfl ?_
    exact b_ret (v := (some (.inl 0))) ⟨rfl, Or.inr ⟨rfl, Or.inl rfl⟩⟩ ⟨rfl, rfl⟩ rfl
theorem c_bound_l {N : Nat} {hH : aH} {x : Int} {y : Int} {z : Int} (hx : aI x) (hy : aI y) (hz : aI z) (h : x < y) : aEx mX8_bound 0 N [.inl x, .inl y, .inl z] hH (some (.inl (-4))) hH := by
  refine aEv_of okX8_bound caX8_bound (Nat.le_of_ble_eq_true rfl) ?_
  obtain ⟨hx1, hx2⟩ := hx
  obtain ⟨hy1, hy2⟩ := hy
  obtain ⟨hz1, hz2⟩ := hz
  refine aGo okX8_bound 2 (f' := (2, [some (.inl x), some (.inl y), some (.inl z)], [.inl y, .inl x], _)) rfl ?_
  refine b_ge (tgt := 10) okX8_bound rfl rfl ⟨by omega, by omega⟩ ⟨by omega, by omega⟩ (fun h2 => absurd h2 (by omega)) (fun h2 => ?_)
  refine aGo okX8_bound 2 (f' := (21, [some (.inl x), some (.inl y), some (.inl z)], [.inl (-4)], _)) rfl ?_
  exact b_ret (v := (some (.inl (-4)))) ⟨rfl, Or.inl rfl⟩ ⟨rfl, rfl⟩ rfl
theorem c_bound_h {N : Nat} {hH : aH} {x : Int} {y : Int} {z : Int} (hx : aI x) (hy : aI y) (hz : aI z) (h1 : ¬ x < y) (h : z < x) : aEx mX8_bound 0 N [.inl x, .inl y, .inl z] hH (some (.inl (-6))) hH := by
  refine aEv_of okX8_bound caX8_bound (Nat.le_of_ble_eq_true rfl) ?_
  obtain ⟨hx1, hx2⟩ := hx
  obtain ⟨hy1, hy2⟩ := hy
  obtain ⟨hz1, hz2⟩ := hz
  refine aGo okX8_bound 2 (f' := (2, [some (.inl x), some (.inl y), some (.inl z)], [.inl y, .inl x], _)) rfl ?_
  refine b_ge (tgt := 10) okX8_bound rfl rfl ⟨by omega, by omega⟩ ⟨by omega, by omega⟩ (fun h2 => ?_) (fun h2 => absurd h2 (by omega))
  refine aGo okX8_bound 2 (f' := (12, [some (.inl x), some (.inl y), some (.inl z)], [.inl z, .inl x], _)) rfl ?_
  refine b_le (tgt := 20) okX8_bound rfl rfl ⟨by omega, by omega⟩ ⟨by omega, by omega⟩ (fun h12 => absurd h12 (by omega)) (fun h12 => ?_)
  refine aGo okX8_bound 2 (f' := (21, [some (.inl x), some (.inl y), some (.inl z)], [.inl (-6)], _)) rfl ?_
  exact b_ret (v := (some (.inl (-6)))) ⟨rfl, Or.inl rfl⟩ ⟨rfl, rfl⟩ rfl
theorem c_bound_m {N : Nat} {hH : aH} {x : Int} {y : Int} {z : Int} (hx : aI x) (hy : aI y) (hz : aI z) (h : y ≤ x ∧ x ≤ z) : aEx mX8_bound 0 N [.inl x, .inl y, .inl z] hH (some (.inl (0))) hH := by
  refine aEv_of okX8_bound caX8_bound (Nat.le_of_ble_eq_true rfl) ?_
  obtain ⟨hx1, hx2⟩ := hx
  obtain ⟨hy1, hy2⟩ := hy
  obtain ⟨hz1, hz2⟩ := hz
  refine aGo okX8_bound 2 (f' := (2, [some (.inl x), some (.inl y), some (.inl z)], [.inl y, .inl x], _)) rfl ?_
  refine b_ge (tgt := 10) okX8_bound rfl rfl ⟨by omega, by omega⟩ ⟨by omega, by omega⟩ (fun h2 => ?_) (fun h2 => absurd h2 (by omega))
  refine aGo okX8_bound 2 (f' := (12, [some (.inl x), some (.inl y), some (.inl z)], [.inl z, .inl x], _)) rfl ?_
  refine b_le (tgt := 20) okX8_bound rfl rfl ⟨by omega, by omega⟩ ⟨by omega, by omega⟩ (fun h12 => ?_) (fun h12 => absurd h12 (by omega))
  refine aGo okX8_bound 1 (f' := (21, [some (.inl x), some (.inl y), some (.inl z)], [.inl 0], _)) rfl ?_
  exact b_ret (v := (some (.inl 0))) ⟨rfl, Or.inl rfl⟩ ⟨rfl, rfl⟩ rfl
theorem c_has_t {N : Nat} {hH : aH} {x y : Int} (h : aAnd (aShr x y) 1 = 1) : aEx mX8_has 0 N [.inl x, .inl y] hH (some (.inl (1))) hH := by
  refine aEv_of okX8_has caX8_has (Nat.le_of_ble_eq_true rfl) ?_
  refine aGo okX8_has 6 (f' := (6, [some (.inl x), some (.inl y)], [.inl 1, .inl (aAnd (aShr x y) 1)], _)) rfl ?_
  refine b_ne (tgt := 13) okX8_has rfl rfl ⟨by omega, by omega⟩ ⟨by omega, by omega⟩ (fun h6 => absurd h6 (by omega)) (fun h6 => ?_)
  refine aGo okX8_has 2 (f' := (14, [some (.inl x), some (.inl y)], [.inl 1], _)) rfl ?_
  exact b_ret (v := (some (.inl 1))) ⟨rfl, Or.inr ⟨rfl, Or.inr rfl⟩⟩ ⟨rfl, rfl⟩ rfl
theorem c_has_f {N : Nat} {hH : aH} {x y : Int} (h : aAnd (aShr x y) 1 = 0) : aEx mX8_has 0 N [.inl x, .inl y] hH (some (.inl (0))) hH := by
  refine aEv_of okX8_has caX8_has (Nat.le_of_ble_eq_true rfl) ?_
  refine aGo okX8_has 6 (f' := (6, [some (.inl x), some (.inl y)], [.inl 1, .inl (aAnd (aShr x y) 1)], _)) rfl ?_
  refine b_ne (tgt := 13) okX8_has rfl rfl ⟨by omega, by omega⟩ ⟨by omega, by omega⟩ (fun h6 => ?_) (fun h6 => absurd h6 (by omega))
  refine aGo okX8_has 1 (f' := (14, [some (.inl x), some (.inl y)], [.inl 0], _)) rfl ?_
  exact b_ret (v := (some (.inl 0))) ⟨rfl, Or.inr ⟨rfl, Or.inl rfl⟩⟩ ⟨rfl, rfl⟩ rfl
theorem c_mCell_t {N : Nat} {hH : aH} {x : Int} (h : 0 ≤ x ∧ x ≤ 35) : aEx mX8_isCell 0 N [.inl x] hH (some (.inl (1))) hH := by
  refine aEv_of okX8_isCell caX8_isCell (Nat.le_of_ble_eq_true rfl) ?_
  refine aGo okX8_isCell 1 (f' := (1, [some (.inl x)], [.inl x], _)) rfl ?_
  refine b0_lt (tgt := 14) okX8_isCell rfl rfl ⟨by omega, by omega⟩ (fun h1 => absurd h1 (by omega)) (fun h1 => ?_)
  refine aGo okX8_isCell 2 (f' := (7, [some (.inl x)], [.inl 36, .inl x], _)) rfl ?_
  refine b_ge (tgt := 14) okX8_isCell rfl rfl ⟨by omega, by omega⟩ ⟨by omega, by omega⟩ (fun h7 => absurd h7 (by omega)) (fun h7 => ?_)
  refine aGo okX8_isCell 2 (f' := (15, [some (.inl x)], [.inl 1], _)) rfl ?_
  exact b_ret (v := (some (.inl 1))) ⟨rfl, Or.inr ⟨rfl, Or.inr rfl⟩⟩ ⟨rfl, rfl⟩ rfl
theorem c_mCell_f {N : Nat} {hH : aH} {x : Int} (hx : aI x) (h : ¬ (0 ≤ x ∧ x ≤ 35)) : aEx mX8_isCell 0 N [.inl x] hH (some (.inl (0))) hH := by
  refine aEv_of okX8_isCell caX8_isCell (Nat.le_of_ble_eq_true rfl) ?_
  obtain ⟨hx1, hx2⟩ := hx
  refine aGo okX8_isCell 1 (f' := (1, [some (.inl x)], [.inl x], _)) rfl ?_
  refine b0_lt (tgt := 14) okX8_isCell rfl rfl ⟨by omega, by omega⟩ (fun h1 => ?_) (fun h1 => ?_)
  · refine aGo okX8_isCell 1 (f' := (15, [some (.inl x)], [.inl 0], _)) rfl ?_
    exact b_ret (v := (some (.inl 0))) ⟨rfl, Or.inr ⟨rfl, Or.inl rfl⟩⟩ ⟨rfl, rfl⟩ rfl
  · refine aGo okX8_isCell 2 (f' := (7, [some (.inl x)], [.inl 36, .inl x], _)) rfl ?_
    refine b_ge (tgt := 14) okX8_isCell rfl rfl ⟨by omega, by omega⟩ ⟨by omega, by omega⟩ (fun h7 => ?_) (fun h7 => absurd h7 (by omega))
    refine aGo okX8_isCell 1 (f' := (15, [some (.inl x)], [.inl 0], _)) rfl ?_
    exact b_ret (v := (some (.inl 0))) ⟨rfl, Or.inr ⟨rfl, Or.inl rfl⟩⟩ ⟨rfl, rfl⟩ rfl
theorem c_mFar {N : Nat} {hH : aH} {x y : Int} (hx : 0 ≤ x ∧ x ≤ 35) (hy : 0 ≤ y ∧ y ≤ 35) : aEx mX8_far 0 N [.inl x, .inl y] hH (some (.inl (aAbs (x - y)))) hH := by
  refine aEv_of okX8_far caX8_far (Nat.le_of_ble_eq_true rfl) ?_
  refine aGo okX8_far 2 (f' := (2, [some (.inl x), some (.inl y)], [.inl y, .inl x], _)) rfl ?_
  refine b_le (tgt := 11) okX8_far rfl rfl ⟨by omega, by omega⟩ ⟨by omega, by omega⟩ (fun h2 => ?_) (fun h2 => ?_)
  · refine aGo okX8_far 3 (f' := (14, [some (.inl x), some (.inl y)], [.inl (y - x)], _)) rfl ?_
    exact b_ret (v := (some (.inl (y - x)))) ⟨rfl, Or.inl rfl⟩ ⟨congrArg (fun q : Int => (some (.inl q) : Option aV)) (by unfold aAbs; split <;> omega), rfl⟩ rfl
  · refine aGo okX8_far 4 (f' := (14, [some (.inl x), some (.inl y)], [.inl (x - y)], _)) rfl ?_
    exact b_ret (v := (some (.inl (x - y)))) ⟨rfl, Or.inl rfl⟩ ⟨congrArg (fun q : Int => (some (.inl q) : Option aV)) (by unfold aAbs; split <;> omega), rfl⟩ rfl
theorem c_mSteps {N : Nat} {hH : aH} {x y : Int} (hx : 0 ≤ x ∧ x ≤ 35) (hy : 0 ≤ y ∧ y ≤ 35) : aEx mX8_steps 1 N [.inl x, .inl y] hH (some (.inl (stp x y))) hH := by
  refine aEv_of okX8_steps caX8_steps (Nat.le_of_ble_eq_true rfl) ?_
  refine aGo okX8_steps 2 (f' := (3, [some (.inl x), some (.inl y)], [.inl 6, .inl x], _)) rfl ?_
  refine b_div okX8_steps rfl ⟨by omega, by omega⟩ ⟨by omega, by omega⟩ ?_
  refine aGo okX8_steps 2 (f' := (7, [some (.inl x), some (.inl y)], [.inl 6, .inl y, .inl (x / 6)], _)) rfl ?_
  refine b_div okX8_steps rfl ⟨by omega, by omega⟩ ⟨by omega, by omega⟩ ?_
  refine b_vS (as := [.inl (x / 6), .inl (y / 6)]) (rest := []) (.inl (aAbs ((x / 6) - (y / 6)))) okX8_steps rfl lkX8_168 caX8_far (Nat.le_of_ble_eq_true rfl) rfl (Nat.le_of_ble_eq_true rfl) rfl (c_mFar ⟨by omega, by omega⟩ ⟨by omega, by omega⟩) ?_
  refine aGo okX8_steps 2 (f' := (14, [some (.inl x), some (.inl y)], [.inl 6, .inl x, .inl (aAbs ((x / 6) - (y / 6)))], _)) rfl ?_
  refine b_rem okX8_steps rfl ⟨by omega, by omega⟩ ⟨by omega, by omega⟩ ?_
  refine aGo okX8_steps 2 (f' := (18, [some (.inl x), some (.inl y)], [.inl 6, .inl y, .inl (x % 6), .inl (aAbs ((x / 6) - (y / 6)))], _)) rfl ?_
  refine b_rem okX8_steps rfl ⟨by omega, by omega⟩ ⟨by omega, by omega⟩ ?_
  refine b_vS (as := [.inl (x % 6), .inl (y % 6)]) (rest := [.inl (aAbs ((x / 6) - (y / 6)))]) (.inl (aAbs ((x % 6) - (y % 6)))) okX8_steps rfl lkX8_168 caX8_far (Nat.le_of_ble_eq_true rfl) rfl (Nat.le_of_ble_eq_true rfl) rfl (c_mFar ⟨by omega, by omega⟩ ⟨by omega, by omega⟩) ?_
  refine aGo okX8_steps 1 (f' := (23, [some (.inl x), some (.inl y)], [.inl ((aAbs ((x / 6) - (y / 6))) + (aAbs ((x % 6) - (y % 6))))], _)) rfl ?_
  exact b_ret (v := (some (.inl ((aAbs ((x / 6) - (y / 6))) + (aAbs ((x % 6) - (y % 6))))))) ⟨rfl, Or.inl rfl⟩ ⟨rfl, rfl⟩ rfl
theorem c_atLeast {N : Nat} {hH : aH} {x : Int} {y : Int} (hx : aI x) (hy : aI y) : aEx mX8_atLeast 0 N [.inl x, .inl y] hH (some (.inl (max y x))) hH := by
  refine aEv_of okX8_atLeast caX8_atLeast (Nat.le_of_ble_eq_true rfl) ?_
  obtain ⟨hx1, hx2⟩ := hx
  obtain ⟨hy1, hy2⟩ := hy
  refine aGo okX8_atLeast 2 (f' := (2, [some (.inl x), some (.inl y)], [.inl y, .inl x], _)) rfl ?_
  refine b_ge (tgt := 9) okX8_atLeast rfl rfl ⟨by omega, by omega⟩ ⟨by omega, by omega⟩ (fun h2 => ?_) (fun h2 => ?_)
  · refine aGo okX8_atLeast 1 (f' := (10, [some (.inl x), some (.inl y)], [.inl x], _)) rfl ?_
    exact b_ret (v := (some (.inl x))) ⟨rfl, Or.inl rfl⟩ ⟨congrArg (fun q : Int => (some (.inl q) : Option aV)) (by omega), rfl⟩ rfl
  · refine aGo okX8_atLeast 2 (f' := (10, [some (.inl x), some (.inl y)], [.inl y], _)) rfl ?_
    exact b_ret (v := (some (.inl y))) ⟨rfl, Or.inl rfl⟩ ⟨congrArg (fun q : Int => (some (.inl q) : Option aV)) (by omega), rfl⟩ rfl
section AMC
variable {A0 A1 A2 A3 A4 A5 : List (Option aE)} {re k f c n kp l tp le la td kt sh so had gr fi se to : List Int} {p g : Nat} {t d tl at_ sn him ik cu ou st rm : Int} {N : Nat}
set_option maxRecDepth 100000 in
set_option maxHeartbeats 4000000 in
theorem c_no_1 (hre : re.length = 7) : aEv mX8_no 0 0 0 N [.inr 192, .inl (-1)] [A0, A1, A2, A3, A4, A5, (modSeg re k f c n kp l tp le la td kt sh so had gr fi se to (p : Int) t d tl at_ sn him ik cu ou st rm)] (aQx (some (.inl ((-1)))) [A0, A1, A2, A3, A4, A5, (modSeg (re.set 1 (re.getD 1 0 + 1)) k f c n kp l tp le la td kt sh so had gr fi se to (p : Int) t d tl at_ sn him ik cu ou st rm)]) := by
  refine aEv_of okX8_no caX8_no (Nat.le_of_ble_eq_true rfl) ?_
  refine aGo okX8_no 5 (f' := (7, [some (.inr 192), some (.inl (-1))], [.inl 1, .inr 193, .inl 1, .inr 193], _)) rfl ?_
  refine b_ald (k := 193) (j := 1) (a := re) okX8_no rfl rfl (by omega) (by omega) (by omega) ?_
  refine aGo okX8_no 2 (f' := (10, [some (.inr 192), some (.inl (-1))], [.inl ((re.getD 1 0) + 1), .inl 1, .inr 193], _)) rfl ?_
  refine b_ast (k := 193) (j := 1) (a := re) okX8_no rfl rfl (by omega) (by omega) (by omega) ?_
  refine b_cast (f' := (11, [some (.inr 192), some (.inl (-1))], [], [A0, A1, A2, A3, A4, A5, (modSeg (re.set 1 ((re.getD 1 0) + 1)) k f c n kp l tp le la td kt sh so had gr fi se to (p : Int) t d tl at_ sn him ik cu ou st rm)])) rfl ?_
  refine aGo okX8_no 1 (f' := (12, [some (.inr 192), some (.inl (-1))], [.inl (-1)], _)) rfl ?_
  exact b_ret (v := (some (.inl (-1)))) ⟨rfl, Or.inl rfl⟩ ⟨rfl, rfl⟩ rfl
set_option maxRecDepth 100000 in
set_option maxHeartbeats 4000000 in
theorem c_lower_1 (hre : re.length = 7) : aEv mX8_lower 0 0 0 N [.inr 192, .inl (-1)] [A0, A1, A2, A3, A4, A5, (modSeg re k f c n kp l tp le la td kt sh so had gr fi se to (p : Int) t d tl at_ sn him ik cu ou st rm)] (aQx (some (.inl (1000000001))) [A0, A1, A2, A3, A4, A5, (modSeg (re.set 1 (re.getD 1 0 + 1)) k f c n kp l tp le la td kt sh so had gr fi se to (p : Int) t d tl at_ sn him ik cu ou st rm)]) := by
  refine aEv_of okX8_lower caX8_lower (Nat.le_of_ble_eq_true rfl) ?_
  refine aGo okX8_lower 5 (f' := (7, [some (.inr 192), some (.inl (-1))], [.inl 1, .inr 193, .inl 1, .inr 193], _)) rfl ?_
  refine b_ald (k := 193) (j := 1) (a := re) okX8_lower rfl rfl (by omega) (by omega) (by omega) ?_
  refine aGo okX8_lower 2 (f' := (10, [some (.inr 192), some (.inl (-1))], [.inl ((re.getD 1 0) + 1), .inl 1, .inr 193], _)) rfl ?_
  refine b_ast (k := 193) (j := 1) (a := re) okX8_lower rfl rfl (by omega) (by omega) (by omega) ?_
  refine b_cast (f' := (11, [some (.inr 192), some (.inl (-1))], [], [A0, A1, A2, A3, A4, A5, (modSeg (re.set 1 ((re.getD 1 0) + 1)) k f c n kp l tp le la td kt sh so had gr fi se to (p : Int) t d tl at_ sn him ik cu ou st rm)])) rfl ?_
  refine aGo okX8_lower 3 (f' := (15, [some (.inr 192), some (.inl (-1))], [.inl (1000000000 - (-1))], _)) rfl ?_
  exact b_ret (v := (some (.inl (1000000000 - (-1))))) ⟨rfl, Or.inl rfl⟩ ⟨rfl, rfl⟩ rfl
set_option maxRecDepth 100000 in
set_option maxHeartbeats 4000000 in
theorem c_no_2 (hre : re.length = 7) : aEv mX8_no 0 0 0 N [.inr 192, .inl (-2)] [A0, A1, A2, A3, A4, A5, (modSeg re k f c n kp l tp le la td kt sh so had gr fi se to (p : Int) t d tl at_ sn him ik cu ou st rm)] (aQx (some (.inl ((-2)))) [A0, A1, A2, A3, A4, A5, (modSeg (re.set 2 (re.getD 2 0 + 1)) k f c n kp l tp le la td kt sh so had gr fi se to (p : Int) t d tl at_ sn him ik cu ou st rm)]) := by
  refine aEv_of okX8_no caX8_no (Nat.le_of_ble_eq_true rfl) ?_
  refine aGo okX8_no 5 (f' := (7, [some (.inr 192), some (.inl (-2))], [.inl 2, .inr 193, .inl 2, .inr 193], _)) rfl ?_
  refine b_ald (k := 193) (j := 2) (a := re) okX8_no rfl rfl (by omega) (by omega) (by omega) ?_
  refine aGo okX8_no 2 (f' := (10, [some (.inr 192), some (.inl (-2))], [.inl ((re.getD 2 0) + 1), .inl 2, .inr 193], _)) rfl ?_
  refine b_ast (k := 193) (j := 2) (a := re) okX8_no rfl rfl (by omega) (by omega) (by omega) ?_
  refine b_cast (f' := (11, [some (.inr 192), some (.inl (-2))], [], [A0, A1, A2, A3, A4, A5, (modSeg (re.set 2 ((re.getD 2 0) + 1)) k f c n kp l tp le la td kt sh so had gr fi se to (p : Int) t d tl at_ sn him ik cu ou st rm)])) rfl ?_
  refine aGo okX8_no 1 (f' := (12, [some (.inr 192), some (.inl (-2))], [.inl (-2)], _)) rfl ?_
  exact b_ret (v := (some (.inl (-2)))) ⟨rfl, Or.inl rfl⟩ ⟨rfl, rfl⟩ rfl
set_option maxRecDepth 100000 in
set_option maxHeartbeats 4000000 in
theorem c_lower_2 (hre : re.length = 7) : aEv mX8_lower 0 0 0 N [.inr 192, .inl (-2)] [A0, A1, A2, A3, A4, A5, (modSeg re k f c n kp l tp le la td kt sh so had gr fi se to (p : Int) t d tl at_ sn him ik cu ou st rm)] (aQx (some (.inl (1000000002))) [A0, A1, A2, A3, A4, A5, (modSeg (re.set 2 (re.getD 2 0 + 1)) k f c n kp l tp le la td kt sh so had gr fi se to (p : Int) t d tl at_ sn him ik cu ou st rm)]) := by
  refine aEv_of okX8_lower caX8_lower (Nat.le_of_ble_eq_true rfl) ?_
  refine aGo okX8_lower 5 (f' := (7, [some (.inr 192), some (.inl (-2))], [.inl 2, .inr 193, .inl 2, .inr 193], _)) rfl ?_
  refine b_ald (k := 193) (j := 2) (a := re) okX8_lower rfl rfl (by omega) (by omega) (by omega) ?_
  refine aGo okX8_lower 2 (f' := (10, [some (.inr 192), some (.inl (-2))], [.inl ((re.getD 2 0) + 1), .inl 2, .inr 193], _)) rfl ?_
  refine b_ast (k := 193) (j := 2) (a := re) okX8_lower rfl rfl (by omega) (by omega) (by omega) ?_
  refine b_cast (f' := (11, [some (.inr 192), some (.inl (-2))], [], [A0, A1, A2, A3, A4, A5, (modSeg (re.set 2 ((re.getD 2 0) + 1)) k f c n kp l tp le la td kt sh so had gr fi se to (p : Int) t d tl at_ sn him ik cu ou st rm)])) rfl ?_
  refine aGo okX8_lower 3 (f' := (15, [some (.inr 192), some (.inl (-2))], [.inl (1000000000 - (-2))], _)) rfl ?_
  exact b_ret (v := (some (.inl (1000000000 - (-2))))) ⟨rfl, Or.inl rfl⟩ ⟨rfl, rfl⟩ rfl
set_option maxRecDepth 100000 in
set_option maxHeartbeats 4000000 in
theorem c_no_3 (hre : re.length = 7) : aEv mX8_no 0 0 0 N [.inr 192, .inl (-3)] [A0, A1, A2, A3, A4, A5, (modSeg re k f c n kp l tp le la td kt sh so had gr fi se to (p : Int) t d tl at_ sn him ik cu ou st rm)] (aQx (some (.inl ((-3)))) [A0, A1, A2, A3, A4, A5, (modSeg (re.set 3 (re.getD 3 0 + 1)) k f c n kp l tp le la td kt sh so had gr fi se to (p : Int) t d tl at_ sn him ik cu ou st rm)]) := by
  refine aEv_of okX8_no caX8_no (Nat.le_of_ble_eq_true rfl) ?_
  refine aGo okX8_no 5 (f' := (7, [some (.inr 192), some (.inl (-3))], [.inl 3, .inr 193, .inl 3, .inr 193], _)) rfl ?_
  refine b_ald (k := 193) (j := 3) (a := re) okX8_no rfl rfl (by omega) (by omega) (by omega) ?_
  refine aGo okX8_no 2 (f' := (10, [some (.inr 192), some (.inl (-3))], [.inl ((re.getD 3 0) + 1), .inl 3, .inr 193], _)) rfl ?_
  refine b_ast (k := 193) (j := 3) (a := re) okX8_no rfl rfl (by omega) (by omega) (by omega) ?_
  refine b_cast (f' := (11, [some (.inr 192), some (.inl (-3))], [], [A0, A1, A2, A3, A4, A5, (modSeg (re.set 3 ((re.getD 3 0) + 1)) k f c n kp l tp le la td kt sh so had gr fi se to (p : Int) t d tl at_ sn him ik cu ou st rm)])) rfl ?_
  refine aGo okX8_no 1 (f' := (12, [some (.inr 192), some (.inl (-3))], [.inl (-3)], _)) rfl ?_
  exact b_ret (v := (some (.inl (-3)))) ⟨rfl, Or.inl rfl⟩ ⟨rfl, rfl⟩ rfl
set_option maxRecDepth 100000 in
set_option maxHeartbeats 4000000 in
theorem c_lower_3 (hre : re.length = 7) : aEv mX8_lower 0 0 0 N [.inr 192, .inl (-3)] [A0, A1, A2, A3, A4, A5, (modSeg re k f c n kp l tp le la td kt sh so had gr fi se to (p : Int) t d tl at_ sn him ik cu ou st rm)] (aQx (some (.inl (1000000003))) [A0, A1, A2, A3, A4, A5, (modSeg (re.set 3 (re.getD 3 0 + 1)) k f c n kp l tp le la td kt sh so had gr fi se to (p : Int) t d tl at_ sn him ik cu ou st rm)]) := by
  refine aEv_of okX8_lower caX8_lower (Nat.le_of_ble_eq_true rfl) ?_
  refine aGo okX8_lower 5 (f' := (7, [some (.inr 192), some (.inl (-3))], [.inl 3, .inr 193, .inl 3, .inr 193], _)) rfl ?_
  refine b_ald (k := 193) (j := 3) (a := re) okX8_lower rfl rfl (by omega) (by omega) (by omega) ?_
  refine aGo okX8_lower 2 (f' := (10, [some (.inr 192), some (.inl (-3))], [.inl ((re.getD 3 0) + 1), .inl 3, .inr 193], _)) rfl ?_
  refine b_ast (k := 193) (j := 3) (a := re) okX8_lower rfl rfl (by omega) (by omega) (by omega) ?_
  refine b_cast (f' := (11, [some (.inr 192), some (.inl (-3))], [], [A0, A1, A2, A3, A4, A5, (modSeg (re.set 3 ((re.getD 3 0) + 1)) k f c n kp l tp le la td kt sh so had gr fi se to (p : Int) t d tl at_ sn him ik cu ou st rm)])) rfl ?_
  refine aGo okX8_lower 3 (f' := (15, [some (.inr 192), some (.inl (-3))], [.inl (1000000000 - (-3))], _)) rfl ?_
  exact b_ret (v := (some (.inl (1000000000 - (-3))))) ⟨rfl, Or.inl rfl⟩ ⟨rfl, rfl⟩ rfl
set_option maxRecDepth 100000 in
set_option maxHeartbeats 4000000 in
theorem c_no_4 (hre : re.length = 7) : aEv mX8_no 0 0 0 N [.inr 192, .inl (-4)] [A0, A1, A2, A3, A4, A5, (modSeg re k f c n kp l tp le la td kt sh so had gr fi se to (p : Int) t d tl at_ sn him ik cu ou st rm)] (aQx (some (.inl ((-4)))) [A0, A1, A2, A3, A4, A5, (modSeg (re.set 4 (re.getD 4 0 + 1)) k f c n kp l tp le la td kt sh so had gr fi se to (p : Int) t d tl at_ sn him ik cu ou st rm)]) := by
  refine aEv_of okX8_no caX8_no (Nat.le_of_ble_eq_true rfl) ?_
  refine aGo okX8_no 5 (f' := (7, [some (.inr 192), some (.inl (-4))], [.inl 4, .inr 193, .inl 4, .inr 193], _)) rfl ?_
  refine b_ald (k := 193) (j := 4) (a := re) okX8_no rfl rfl (by omega) (by omega) (by omega) ?_
  refine aGo okX8_no 2 (f' := (10, [some (.inr 192), some (.inl (-4))], [.inl ((re.getD 4 0) + 1), .inl 4, .inr 193], _)) rfl ?_
  refine b_ast (k := 193) (j := 4) (a := re) okX8_no rfl rfl (by omega) (by omega) (by omega) ?_
  refine b_cast (f' := (11, [some (.inr 192), some (.inl (-4))], [], [A0, A1, A2, A3, A4, A5, (modSeg (re.set 4 ((re.getD 4 0) + 1)) k f c n kp l tp le la td kt sh so had gr fi se to (p : Int) t d tl at_ sn him ik cu ou st rm)])) rfl ?_
  refine aGo okX8_no 1 (f' := (12, [some (.inr 192), some (.inl (-4))], [.inl (-4)], _)) rfl ?_
  exact b_ret (v := (some (.inl (-4)))) ⟨rfl, Or.inl rfl⟩ ⟨rfl, rfl⟩ rfl
set_option maxRecDepth 100000 in
set_option maxHeartbeats 4000000 in
theorem c_lower_4 (hre : re.length = 7) : aEv mX8_lower 0 0 0 N [.inr 192, .inl (-4)] [A0, A1, A2, A3, A4, A5, (modSeg re k f c n kp l tp le la td kt sh so had gr fi se to (p : Int) t d tl at_ sn him ik cu ou st rm)] (aQx (some (.inl (1000000004))) [A0, A1, A2, A3, A4, A5, (modSeg (re.set 4 (re.getD 4 0 + 1)) k f c n kp l tp le la td kt sh so had gr fi se to (p : Int) t d tl at_ sn him ik cu ou st rm)]) := by
  refine aEv_of okX8_lower caX8_lower (Nat.le_of_ble_eq_true rfl) ?_
  refine aGo okX8_lower 5 (f' := (7, [some (.inr 192), some (.inl (-4))], [.inl 4, .inr 193, .inl 4, .inr 193], _)) rfl ?_
  refine b_ald (k := 193) (j := 4) (a := re) okX8_lower rfl rfl (by omega) (by omega) (by omega) ?_
  refine aGo okX8_lower 2 (f' := (10, [some (.inr 192), some (.inl (-4))], [.inl ((re.getD 4 0) + 1), .inl 4, .inr 193], _)) rfl ?_
  refine b_ast (k := 193) (j := 4) (a := re) okX8_lower rfl rfl (by omega) (by omega) (by omega) ?_
  refine b_cast (f' := (11, [some (.inr 192), some (.inl (-4))], [], [A0, A1, A2, A3, A4, A5, (modSeg (re.set 4 ((re.getD 4 0) + 1)) k f c n kp l tp le la td kt sh so had gr fi se to (p : Int) t d tl at_ sn him ik cu ou st rm)])) rfl ?_
  refine aGo okX8_lower 3 (f' := (15, [some (.inr 192), some (.inl (-4))], [.inl (1000000000 - (-4))], _)) rfl ?_
  exact b_ret (v := (some (.inl (1000000000 - (-4))))) ⟨rfl, Or.inl rfl⟩ ⟨rfl, rfl⟩ rfl
set_option maxRecDepth 100000 in
set_option maxHeartbeats 4000000 in
theorem c_no_6 (hre : re.length = 7) : aEv mX8_no 0 0 0 N [.inr 192, .inl (-6)] [A0, A1, A2, A3, A4, A5, (modSeg re k f c n kp l tp le la td kt sh so had gr fi se to (p : Int) t d tl at_ sn him ik cu ou st rm)] (aQx (some (.inl ((-6)))) [A0, A1, A2, A3, A4, A5, (modSeg (re.set 6 (re.getD 6 0 + 1)) k f c n kp l tp le la td kt sh so had gr fi se to (p : Int) t d tl at_ sn him ik cu ou st rm)]) := by
  refine aEv_of okX8_no caX8_no (Nat.le_of_ble_eq_true rfl) ?_
  refine aGo okX8_no 5 (f' := (7, [some (.inr 192), some (.inl (-6))], [.inl 6, .inr 193, .inl 6, .inr 193], _)) rfl ?_
  refine b_ald (k := 193) (j := 6) (a := re) okX8_no rfl rfl (by omega) (by omega) (by omega) ?_
  refine aGo okX8_no 2 (f' := (10, [some (.inr 192), some (.inl (-6))], [.inl ((re.getD 6 0) + 1), .inl 6, .inr 193], _)) rfl ?_
  refine b_ast (k := 193) (j := 6) (a := re) okX8_no rfl rfl (by omega) (by omega) (by omega) ?_
  refine b_cast (f' := (11, [some (.inr 192), some (.inl (-6))], [], [A0, A1, A2, A3, A4, A5, (modSeg (re.set 6 ((re.getD 6 0) + 1)) k f c n kp l tp le la td kt sh so had gr fi se to (p : Int) t d tl at_ sn him ik cu ou st rm)])) rfl ?_
  refine aGo okX8_no 1 (f' := (12, [some (.inr 192), some (.inl (-6))], [.inl (-6)], _)) rfl ?_
  exact b_ret (v := (some (.inl (-6)))) ⟨rfl, Or.inl rfl⟩ ⟨rfl, rfl⟩ rfl
set_option maxRecDepth 100000 in
set_option maxHeartbeats 4000000 in
theorem c_lower_6 (hre : re.length = 7) : aEv mX8_lower 0 0 0 N [.inr 192, .inl (-6)] [A0, A1, A2, A3, A4, A5, (modSeg re k f c n kp l tp le la td kt sh so had gr fi se to (p : Int) t d tl at_ sn him ik cu ou st rm)] (aQx (some (.inl (1000000006))) [A0, A1, A2, A3, A4, A5, (modSeg (re.set 6 (re.getD 6 0 + 1)) k f c n kp l tp le la td kt sh so had gr fi se to (p : Int) t d tl at_ sn him ik cu ou st rm)]) := by
  refine aEv_of okX8_lower caX8_lower (Nat.le_of_ble_eq_true rfl) ?_
  refine aGo okX8_lower 5 (f' := (7, [some (.inr 192), some (.inl (-6))], [.inl 6, .inr 193, .inl 6, .inr 193], _)) rfl ?_
  refine b_ald (k := 193) (j := 6) (a := re) okX8_lower rfl rfl (by omega) (by omega) (by omega) ?_
  refine aGo okX8_lower 2 (f' := (10, [some (.inr 192), some (.inl (-6))], [.inl ((re.getD 6 0) + 1), .inl 6, .inr 193], _)) rfl ?_
  refine b_ast (k := 193) (j := 6) (a := re) okX8_lower rfl rfl (by omega) (by omega) (by omega) ?_
  refine b_cast (f' := (11, [some (.inr 192), some (.inl (-6))], [], [A0, A1, A2, A3, A4, A5, (modSeg (re.set 6 ((re.getD 6 0) + 1)) k f c n kp l tp le la td kt sh so had gr fi se to (p : Int) t d tl at_ sn him ik cu ou st rm)])) rfl ?_
  refine aGo okX8_lower 3 (f' := (15, [some (.inr 192), some (.inl (-6))], [.inl (1000000000 - (-6))], _)) rfl ?_
  exact b_ret (v := (some (.inl (1000000000 - (-6))))) ⟨rfl, Or.inl rfl⟩ ⟨rfl, rfl⟩ rfl
set_option maxRecDepth 100000 in
set_option maxHeartbeats 4000000 in
theorem c_isOne_t {x : Int} (hp7 : p ≤ 7) (h : 0 ≤ x ∧ x < (p : Int)) : aEv mX8_isOne 0 0 0 N [.inr 192, .inl x] [A0, A1, A2, A3, A4, A5, (modSeg re k f c n kp l tp le la td kt sh so had gr fi se to (p : Int) t d tl at_ sn him ik cu ou st rm)] (aQx (some (.inl (1))) [A0, A1, A2, A3, A4, A5, (modSeg re k f c n kp l tp le la td kt sh so had gr fi se to (p : Int) t d tl at_ sn him ik cu ou st rm)]) := by
  refine aEv_of okX8_isOne caX8_isOne (Nat.le_of_ble_eq_true rfl) ?_
  refine aGo okX8_isOne 1 (f' := (1, [some (.inr 192), some (.inl x)], [.inl x], _)) rfl ?_
  refine b0_lt (tgt := 16) okX8_isOne rfl rfl ⟨by omega, by omega⟩ (fun h1 => absurd h1 (by omega)) (fun h1 => ?_)
  refine aGo okX8_isOne 3 (f' := (9, [some (.inr 192), some (.inl x)], [.inl (p : Int), .inl x], _)) rfl ?_
  refine b_ge (tgt := 16) okX8_isOne rfl rfl ⟨by omega, by omega⟩ ⟨by omega, by omega⟩ (fun h9 => absurd h9 (by omega)) (fun h9 => ?_)
  refine aGo okX8_isOne 2 (f' := (17, [some (.inr 192), some (.inl x)], [.inl 1], _)) rfl ?_
  exact b_ret (v := (some (.inl 1))) ⟨rfl, Or.inr ⟨rfl, Or.inr rfl⟩⟩ ⟨rfl, rfl⟩ rfl
set_option maxRecDepth 100000 in
set_option maxHeartbeats 4000000 in
theorem c_isOne_f {x : Int} (hp7 : p ≤ 7) (hx : aI x) (h : ¬ (0 ≤ x ∧ x < (p : Int))) : aEv mX8_isOne 0 0 0 N [.inr 192, .inl x] [A0, A1, A2, A3, A4, A5, (modSeg re k f c n kp l tp le la td kt sh so had gr fi se to (p : Int) t d tl at_ sn him ik cu ou st rm)] (aQx (some (.inl (0))) [A0, A1, A2, A3, A4, A5, (modSeg re k f c n kp l tp le la td kt sh so had gr fi se to (p : Int) t d tl at_ sn him ik cu ou st rm)]) := by
  obtain ⟨hx1, hx2⟩ := hx
  refine aEv_of okX8_isOne caX8_isOne (Nat.le_of_ble_eq_true rfl) ?_
  refine aGo okX8_isOne 1 (f' := (1, [some (.inr 192), some (.inl x)], [.inl x], _)) rfl ?_
  refine b0_lt (tgt := 16) okX8_isOne rfl rfl ⟨by omega, by omega⟩ (fun h1 => ?_) (fun h1 => ?_)
  · refine aGo okX8_isOne 1 (f' := (17, [some (.inr 192), some (.inl x)], [.inl 0], _)) rfl ?_
    exact b_ret (v := (some (.inl 0))) ⟨rfl, Or.inr ⟨rfl, Or.inl rfl⟩⟩ ⟨rfl, rfl⟩ rfl
  · refine aGo okX8_isOne 3 (f' := (9, [some (.inr 192), some (.inl x)], [.inl (p : Int), .inl x], _)) rfl ?_
    refine b_ge (tgt := 16) okX8_isOne rfl rfl ⟨by omega, by omega⟩ ⟨by omega, by omega⟩ (fun h9 => ?_) (fun h9 => absurd h9 (by omega))
    refine aGo okX8_isOne 1 (f' := (17, [some (.inr 192), some (.inl x)], [.inl 0], _)) rfl ?_
    exact b_ret (v := (some (.inl 0))) ⟨rfl, Or.inr ⟨rfl, Or.inl rfl⟩⟩ ⟨rfl, rfl⟩ rfl
set_option maxRecDepth 100000 in
set_option maxHeartbeats 4000000 in
theorem c_mTwo_t {x y : Int} (hp7 : p ≤ 7) (h : 0 ≤ x ∧ x < (p : Int)) (h2 : 0 ≤ y ∧ y < (p : Int)) (h3 : x ≠ y) : aEv mX8_areTwo 1 0 0 N [.inr 192, .inl x, .inl y] [A0, A1, A2, A3, A4, A5, (modSeg re k f c n kp l tp le la td kt sh so had gr fi se to (p : Int) t d tl at_ sn him ik cu ou st rm)] (aQx (some (.inl (1))) [A0, A1, A2, A3, A4, A5, (modSeg re k f c n kp l tp le la td kt sh so had gr fi se to (p : Int) t d tl at_ sn him ik cu ou st rm)]) := by
  refine aEv_of okX8_areTwo caX8_areTwo (Nat.le_of_ble_eq_true rfl) ?_
  refine aGo okX8_areTwo 2 (f' := (2, [some (.inr 192), some (.inl x), some (.inl y)], [.inl x, .inr 192], _)) rfl ?_
  refine b_vV (as := [.inl x]) (rest := []) (k := 192) (.inl 1) okX8_areTwo rfl lkX8_75 caX8_isOne (Nat.le_of_ble_eq_true rfl) rfl (Nat.le_of_ble_eq_true rfl) rfl rfl rfl (c_isOne_t hp7 h) ?_
  refine b0_eq (tgt := 25) okX8_areTwo rfl rfl ⟨by omega, by omega⟩ (fun h5 => absurd h5 (by omega)) (fun h5 => ?_)
  refine aGo okX8_areTwo 2 (f' := (10, [some (.inr 192), some (.inl x), some (.inl y)], [.inl y, .inr 192], _)) rfl ?_
  refine b_vV (as := [.inl y]) (rest := []) (k := 192) (.inl 1) okX8_areTwo rfl lkX8_75 caX8_isOne (Nat.le_of_ble_eq_true rfl) rfl (Nat.le_of_ble_eq_true rfl) rfl rfl rfl (c_isOne_t hp7 h2) ?_
  refine b0_eq (tgt := 25) okX8_areTwo rfl rfl ⟨by omega, by omega⟩ (fun h13 => absurd h13 (by omega)) (fun h13 => ?_)
  refine aGo okX8_areTwo 2 (f' := (18, [some (.inr 192), some (.inl x), some (.inl y)], [.inl y, .inl x], _)) rfl ?_
  refine b_eq (tgt := 25) okX8_areTwo rfl rfl ⟨by omega, by omega⟩ ⟨by omega, by omega⟩ (fun h18 => absurd h18 (h3)) (fun h18 => ?_)
  refine aGo okX8_areTwo 2 (f' := (26, [some (.inr 192), some (.inl x), some (.inl y)], [.inl 1], _)) rfl ?_
  exact b_ret (v := (some (.inl 1))) ⟨rfl, Or.inr ⟨rfl, Or.inr rfl⟩⟩ ⟨rfl, rfl⟩ rfl
set_option maxRecDepth 100000 in
set_option maxHeartbeats 4000000 in
theorem c_mTwo_f {x y : Int} (hp7 : p ≤ 7) (hx : aI x) (hy : aI y) (h : ¬ (0 ≤ x ∧ x < (p : Int) ∧ 0 ≤ y ∧ y < (p : Int) ∧ x ≠ y)) : aEv mX8_areTwo 1 0 0 N [.inr 192, .inl x, .inl y] [A0, A1, A2, A3, A4, A5, (modSeg re k f c n kp l tp le la td kt sh so had gr fi se to (p : Int) t d tl at_ sn him ik cu ou st rm)] (aQx (some (.inl (0))) [A0, A1, A2, A3, A4, A5, (modSeg re k f c n kp l tp le la td kt sh so had gr fi se to (p : Int) t d tl at_ sn him ik cu ou st rm)]) := by
  obtain ⟨hx1, hx2⟩ := hx
  obtain ⟨hy1, hy2⟩ := hy
  refine aEv_of okX8_areTwo caX8_areTwo (Nat.le_of_ble_eq_true rfl) ?_
  refine aGo okX8_areTwo 2 (f' := (2, [some (.inr 192), some (.inl x), some (.inl y)], [.inl x, .inr 192], _)) rfl ?_
  by_cases hc2 : 0 ≤ x ∧ x < (p : Int)
  · refine b_vV (as := [.inl x]) (rest := []) (k := 192) (.inl 1) okX8_areTwo rfl lkX8_75 caX8_isOne (Nat.le_of_ble_eq_true rfl) rfl (Nat.le_of_ble_eq_true rfl) rfl rfl rfl (c_isOne_t hp7 hc2) ?_
    refine b0_eq (tgt := 25) okX8_areTwo rfl rfl ⟨by omega, by omega⟩ (fun h5 => absurd h5 (by omega)) (fun h5 => ?_)
    refine aGo okX8_areTwo 2 (f' := (10, [some (.inr 192), some (.inl x), some (.inl y)], [.inl y, .inr 192], _)) rfl ?_
    by_cases hc10 : 0 ≤ y ∧ y < (p : Int)
    · refine b_vV (as := [.inl y]) (rest := []) (k := 192) (.inl 1) okX8_areTwo rfl lkX8_75 caX8_isOne (Nat.le_of_ble_eq_true rfl) rfl (Nat.le_of_ble_eq_true rfl) rfl rfl rfl (c_isOne_t hp7 hc10) ?_
      refine b0_eq (tgt := 25) okX8_areTwo rfl rfl ⟨by omega, by omega⟩ (fun h13 => absurd h13 (by omega)) (fun h13 => ?_)
      refine aGo okX8_areTwo 2 (f' := (18, [some (.inr 192), some (.inl x), some (.inl y)], [.inl y, .inl x], _)) rfl ?_
      refine b_eq (tgt := 25) okX8_areTwo rfl rfl ⟨by omega, by omega⟩ ⟨by omega, by omega⟩ (fun h18 => ?_) (fun h18 => absurd h18 (by omega))
      refine aGo okX8_areTwo 1 (f' := (26, [some (.inr 192), some (.inl x), some (.inl y)], [.inl 0], _)) rfl ?_
      exact b_ret (v := (some (.inl 0))) ⟨rfl, Or.inr ⟨rfl, Or.inl rfl⟩⟩ ⟨rfl, rfl⟩ rfl
    · refine b_vV (as := [.inl y]) (rest := []) (k := 192) (.inl 0) okX8_areTwo rfl lkX8_75 caX8_isOne (Nat.le_of_ble_eq_true rfl) rfl (Nat.le_of_ble_eq_true rfl) rfl rfl rfl (c_isOne_f hp7 ⟨by omega, by omega⟩ hc10) ?_
      refine b0_eq (tgt := 25) okX8_areTwo rfl rfl ⟨by omega, by omega⟩ (fun h13 => ?_) (fun h13 => absurd h13 (by omega))
      refine aGo okX8_areTwo 1 (f' := (26, [some (.inr 192), some (.inl x), some (.inl y)], [.inl 0], _)) rfl ?_
      exact b_ret (v := (some (.inl 0))) ⟨rfl, Or.inr ⟨rfl, Or.inl rfl⟩⟩ ⟨rfl, rfl⟩ rfl
  · refine b_vV (as := [.inl x]) (rest := []) (k := 192) (.inl 0) okX8_areTwo rfl lkX8_75 caX8_isOne (Nat.le_of_ble_eq_true rfl) rfl (Nat.le_of_ble_eq_true rfl) rfl rfl rfl (c_isOne_f hp7 ⟨by omega, by omega⟩ hc2) ?_
    refine b0_eq (tgt := 25) okX8_areTwo rfl rfl ⟨by omega, by omega⟩ (fun h5 => ?_) (fun h5 => absurd h5 (by omega))
    refine aGo okX8_areTwo 1 (f' := (26, [some (.inr 192), some (.inl x), some (.inl y)], [.inl 0], _)) rfl ?_
    exact b_ret (v := (some (.inl 0))) ⟨rfl, Or.inr ⟨rfl, Or.inl rfl⟩⟩ ⟨rfl, rfl⟩ rfl
set_option maxRecDepth 100000 in
set_option maxHeartbeats 4000000 in
theorem c_isTh_t (hp7 : p ≤ 7) (hg : g ≤ 7) {i : Nat} (hi : i < p) (h : i ≠ g) : aEv mX8_isThere 1 0 0 N [.inr 192, .inl (i : Int)] [A0, A1, A2, A3, A4, A5, (modSeg re k f c n kp l tp le la td kt sh so had gr fi se to (p : Int) t d tl at_ sn him ik cu (ouB g) st rm)] (aQx (some (.inl (1))) [A0, A1, A2, A3, A4, A5, (modSeg re k f c n kp l tp le la td kt sh so had gr fi se to (p : Int) t d tl at_ sn him ik cu (ouB g) st rm)]) := by
  refine aEv_of okX8_isThere caX8_isThere (Nat.le_of_ble_eq_true rfl) ?_
  refine aGo okX8_isThere 3 (f' := (5, [some (.inr 192), some (.inl (i : Int))], [.inl (p : Int), .inl (i : Int)], _)) rfl ?_
  refine b_ge (tgt := 23) okX8_isThere rfl rfl ⟨by omega, by omega⟩ ⟨by omega, by omega⟩ (fun h5 => absurd h5 (by omega)) (fun h5 => ?_)
  refine aGo okX8_isThere 3 (f' := (13, [some (.inr 192), some (.inl (i : Int))], [.inl (i : Int), .inl (ouB g)], _)) rfl ?_
  refine b_vS (as := [.inl (ouB g), .inl (i : Int)]) (rest := []) (.inl 0) okX8_isThere rfl lkX8_175 caX8_has (Nat.le_of_ble_eq_true rfl) rfl (Nat.le_of_ble_eq_true rfl) rfl (c_has_f (by rw [ou_bit g (by omega) i (by omega)]; exact if_neg (by omega))) ?_
  refine b0_ne (tgt := 23) okX8_isThere rfl rfl ⟨by omega, by omega⟩ (fun h16 => absurd h16 (by omega)) (fun h16 => ?_)
  refine aGo okX8_isThere 2 (f' := (24, [some (.inr 192), some (.inl (i : Int))], [.inl 1], _)) rfl ?_
  exact b_ret (v := (some (.inl 1))) ⟨rfl, Or.inr ⟨rfl, Or.inr rfl⟩⟩ ⟨rfl, rfl⟩ rfl
set_option maxRecDepth 100000 in
set_option maxHeartbeats 4000000 in
theorem c_isTh_f (hp7 : p ≤ 7) (hg : g ≤ 7) {i : Nat} (hi : i < 7) (h : ¬ (i < p ∧ i ≠ g)) : aEv mX8_isThere 1 0 0 N [.inr 192, .inl (i : Int)] [A0, A1, A2, A3, A4, A5, (modSeg re k f c n kp l tp le la td kt sh so had gr fi se to (p : Int) t d tl at_ sn him ik cu (ouB g) st rm)] (aQx (some (.inl (0))) [A0, A1, A2, A3, A4, A5, (modSeg re k f c n kp l tp le la td kt sh so had gr fi se to (p : Int) t d tl at_ sn him ik cu (ouB g) st rm)]) := by
  refine aEv_of okX8_isThere caX8_isThere (Nat.le_of_ble_eq_true rfl) ?_
  refine aGo okX8_isThere 3 (f' := (5, [some (.inr 192), some (.inl (i : Int))], [.inl (p : Int), .inl (i : Int)], _)) rfl ?_
  refine b_ge (tgt := 23) okX8_isThere rfl rfl ⟨by omega, by omega⟩ ⟨by omega, by omega⟩ (fun h5 => ?_) (fun h5 => ?_)
  · refine aGo okX8_isThere 1 (f' := (24, [some (.inr 192), some (.inl (i : Int))], [.inl 0], _)) rfl ?_
    exact b_ret (v := (some (.inl 0))) ⟨rfl, Or.inr ⟨rfl, Or.inl rfl⟩⟩ ⟨rfl, rfl⟩ rfl
  · refine aGo okX8_isThere 3 (f' := (13, [some (.inr 192), some (.inl (i : Int))], [.inl (i : Int), .inl (ouB g)], _)) rfl ?_
    refine b_vS (as := [.inl (ouB g), .inl (i : Int)]) (rest := []) (.inl 1) okX8_isThere rfl lkX8_175 caX8_has (Nat.le_of_ble_eq_true rfl) rfl (Nat.le_of_ble_eq_true rfl) rfl (c_has_t (by rw [ou_bit g (by omega) i (by omega)]; exact if_pos (by omega))) ?_
    refine b0_ne (tgt := 23) okX8_isThere rfl rfl ⟨by omega, by omega⟩ (fun h16 => ?_) (fun h16 => absurd h16 (by omega))
    refine aGo okX8_isThere 1 (f' := (24, [some (.inr 192), some (.inl (i : Int))], [.inl 0], _)) rfl ?_
    exact b_ret (v := (some (.inl 0))) ⟨rfl, Or.inr ⟨rfl, Or.inl rfl⟩⟩ ⟨rfl, rfl⟩ rfl
set_option maxRecDepth 100000 in
set_option maxHeartbeats 4000000 in
theorem c_stepsOf (hp7 : p ≤ 7) (hg : g ≤ 7) (hc : c.length = 7) (rc : rng c 35) {i : Nat} (hi : i < 7) : aEv mX8_stepsOf 2 0 0 N [.inr 192, .inl (i : Int)] [A0, A1, A2, A3, A4, A5, (modSeg re k f c n kp l tp le la td kt sh so had gr fi se to (p : Int) t d tl at_ sn him ik cu (ouB g) st rm)] ((aQx (some (.inl (max 1 (sumN p (farT c g i))))) [A0, A1, A2, A3, A4, A5, (modSeg re k f c n kp l tp le la td kt sh so had gr fi se to (p : Int) t d tl at_ sn him ik cu (ouB g) st rm)])) := by
  refine aEv_of okX8_stepsOf caX8_stepsOf (Nat.le_of_ble_eq_true rfl) ?_
  have lp : ∀ (j v : Nat), v + j = p → AW mX8_stepsOf 2 0 0 N none (aQx (some (.inl (max 1 (sumN p (farT c g i))))) [A0, A1, A2, A3, A4, A5, (modSeg re k f c n kp l tp le la td kt sh so had gr fi se to (p : Int) t d tl at_ sn him ik cu (ouB g) st rm)]) (4, [some (.inr 192), some (.inl (i : Int)), some (.inl (sumN v (farT c g i))), some (.inl (v : Int))], [], [A0, A1, A2, A3, A4, A5, (modSeg re k f c n kp l tp le la td kt sh so had gr fi se to (p : Int) t d tl at_ sn him ik cu (ouB g) st rm)]) := by
    intro j
    induction j with
    | zero =>
      intro v  hij 
      obtain rfl : p = v := by omega
      have e1 := farG_le rc hp7 g i
      refine aGo okX8_stepsOf 3 (f' := (9, [some (.inr 192), some (.inl (i : Int)), some (.inl (sumN p (farT c g i))), some (.inl (p : Int))], [.inl (p : Int), .inl (p : Int)], _)) rfl ?_
      refine b_ge (tgt := 48) okX8_stepsOf rfl rfl ⟨by omega, by omega⟩ ⟨by omega, by omega⟩ (fun h9 => ?_) (fun h9 => absurd h9 (by omega))
      refine aGo okX8_stepsOf 2 (f' := (50, [some (.inr 192), some (.inl (i : Int)), some (.inl (sumN p (farT c g i))), some (.inl (p : Int))], [.inl 1, .inl (sumN p (farT c g i))], _)) rfl ?_
      refine b_vS (as := [.inl (sumN p (farT c g i)), .inl 1]) (rest := []) (.inl (max 1 (sumN p (farT c g i)))) okX8_stepsOf rfl lkX8_184 caX8_atLeast (Nat.le_of_ble_eq_true rfl) rfl (Nat.le_of_ble_eq_true rfl) rfl (c_atLeast ⟨by omega, by omega⟩ ⟨by omega, by omega⟩) ?_
      exact b_ret (v := (some (.inl (max 1 (sumN p (farT c g i)))))) ⟨rfl, Or.inl rfl⟩ ⟨rfl, rfl⟩ rfl
    | succ j ih =>
      intro v  hij 
      have e1 := rc i
      have e2 := rc v
      refine aGo okX8_stepsOf 3 (f' := (9, [some (.inr 192), some (.inl (i : Int)), some (.inl (sumN v (farT c g i))), some (.inl (v : Int))], [.inl (p : Int), .inl (v : Int)], _)) rfl ?_
      refine b_ge (tgt := 48) okX8_stepsOf rfl rfl ⟨by omega, by omega⟩ ⟨by omega, by omega⟩ (fun h9 => absurd h9 (by omega)) (fun h9 => ?_)
      refine aGo okX8_stepsOf 3 (f' := (15, [some (.inr 192), some (.inl (i : Int)), some (.inl (sumN v (farT c g i))), some (.inl (v : Int))], [.inl (v : Int), .inr 192, .inl (sumN v (farT c g i))], _)) rfl ?_
      by_cases hc15 : v ≠ g
      · refine b_vV (as := [.inl (v : Int)]) (rest := [.inl (sumN v (farT c g i))]) (k := 192) (.inl 1) okX8_stepsOf rfl lkX8_178 caX8_isThere (Nat.le_of_ble_eq_true rfl) rfl (Nat.le_of_ble_eq_true rfl) rfl rfl rfl (c_isTh_t hp7 hg (i := v) (by omega) hc15) ?_
        refine b0_eq (tgt := 39) okX8_stepsOf rfl rfl ⟨by omega, by omega⟩ (fun h18 => absurd h18 (by omega)) (fun h18 => ?_)
        refine aGo okX8_stepsOf 3 (f' := (26, [some (.inr 192), some (.inl (i : Int)), some (.inl (sumN v (farT c g i))), some (.inl (v : Int))], [.inl (i : Int), .inr 196, .inl (sumN v (farT c g i))], _)) rfl ?_
        refine b_ald (k := 196) (j := i) (a := c) okX8_stepsOf rfl rfl (by omega) (by omega) (by omega) ?_
        refine aGo okX8_stepsOf 3 (f' := (32, [some (.inr 192), some (.inl (i : Int)), some (.inl (sumN v (farT c g i))), some (.inl (v : Int))], [.inl (v : Int), .inr 196, .inl (c.getD i 0), .inl (sumN v (farT c g i))], _)) rfl ?_
        refine b_ald (k := 196) (j := v) (a := c) okX8_stepsOf rfl rfl (by omega) (by omega) (by omega) ?_
        refine b_vS (as := [.inl (c.getD i 0), .inl (c.getD v 0)]) (rest := [.inl (sumN v (farT c g i))]) (.inl (stp (c.getD i 0) (c.getD v 0))) okX8_stepsOf rfl lkX8_181 caX8_steps (Nat.le_of_ble_eq_true rfl) rfl (Nat.le_of_ble_eq_true rfl) rfl (c_mSteps ⟨by omega, by omega⟩ ⟨by omega, by omega⟩) ?_
        refine aGo okX8_stepsOf 5 (f' := (4, [some (.inr 192), some (.inl (i : Int)), some (.inl ((sumN v (farT c g i)) + (stp (c.getD i 0) (c.getD v 0)))), some (.inl ((v : Int) + 1))], [], _)) rfl ?_
        refine b_cast (f' := (4, [some (.inr 192), some (.inl (i : Int)), some (.inl (sumN (v + 1) (farT c g i))), some (.inl ((v : Int) + 1))], [], [A0, A1, A2, A3, A4, A5, (modSeg re k f c n kp l tp le la td kt sh so had gr fi se to (p : Int) t d tl at_ sn him ik cu (ouB g) st rm)])) (congrArg (fun q : Int => ((4, [some (.inr 192), some (.inl (i : Int)), some (.inl q), some (.inl ((v : Int) + 1))], [], [A0, A1, A2, A3, A4, A5, (modSeg re k f c n kp l tp le la td kt sh so had gr fi se to (p : Int) t d tl at_ sn him ik cu (ouB g) st rm)]) : aF)) ((by show _ = sumN v (farT c g i) + (farT c g i) v; rw [farT_f hc15]))) ?_
        exact ih (v + 1) (by omega)
      · refine b_vV (as := [.inl (v : Int)]) (rest := [.inl (sumN v (farT c g i))]) (k := 192) (.inl 0) okX8_stepsOf rfl lkX8_178 caX8_isThere (Nat.le_of_ble_eq_true rfl) rfl (Nat.le_of_ble_eq_true rfl) rfl rfl rfl (c_isTh_f hp7 hg (i := v) (by omega) (by omega)) ?_
        refine b0_eq (tgt := 39) okX8_stepsOf rfl rfl ⟨by omega, by omega⟩ (fun h18 => ?_) (fun h18 => absurd h18 (by omega))
        refine aGo okX8_stepsOf 5 (f' := (4, [some (.inr 192), some (.inl (i : Int)), some (.inl ((sumN v (farT c g i)) + 0)), some (.inl ((v : Int) + 1))], [], _)) rfl ?_
        refine b_cast (f' := (4, [some (.inr 192), some (.inl (i : Int)), some (.inl (sumN (v + 1) (farT c g i))), some (.inl ((v : Int) + 1))], [], [A0, A1, A2, A3, A4, A5, (modSeg re k f c n kp l tp le la td kt sh so had gr fi se to (p : Int) t d tl at_ sn him ik cu (ouB g) st rm)])) (congrArg (fun q : Int => ((4, [some (.inr 192), some (.inl (i : Int)), some (.inl q), some (.inl ((v : Int) + 1))], [], [A0, A1, A2, A3, A4, A5, (modSeg re k f c n kp l tp le la td kt sh so had gr fi se to (p : Int) t d tl at_ sn him ik cu (ouB g) st rm)]) : aF)) ((by show _ = sumN v (farT c g i) + (farT c g i) v; rw [farT_t hc15]))) ?_
        exact ih (v + 1) (by omega)
  refine aGo okX8_stepsOf 4 (f' := (4, [some (.inr 192), some (.inl (i : Int)), some (.inl 0), some (.inl 0)], [], _)) rfl ?_
  exact lp p 0 (by omega)
set_option maxRecDepth 100000 in
set_option maxHeartbeats 4000000 in
theorem c_lonely_t (hp7 : p ≤ 7) (hg : g ≤ 7) (hc : c.length = 7) (rc : rng c 35) {i : Nat} (hi : i < 7) (h : 3 ≤ nearG p c g i) : aEv mX8_isLonely 2 0 0 N [.inr 192, .inl (i : Int)] [A0, A1, A2, A3, A4, A5, (modSeg re k f c n kp l tp le la td kt sh so had gr fi se to (p : Int) t d tl at_ sn him ik cu (ouB g) st rm)] ((aQx (some (.inl 1)) [A0, A1, A2, A3, A4, A5, (modSeg re k f c n kp l tp le la td kt sh so had gr fi se to (p : Int) t d tl at_ sn him ik cu (ouB g) st rm)])) := by
  have h2 := nearG_iff.mp h
  refine aEv_of okX8_isLonely caX8_isLonely (Nat.le_of_ble_eq_true rfl) ?_
  have lp : ∀ (j v : Nat), v + j = p → AW mX8_isLonely 2 0 0 N none (aQx (some (.inl 1)) [A0, A1, A2, A3, A4, A5, (modSeg re k f c n kp l tp le la td kt sh so had gr fi se to (p : Int) t d tl at_ sn him ik cu (ouB g) st rm)]) (2, [some (.inr 192), some (.inl (i : Int)), some (.inl (v : Int))], [], [A0, A1, A2, A3, A4, A5, (modSeg re k f c n kp l tp le la td kt sh so had gr fi se to (p : Int) t d tl at_ sn him ik cu (ouB g) st rm)]) := by
    intro j
    induction j with
    | zero =>
      intro v  hij 
      obtain rfl : p = v := by omega
      refine aGo okX8_isLonely 3 (f' := (7, [some (.inr 192), some (.inl (i : Int)), some (.inl (p : Int))], [.inl (p : Int), .inl (p : Int)], _)) rfl ?_
      refine b_ge (tgt := 50) okX8_isLonely rfl rfl ⟨by omega, by omega⟩ ⟨by omega, by omega⟩ (fun h7 => ?_) (fun h7 => absurd h7 (by omega))
      refine aGo okX8_isLonely 1 (f' := (51, [some (.inr 192), some (.inl (i : Int)), some (.inl (p : Int))], [.inl 1], _)) rfl ?_
      exact b_ret (v := (some (.inl 1))) ⟨rfl, Or.inr ⟨rfl, Or.inr rfl⟩⟩ ⟨rfl, rfl⟩ rfl
    | succ j ih =>
      intro v  hij 
      have e1 := stp_le (rc i) (rc v)
      have e2 := rc i
      have e3 := rc v
      refine aGo okX8_isLonely 3 (f' := (7, [some (.inr 192), some (.inl (i : Int)), some (.inl (v : Int))], [.inl (p : Int), .inl (v : Int)], _)) rfl ?_
      refine b_ge (tgt := 50) okX8_isLonely rfl rfl ⟨by omega, by omega⟩ ⟨by omega, by omega⟩ (fun h7 => absurd h7 (by omega)) (fun h7 => ?_)
      refine aGo okX8_isLonely 2 (f' := (12, [some (.inr 192), some (.inl (i : Int)), some (.inl (v : Int))], [.inl (i : Int), .inl (v : Int)], _)) rfl ?_
      refine b_eq (tgt := 44) okX8_isLonely rfl rfl ⟨by omega, by omega⟩ ⟨by omega, by omega⟩ (fun h12 => ?_) (fun h12 => ?_)
      · refine aGo okX8_isLonely 2 (f' := (2, [some (.inr 192), some (.inl (i : Int)), some (.inl ((v : Int) + 1))], [], _)) rfl ?_
        exact ih (v + 1) (by omega)
      · refine aGo okX8_isLonely 2 (f' := (17, [some (.inr 192), some (.inl (i : Int)), some (.inl (v : Int))], [.inl (v : Int), .inr 192], _)) rfl ?_
        by_cases hc17 : v ≠ g
        · refine b_vV (as := [.inl (v : Int)]) (rest := []) (k := 192) (.inl 1) okX8_isLonely rfl lkX8_178 caX8_isThere (Nat.le_of_ble_eq_true rfl) rfl (Nat.le_of_ble_eq_true rfl) rfl rfl rfl (c_isTh_t hp7 hg (i := v) (by omega) hc17) ?_
          refine b0_eq (tgt := 44) okX8_isLonely rfl rfl ⟨by omega, by omega⟩ (fun h20 => absurd h20 (by omega)) (fun h20 => ?_)
          refine aGo okX8_isLonely 3 (f' := (28, [some (.inr 192), some (.inl (i : Int)), some (.inl (v : Int))], [.inl (i : Int), .inr 196], _)) rfl ?_
          refine b_ald (k := 196) (j := i) (a := c) okX8_isLonely rfl rfl (by omega) (by omega) (by omega) ?_
          refine aGo okX8_isLonely 3 (f' := (34, [some (.inr 192), some (.inl (i : Int)), some (.inl (v : Int))], [.inl (v : Int), .inr 196, .inl (c.getD i 0)], _)) rfl ?_
          refine b_ald (k := 196) (j := v) (a := c) okX8_isLonely rfl rfl (by omega) (by omega) (by omega) ?_
          refine b_vS (as := [.inl (c.getD i 0), .inl (c.getD v 0)]) (rest := []) (.inl (stp (c.getD i 0) (c.getD v 0))) okX8_isLonely rfl lkX8_181 caX8_steps (Nat.le_of_ble_eq_true rfl) rfl (Nat.le_of_ble_eq_true rfl) rfl (c_mSteps ⟨by omega, by omega⟩ ⟨by omega, by omega⟩) ?_
          refine aGo okX8_isLonely 1 (f' := (39, [some (.inr 192), some (.inl (i : Int)), some (.inl (v : Int))], [.inl 3, .inl (stp (c.getD i 0) (c.getD v 0))], _)) rfl ?_
          refine b_ge (tgt := 44) okX8_isLonely rfl rfl ⟨by omega, by omega⟩ ⟨by omega, by omega⟩ (fun h39 => ?_) (fun h39 => absurd h39 (by have := h2 v (by omega) (by omega) hc17; omega))
          refine aGo okX8_isLonely 2 (f' := (2, [some (.inr 192), some (.inl (i : Int)), some (.inl ((v : Int) + 1))], [], _)) rfl ?_
          exact ih (v + 1) (by omega)
        · refine b_vV (as := [.inl (v : Int)]) (rest := []) (k := 192) (.inl 0) okX8_isLonely rfl lkX8_178 caX8_isThere (Nat.le_of_ble_eq_true rfl) rfl (Nat.le_of_ble_eq_true rfl) rfl rfl rfl (c_isTh_f hp7 hg (i := v) (by omega) (by omega)) ?_
          refine b0_eq (tgt := 44) okX8_isLonely rfl rfl ⟨by omega, by omega⟩ (fun h20 => ?_) (fun h20 => absurd h20 (by omega))
          refine aGo okX8_isLonely 2 (f' := (2, [some (.inr 192), some (.inl (i : Int)), some (.inl ((v : Int) + 1))], [], _)) rfl ?_
          exact ih (v + 1) (by omega)
  refine aGo okX8_isLonely 2 (f' := (2, [some (.inr 192), some (.inl (i : Int)), some (.inl 0)], [], _)) rfl ?_
  exact lp p 0 (by omega)
set_option maxRecDepth 100000 in
set_option maxHeartbeats 4000000 in
theorem c_lonely_f (hp7 : p ≤ 7) (hg : g ≤ 7) (hc : c.length = 7) (rc : rng c 35) {i : Nat} (hi : i < 7) (h : ¬ 3 ≤ nearG p c g i) : aEv mX8_isLonely 2 0 0 N [.inr 192, .inl (i : Int)] [A0, A1, A2, A3, A4, A5, (modSeg re k f c n kp l tp le la td kt sh so had gr fi se to (p : Int) t d tl at_ sn him ik cu (ouB g) st rm)] ((aQx (some (.inl 0)) [A0, A1, A2, A3, A4, A5, (modSeg re k f c n kp l tp le la td kt sh so had gr fi se to (p : Int) t d tl at_ sn him ik cu (ouB g) st rm)])) := by
  have h2 : ∃ e, 0 ≤ e ∧ e < p ∧ e ≠ i ∧ e ≠ g ∧ stp (c.getD i 0) (c.getD e 0) < 3 := by
    rcases Classical.em (∃ e, 0 ≤ e ∧ e < p ∧ e ≠ i ∧ e ≠ g ∧ stp (c.getD i 0) (c.getD e 0) < 3) with z | z
    · exact z
    · exact absurd (nearG_iff.mpr fun q hq h1 h2 => by
        rcases Int.lt_or_le (stp (c.getD i 0) (c.getD q 0)) 3 with y | y
        · exact absurd ⟨q, Nat.zero_le q, hq, h1, h2, y⟩ z
        · exact y) h
  refine aEv_of okX8_isLonely caX8_isLonely (Nat.le_of_ble_eq_true rfl) ?_
  have lp : ∀ (j v : Nat), v + j = p → (∃ e, v ≤ e ∧ e < p ∧ e ≠ i ∧ e ≠ g ∧ stp (c.getD i 0) (c.getD e 0) < 3) → AW mX8_isLonely 2 0 0 N none (aQx (some (.inl 0)) [A0, A1, A2, A3, A4, A5, (modSeg re k f c n kp l tp le la td kt sh so had gr fi se to (p : Int) t d tl at_ sn him ik cu (ouB g) st rm)]) (2, [some (.inr 192), some (.inl (i : Int)), some (.inl (v : Int))], [], [A0, A1, A2, A3, A4, A5, (modSeg re k f c n kp l tp le la td kt sh so had gr fi se to (p : Int) t d tl at_ sn him ik cu (ouB g) st rm)]) := by
    intro j
    induction j with
    | zero =>
      intro v  hij h1
      obtain ⟨w, g1, g2, g3⟩ := h1
      omega
    | succ j ih =>
      intro v  hij h1
      have e1 := stp_le (rc i) (rc v)
      have e2 := rc i
      have e3 := rc v
      refine aGo okX8_isLonely 3 (f' := (7, [some (.inr 192), some (.inl (i : Int)), some (.inl (v : Int))], [.inl (p : Int), .inl (v : Int)], _)) rfl ?_
      refine b_ge (tgt := 50) okX8_isLonely rfl rfl ⟨by omega, by omega⟩ ⟨by omega, by omega⟩ (fun h7 => absurd h7 (by omega)) (fun h7 => ?_)
      refine aGo okX8_isLonely 2 (f' := (12, [some (.inr 192), some (.inl (i : Int)), some (.inl (v : Int))], [.inl (i : Int), .inl (v : Int)], _)) rfl ?_
      refine b_eq (tgt := 44) okX8_isLonely rfl rfl ⟨by omega, by omega⟩ ⟨by omega, by omega⟩ (fun h12 => ?_) (fun h12 => ?_)
      · refine aGo okX8_isLonely 2 (f' := (2, [some (.inr 192), some (.inl (i : Int)), some (.inl ((v : Int) + 1))], [], _)) rfl ?_
        exact ih (v + 1) (by omega) (by
          obtain ⟨e, g1, g2, g3, g4, g5⟩ := h1
          refine ⟨e, ?_, g2, g3, g4, g5⟩
          by_cases hw : e = v
          · subst hw; omega
          · omega)
      · refine aGo okX8_isLonely 2 (f' := (17, [some (.inr 192), some (.inl (i : Int)), some (.inl (v : Int))], [.inl (v : Int), .inr 192], _)) rfl ?_
        by_cases hc17 : v ≠ g
        · refine b_vV (as := [.inl (v : Int)]) (rest := []) (k := 192) (.inl 1) okX8_isLonely rfl lkX8_178 caX8_isThere (Nat.le_of_ble_eq_true rfl) rfl (Nat.le_of_ble_eq_true rfl) rfl rfl rfl (c_isTh_t hp7 hg (i := v) (by omega) hc17) ?_
          refine b0_eq (tgt := 44) okX8_isLonely rfl rfl ⟨by omega, by omega⟩ (fun h20 => absurd h20 (by omega)) (fun h20 => ?_)
          refine aGo okX8_isLonely 3 (f' := (28, [some (.inr 192), some (.inl (i : Int)), some (.inl (v : Int))], [.inl (i : Int), .inr 196], _)) rfl ?_
          refine b_ald (k := 196) (j := i) (a := c) okX8_isLonely rfl rfl (by omega) (by omega) (by omega) ?_
          refine aGo okX8_isLonely 3 (f' := (34, [some (.inr 192), some (.inl (i : Int)), some (.inl (v : Int))], [.inl (v : Int), .inr 196, .inl (c.getD i 0)], _)) rfl ?_
          refine b_ald (k := 196) (j := v) (a := c) okX8_isLonely rfl rfl (by omega) (by omega) (by omega) ?_
          refine b_vS (as := [.inl (c.getD i 0), .inl (c.getD v 0)]) (rest := []) (.inl (stp (c.getD i 0) (c.getD v 0))) okX8_isLonely rfl lkX8_181 caX8_steps (Nat.le_of_ble_eq_true rfl) rfl (Nat.le_of_ble_eq_true rfl) rfl (c_mSteps ⟨by omega, by omega⟩ ⟨by omega, by omega⟩) ?_
          refine aGo okX8_isLonely 1 (f' := (39, [some (.inr 192), some (.inl (i : Int)), some (.inl (v : Int))], [.inl 3, .inl (stp (c.getD i 0) (c.getD v 0))], _)) rfl ?_
          refine b_ge (tgt := 44) okX8_isLonely rfl rfl ⟨by omega, by omega⟩ ⟨by omega, by omega⟩ (fun h39 => ?_) (fun h39 => ?_)
          · refine aGo okX8_isLonely 2 (f' := (2, [some (.inr 192), some (.inl (i : Int)), some (.inl ((v : Int) + 1))], [], _)) rfl ?_
            exact ih (v + 1) (by omega) (by
              obtain ⟨e, g1, g2, g3, g4, g5⟩ := h1
              refine ⟨e, ?_, g2, g3, g4, g5⟩
              by_cases hw : e = v
              · subst hw; omega
              · omega)
          · refine aGo okX8_isLonely 1 (f' := (43, [some (.inr 192), some (.inl (i : Int)), some (.inl (v : Int))], [.inl 0], _)) rfl ?_
            exact b_ret (v := (some (.inl 0))) ⟨rfl, Or.inr ⟨rfl, Or.inl rfl⟩⟩ ⟨rfl, rfl⟩ rfl
        · refine b_vV (as := [.inl (v : Int)]) (rest := []) (k := 192) (.inl 0) okX8_isLonely rfl lkX8_178 caX8_isThere (Nat.le_of_ble_eq_true rfl) rfl (Nat.le_of_ble_eq_true rfl) rfl rfl rfl (c_isTh_f hp7 hg (i := v) (by omega) (by omega)) ?_
          refine b0_eq (tgt := 44) okX8_isLonely rfl rfl ⟨by omega, by omega⟩ (fun h20 => ?_) (fun h20 => absurd h20 (by omega))
          refine aGo okX8_isLonely 2 (f' := (2, [some (.inr 192), some (.inl (i : Int)), some (.inl ((v : Int) + 1))], [], _)) rfl ?_
          exact ih (v + 1) (by omega) (by
            obtain ⟨e, g1, g2, g3, g4, g5⟩ := h1
            refine ⟨e, ?_, g2, g3, g4, g5⟩
            by_cases hw : e = v
            · subst hw; omega
            · omega)
  refine aGo okX8_isLonely 2 (f' := (2, [some (.inr 192), some (.inl (i : Int)), some (.inl 0)], [], _)) rfl ?_
  exact lp p 0 (by omega) h2
set_option maxRecDepth 100000 in
set_option maxHeartbeats 4000000 in
theorem c_weightOf (hp7 : p ≤ 7) (hg : g ≤ 7) (hk : k.length = 7) (hf : f.length = 7) (hc : c.length = 7) (rk : rng k 5) (rf : rng f 9) (rc : rng c 35) {i : Nat} (hi : i < 7) : aEv mX8_weightOf 3 0 0 N [.inr 192, .inl (i : Int)] [A0, A1, A2, A3, A4, A5, (modSeg re k f c n kp l tp le la td kt sh so had gr fi se to (p : Int) t d tl at_ sn him ik cu (ouB g) st rm)] (aQx (some (.inl (wG p k f c g i))) [A0, A1, A2, A3, A4, A5, (modSeg re k f c n kp l tp le la td kt sh so had gr fi se to (p : Int) t d tl at_ sn him ik cu (ouB g) st rm)]) := by
  have e1 := farG_le rc hp7 g i
  have e2 := rk i
  have e3 := rf i
  refine aEv_of okX8_weightOf caX8_weightOf (Nat.le_of_ble_eq_true rfl) ?_
  refine aGo okX8_weightOf 2 (f' := (2, [some (.inr 192), some (.inl (i : Int)), none], [.inl (i : Int), .inr 192], _)) rfl ?_
  refine b_vV (as := [.inl (i : Int)]) (rest := []) (k := 192) (.inl (max 1 (sumN p (farT c g i)))) okX8_weightOf rfl lkX8_187 caX8_stepsOf (Nat.le_of_ble_eq_true rfl) rfl (Nat.le_of_ble_eq_true rfl) rfl rfl rfl (c_stepsOf hp7 hg hc rc (i := i) (by omega)) ?_
  refine aGo okX8_weightOf 4 (f' := (11, [some (.inr 192), some (.inl (i : Int)), some (.inl (max 1 (sumN p (farT c g i))))], [.inl (i : Int), .inr 194], _)) rfl ?_
  refine b_ald (k := 194) (j := i) (a := k) okX8_weightOf rfl rfl (by omega) (by omega) (by omega) ?_
  by_cases hs12 : 0 ≤ (k.getD i 0) ∧ (k.getD i 0) ≤ 4
  · have hsx := (show (k.getD i 0) = 0 ∨ (k.getD i 0) = 1 ∨ (k.getD i 0) = 2 ∨ (k.getD i 0) = 3 ∨ (k.getD i 0) = 4 from by omega)
    rcases hsx with hsw | hsw | hsw | hsw | hsw
    · refine b_cast (f' := (12, [some (.inr 192), some (.inl (i : Int)), some (.inl (max 1 (sumN p (farT c g i))))], [.inl 0], [A0, A1, A2, A3, A4, A5, (modSeg re k f c n kp l tp le la td kt sh so had gr fi se to (p : Int) t d tl at_ sn him ik cu (ouB g) st rm)])) (congrArg (fun zz : Int => ((12, [some (.inr 192), some (.inl (i : Int)), some (.inl (max 1 (sumN p (farT c g i))))], .inl zz :: [], [A0, A1, A2, A3, A4, A5, (modSeg re k f c n kp l tp le la td kt sh so had gr fi se to (p : Int) t d tl at_ sn him ik cu (ouB g) st rm)]) : aF)) hsw) ?_
      refine b_swIn (tgt := 48) okX8_weightOf rfl ⟨by decide, by decide⟩ (by decide) (by decide) rfl rfl ?_
      refine aGo okX8_weightOf 1 (f' := (49, [some (.inr 192), some (.inl (i : Int)), some (.inl (max 1 (sumN p (farT c g i))))], [.inl (max 1 (sumN p (farT c g i)))], _)) rfl ?_
      exact b_ret (v := (some (.inl (max 1 (sumN p (farT c g i)))))) ⟨rfl, Or.inl rfl⟩ ⟨congrArg (fun q : Int => (some (.inl q) : Option aV)) ((wG_0 hsw).symm), rfl⟩ rfl
    · refine b_cast (f' := (12, [some (.inr 192), some (.inl (i : Int)), some (.inl (max 1 (sumN p (farT c g i))))], [.inl 1], [A0, A1, A2, A3, A4, A5, (modSeg re k f c n kp l tp le la td kt sh so had gr fi se to (p : Int) t d tl at_ sn him ik cu (ouB g) st rm)])) (congrArg (fun zz : Int => ((12, [some (.inr 192), some (.inl (i : Int)), some (.inl (max 1 (sumN p (farT c g i))))], .inl zz :: [], [A0, A1, A2, A3, A4, A5, (modSeg re k f c n kp l tp le la td kt sh so had gr fi se to (p : Int) t d tl at_ sn him ik cu (ouB g) st rm)]) : aF)) hsw) ?_
      refine b_swIn (tgt := 50) okX8_weightOf rfl ⟨by decide, by decide⟩ (by decide) (by decide) rfl rfl ?_
      refine aGo okX8_weightOf 4 (f' := (56, [some (.inr 192), some (.inl (i : Int)), some (.inl (max 1 (sumN p (farT c g i))))], [.inl (i : Int), .inr 195, .inl (max 1 (sumN p (farT c g i)))], _)) rfl ?_
      refine b_ald (k := 195) (j := i) (a := f) okX8_weightOf rfl rfl (by omega) (by omega) (by omega) ?_
      refine aGo okX8_weightOf 1 (f' := (58, [some (.inr 192), some (.inl (i : Int)), some (.inl (max 1 (sumN p (farT c g i))))], [.inl ((max 1 (sumN p (farT c g i))) + (f.getD i 0))], _)) rfl ?_
      exact b_ret (v := (some (.inl ((max 1 (sumN p (farT c g i))) + (f.getD i 0))))) ⟨rfl, Or.inl rfl⟩ ⟨congrArg (fun q : Int => (some (.inl q) : Option aV)) ((wG_1 hsw).symm), rfl⟩ rfl
    · refine b_cast (f' := (12, [some (.inr 192), some (.inl (i : Int)), some (.inl (max 1 (sumN p (farT c g i))))], [.inl 2], [A0, A1, A2, A3, A4, A5, (modSeg re k f c n kp l tp le la td kt sh so had gr fi se to (p : Int) t d tl at_ sn him ik cu (ouB g) st rm)])) (congrArg (fun zz : Int => ((12, [some (.inr 192), some (.inl (i : Int)), some (.inl (max 1 (sumN p (farT c g i))))], .inl zz :: [], [A0, A1, A2, A3, A4, A5, (modSeg re k f c n kp l tp le la td kt sh so had gr fi se to (p : Int) t d tl at_ sn him ik cu (ouB g) st rm)]) : aF)) hsw) ?_
      refine b_swIn (tgt := 59) okX8_weightOf rfl ⟨by decide, by decide⟩ (by decide) (by decide) rfl rfl ?_
      refine aGo okX8_weightOf 3 (f' := (62, [some (.inr 192), some (.inl (i : Int)), some (.inl (max 1 (sumN p (farT c g i))))], [.inl (2 * (max 1 (sumN p (farT c g i))))], _)) rfl ?_
      exact b_ret (v := (some (.inl (2 * (max 1 (sumN p (farT c g i))))))) ⟨rfl, Or.inl rfl⟩ ⟨congrArg (fun q : Int => (some (.inl q) : Option aV)) ((wG_2 hsw).symm), rfl⟩ rfl
    · refine b_cast (f' := (12, [some (.inr 192), some (.inl (i : Int)), some (.inl (max 1 (sumN p (farT c g i))))], [.inl 3], [A0, A1, A2, A3, A4, A5, (modSeg re k f c n kp l tp le la td kt sh so had gr fi se to (p : Int) t d tl at_ sn him ik cu (ouB g) st rm)])) (congrArg (fun zz : Int => ((12, [some (.inr 192), some (.inl (i : Int)), some (.inl (max 1 (sumN p (farT c g i))))], .inl zz :: [], [A0, A1, A2, A3, A4, A5, (modSeg re k f c n kp l tp le la td kt sh so had gr fi se to (p : Int) t d tl at_ sn him ik cu (ouB g) st rm)]) : aF)) hsw) ?_
      refine b_swIn (tgt := 63) okX8_weightOf rfl ⟨by decide, by decide⟩ (by decide) (by decide) rfl rfl ?_
      refine aGo okX8_weightOf 2 (f' := (65, [some (.inr 192), some (.inl (i : Int)), some (.inl (max 1 (sumN p (farT c g i))))], [.inl 2, .inl (max 1 (sumN p (farT c g i)))], _)) rfl ?_
      refine b_div okX8_weightOf rfl ⟨by omega, by omega⟩ ⟨by omega, by omega⟩ ?_
      refine aGo okX8_weightOf 1 (f' := (67, [some (.inr 192), some (.inl (i : Int)), some (.inl (max 1 (sumN p (farT c g i))))], [.inl 1, .inl ((max 1 (sumN p (farT c g i))) / 2)], _)) rfl ?_
      refine b_vS (as := [.inl ((max 1 (sumN p (farT c g i))) / 2), .inl 1]) (rest := []) (.inl (max 1 ((max 1 (sumN p (farT c g i))) / 2))) okX8_weightOf rfl lkX8_184 caX8_atLeast (Nat.le_of_ble_eq_true rfl) rfl (Nat.le_of_ble_eq_true rfl) rfl (c_atLeast ⟨by omega, by omega⟩ ⟨by omega, by omega⟩) ?_
      exact b_ret (v := (some (.inl (max 1 ((max 1 (sumN p (farT c g i))) / 2))))) ⟨rfl, Or.inl rfl⟩ ⟨congrArg (fun q : Int => (some (.inl q) : Option aV)) ((wG_3 hsw).symm), rfl⟩ rfl
    · refine b_cast (f' := (12, [some (.inr 192), some (.inl (i : Int)), some (.inl (max 1 (sumN p (farT c g i))))], [.inl 4], [A0, A1, A2, A3, A4, A5, (modSeg re k f c n kp l tp le la td kt sh so had gr fi se to (p : Int) t d tl at_ sn him ik cu (ouB g) st rm)])) (congrArg (fun zz : Int => ((12, [some (.inr 192), some (.inl (i : Int)), some (.inl (max 1 (sumN p (farT c g i))))], .inl zz :: [], [A0, A1, A2, A3, A4, A5, (modSeg re k f c n kp l tp le la td kt sh so had gr fi se to (p : Int) t d tl at_ sn him ik cu (ouB g) st rm)]) : aF)) hsw) ?_
      refine b_swIn (tgt := 71) okX8_weightOf rfl ⟨by decide, by decide⟩ (by decide) (by decide) rfl rfl ?_
      refine aGo okX8_weightOf 4 (f' := (77, [some (.inr 192), some (.inl (i : Int)), some (.inl (max 1 (sumN p (farT c g i))))], [.inl (i : Int), .inr 195, .inl (max 1 (sumN p (farT c g i)))], _)) rfl ?_
      refine b_ald (k := 195) (j := i) (a := f) okX8_weightOf rfl rfl (by omega) (by omega) (by omega) ?_
      refine aGo okX8_weightOf 3 (f' := (81, [some (.inr 192), some (.inl (i : Int)), some (.inl (max 1 (sumN p (farT c g i))))], [.inl (i : Int), .inr 192, .inl ((max 1 (sumN p (farT c g i))) + (f.getD i 0))], _)) rfl ?_
      by_cases hc81 : 3 ≤ nearG p c g i
      · refine b_vV (as := [.inl (i : Int)]) (rest := [.inl ((max 1 (sumN p (farT c g i))) + (f.getD i 0))]) (k := 192) (.inl 1) okX8_weightOf rfl lkX8_190 caX8_isLonely (Nat.le_of_ble_eq_true rfl) rfl (Nat.le_of_ble_eq_true rfl) rfl rfl rfl (c_lonely_t hp7 hg hc rc (i := i) (by omega) hc81) ?_
        refine b0_eq (tgt := 91) okX8_weightOf rfl rfl ⟨by omega, by omega⟩ (fun h84 => absurd h84 (by omega)) (fun h84 => ?_)
        refine aGo okX8_weightOf 3 (f' := (93, [some (.inr 192), some (.inl (i : Int)), some (.inl (max 1 (sumN p (farT c g i))))], [.inl (((max 1 (sumN p (farT c g i))) + (f.getD i 0)) + 5)], _)) rfl ?_
        exact b_ret (v := (some (.inl (((max 1 (sumN p (farT c g i))) + (f.getD i 0)) + 5)))) ⟨rfl, Or.inl rfl⟩ ⟨congrArg (fun q : Int => (some (.inl q) : Option aV)) ((wG_4t hsw hc81).symm), rfl⟩ rfl
      · refine b_vV (as := [.inl (i : Int)]) (rest := [.inl ((max 1 (sumN p (farT c g i))) + (f.getD i 0))]) (k := 192) (.inl 0) okX8_weightOf rfl lkX8_190 caX8_isLonely (Nat.le_of_ble_eq_true rfl) rfl (Nat.le_of_ble_eq_true rfl) rfl rfl rfl (c_lonely_f hp7 hg hc rc (i := i) (by omega) hc81) ?_
        refine b0_eq (tgt := 91) okX8_weightOf rfl rfl ⟨by omega, by omega⟩ (fun h84 => ?_) (fun h84 => absurd h84 (by omega))
        refine aGo okX8_weightOf 2 (f' := (93, [some (.inr 192), some (.inl (i : Int)), some (.inl (max 1 (sumN p (farT c g i))))], [.inl (((max 1 (sumN p (farT c g i))) + (f.getD i 0)) + 0)], _)) rfl ?_
        exact b_ret (v := (some (.inl (((max 1 (sumN p (farT c g i))) + (f.getD i 0)) + 0)))) ⟨rfl, Or.inl rfl⟩ ⟨congrArg (fun q : Int => (some (.inl q) : Option aV)) (by rw [wG_4f hsw hc81]; omega), rfl⟩ rfl
  · refine b_swOut (tgt := 94) okX8_weightOf rfl ⟨by omega, by omega⟩ (by omega) rfl ?_
    refine aGo okX8_weightOf 2 (f' := (96, [some (.inr 192), some (.inl (i : Int)), some (.inl (max 1 (sumN p (farT c g i))))], [.inl 2, .inl (max 1 (sumN p (farT c g i)))], _)) rfl ?_
    refine b_div okX8_weightOf rfl ⟨by omega, by omega⟩ ⟨by omega, by omega⟩ ?_
    refine aGo okX8_weightOf 1 (f' := (98, [some (.inr 192), some (.inl (i : Int)), some (.inl (max 1 (sumN p (farT c g i))))], [.inl 1, .inl ((max 1 (sumN p (farT c g i))) / 2)], _)) rfl ?_
    refine b_vS (as := [.inl ((max 1 (sumN p (farT c g i))) / 2), .inl 1]) (rest := []) (.inl (max 1 ((max 1 (sumN p (farT c g i))) / 2))) okX8_weightOf rfl lkX8_184 caX8_atLeast (Nat.le_of_ble_eq_true rfl) rfl (Nat.le_of_ble_eq_true rfl) rfl (c_atLeast ⟨by omega, by omega⟩ ⟨by omega, by omega⟩) ?_
    refine aGo okX8_weightOf 3 (f' := (106, [some (.inr 192), some (.inl (i : Int)), some (.inl (max 1 (sumN p (farT c g i))))], [.inl (i : Int), .inr 195, .inl (max 1 ((max 1 (sumN p (farT c g i))) / 2))], _)) rfl ?_
    refine b_ald (k := 195) (j := i) (a := f) okX8_weightOf rfl rfl (by omega) (by omega) (by omega) ?_
    refine aGo okX8_weightOf 2 (f' := (109, [some (.inr 192), some (.inl (i : Int)), some (.inl (max 1 (sumN p (farT c g i))))], [.inl 1, .inl ((max 1 ((max 1 (sumN p (farT c g i))) / 2)) - (f.getD i 0))], _)) rfl ?_
    refine b_vS (as := [.inl ((max 1 ((max 1 (sumN p (farT c g i))) / 2)) - (f.getD i 0)), .inl 1]) (rest := []) (.inl (max 1 ((max 1 ((max 1 (sumN p (farT c g i))) / 2)) - (f.getD i 0)))) okX8_weightOf rfl lkX8_184 caX8_atLeast (Nat.le_of_ble_eq_true rfl) rfl (Nat.le_of_ble_eq_true rfl) rfl (c_atLeast ⟨by omega, by omega⟩ ⟨by omega, by omega⟩) ?_
    exact b_ret (v := (some (.inl (max 1 ((max 1 ((max 1 (sumN p (farT c g i))) / 2)) - (f.getD i 0)))))) ⟨rfl, Or.inl rfl⟩ ⟨congrArg (fun q : Int => (some (.inl q) : Option aV)) ((wG_5 (by omega)).symm), rfl⟩ rfl
set_option maxRecDepth 100000 in
set_option maxHeartbeats 4000000 in
theorem c_allWeights (hp7 : p ≤ 7) (hg : g ≤ 7) (hk : k.length = 7) (hf : f.length = 7) (hc : c.length = 7) (rk : rng k 5) (rf : rng f 9) (rc : rng c 35) : aEv mX8_allWeights 4 0 0 N [.inr 192] [A0, A1, A2, A3, A4, A5, (modSeg re k f c n kp l tp le la td kt sh so had gr fi se to (p : Int) t d tl at_ sn him ik cu (ouB g) st rm)] ((aQx (some (.inl (sumN p (wZ p k f c g)))) [A0, A1, A2, A3, A4, A5, (modSeg re k f c n kp l tp le la td kt sh so had gr fi se to (p : Int) t d tl at_ sn him ik cu (ouB g) st rm)])) := by
  refine aEv_of okX8_allWeights caX8_allWeights (Nat.le_of_ble_eq_true rfl) ?_
  have lp : ∀ (j v : Nat), v + j = p → AW mX8_allWeights 4 0 0 N none (aQx (some (.inl (sumN p (wZ p k f c g)))) [A0, A1, A2, A3, A4, A5, (modSeg re k f c n kp l tp le la td kt sh so had gr fi se to (p : Int) t d tl at_ sn him ik cu (ouB g) st rm)]) (4, [some (.inr 192), some (.inl (sumN v (wZ p k f c g))), some (.inl (v : Int))], [], [A0, A1, A2, A3, A4, A5, (modSeg re k f c n kp l tp le la td kt sh so had gr fi se to (p : Int) t d tl at_ sn him ik cu (ouB g) st rm)]) := by
    intro j
    induction j with
    | zero =>
      intro v  hij 
      obtain rfl : p = v := by omega
      refine aGo okX8_allWeights 3 (f' := (9, [some (.inr 192), some (.inl (sumN p (wZ p k f c g))), some (.inl (p : Int))], [.inl (p : Int), .inl (p : Int)], _)) rfl ?_
      refine b_ge (tgt := 38) okX8_allWeights rfl rfl ⟨by omega, by omega⟩ ⟨by omega, by omega⟩ (fun h9 => ?_) (fun h9 => absurd h9 (by omega))
      refine aGo okX8_allWeights 1 (f' := (39, [some (.inr 192), some (.inl (sumN p (wZ p k f c g))), some (.inl (p : Int))], [.inl (sumN p (wZ p k f c g))], _)) rfl ?_
      exact b_ret (v := (some (.inl (sumN p (wZ p k f c g))))) ⟨rfl, Or.inl rfl⟩ ⟨rfl, rfl⟩ rfl
    | succ j ih =>
      intro v  hij 
      refine aGo okX8_allWeights 3 (f' := (9, [some (.inr 192), some (.inl (sumN v (wZ p k f c g))), some (.inl (v : Int))], [.inl (p : Int), .inl (v : Int)], _)) rfl ?_
      refine b_ge (tgt := 38) okX8_allWeights rfl rfl ⟨by omega, by omega⟩ ⟨by omega, by omega⟩ (fun h9 => absurd h9 (by omega)) (fun h9 => ?_)
      refine aGo okX8_allWeights 3 (f' := (15, [some (.inr 192), some (.inl (sumN v (wZ p k f c g))), some (.inl (v : Int))], [.inl (v : Int), .inr 192, .inl (sumN v (wZ p k f c g))], _)) rfl ?_
      by_cases hc15 : v ≠ g
      · refine b_vV (as := [.inl (v : Int)]) (rest := [.inl (sumN v (wZ p k f c g))]) (k := 192) (.inl 1) okX8_allWeights rfl lkX8_178 caX8_isThere (Nat.le_of_ble_eq_true rfl) rfl (Nat.le_of_ble_eq_true rfl) rfl rfl rfl (c_isTh_t hp7 hg (i := v) (by omega) hc15) ?_
        refine b0_eq (tgt := 29) okX8_allWeights rfl rfl ⟨by omega, by omega⟩ (fun h18 => absurd h18 (by omega)) (fun h18 => ?_)
        refine aGo okX8_allWeights 2 (f' := (23, [some (.inr 192), some (.inl (sumN v (wZ p k f c g))), some (.inl (v : Int))], [.inl (v : Int), .inr 192, .inl (sumN v (wZ p k f c g))], _)) rfl ?_
        refine b_vV (as := [.inl (v : Int)]) (rest := [.inl (sumN v (wZ p k f c g))]) (k := 192) (.inl (wG p k f c g v)) okX8_allWeights rfl lkX8_193 caX8_weightOf (Nat.le_of_ble_eq_true rfl) rfl (Nat.le_of_ble_eq_true rfl) rfl rfl rfl (c_weightOf hp7 hg hk hf hc rk rf rc (i := v) (by omega)) ?_
        refine aGo okX8_allWeights 5 (f' := (4, [some (.inr 192), some (.inl ((sumN v (wZ p k f c g)) + (wG p k f c g v))), some (.inl ((v : Int) + 1))], [], _)) rfl ?_
        refine b_cast (f' := (4, [some (.inr 192), some (.inl (sumN (v + 1) (wZ p k f c g))), some (.inl ((v : Int) + 1))], [], [A0, A1, A2, A3, A4, A5, (modSeg re k f c n kp l tp le la td kt sh so had gr fi se to (p : Int) t d tl at_ sn him ik cu (ouB g) st rm)])) (congrArg (fun q : Int => ((4, [some (.inr 192), some (.inl q), some (.inl ((v : Int) + 1))], [], [A0, A1, A2, A3, A4, A5, (modSeg re k f c n kp l tp le la td kt sh so had gr fi se to (p : Int) t d tl at_ sn him ik cu (ouB g) st rm)]) : aF)) ((by show _ = sumN v (wZ p k f c g) + (wZ p k f c g) v; rw [wZ_f hc15]))) ?_
        exact ih (v + 1) (by omega)
      · refine b_vV (as := [.inl (v : Int)]) (rest := [.inl (sumN v (wZ p k f c g))]) (k := 192) (.inl 0) okX8_allWeights rfl lkX8_178 caX8_isThere (Nat.le_of_ble_eq_true rfl) rfl (Nat.le_of_ble_eq_true rfl) rfl rfl rfl (c_isTh_f hp7 hg (i := v) (by omega) (by omega)) ?_
        refine b0_eq (tgt := 29) okX8_allWeights rfl rfl ⟨by omega, by omega⟩ (fun h18 => ?_) (fun h18 => absurd h18 (by omega))
        refine aGo okX8_allWeights 5 (f' := (4, [some (.inr 192), some (.inl ((sumN v (wZ p k f c g)) + 0)), some (.inl ((v : Int) + 1))], [], _)) rfl ?_
        refine b_cast (f' := (4, [some (.inr 192), some (.inl (sumN (v + 1) (wZ p k f c g))), some (.inl ((v : Int) + 1))], [], [A0, A1, A2, A3, A4, A5, (modSeg re k f c n kp l tp le la td kt sh so had gr fi se to (p : Int) t d tl at_ sn him ik cu (ouB g) st rm)])) (congrArg (fun q : Int => ((4, [some (.inr 192), some (.inl q), some (.inl ((v : Int) + 1))], [], [A0, A1, A2, A3, A4, A5, (modSeg re k f c n kp l tp le la td kt sh so had gr fi se to (p : Int) t d tl at_ sn him ik cu (ouB g) st rm)]) : aF)) ((by show _ = sumN v (wZ p k f c g) + (wZ p k f c g) v; rw [wZ_t hc15]))) ?_
        exact ih (v + 1) (by omega)
  refine aGo okX8_allWeights 4 (f' := (4, [some (.inr 192), some (.inl 0), some (.inl 0)], [], _)) rfl ?_
  exact lp p 0 (by omega)
set_option maxRecDepth 100000 in
set_option maxHeartbeats 4000000 in
theorem c_mNet (hp7 : p ≤ 7) (hg : g ≤ 7) (hl : l.length = 49) {i : Nat} (hi : i < 7) : aEv mX8_netOf 2 0 0 N [.inr 192, .inl (i : Int)] [A0, A1, A2, A3, A4, A5, (modSeg re k f c n kp l tp le la td kt sh so had gr fi se to (p : Int) t d tl at_ sn him ik cu (ouB g) st rm)] ((aQx (some (.inl (sumN p (netT l g i)))) [A0, A1, A2, A3, A4, A5, (modSeg re k f c n kp l tp le la td kt sh so had gr fi se to (p : Int) t d tl at_ sn him ik cu (ouB g) st rm)])) := by
  refine aEv_of okX8_netOf caX8_netOf (Nat.le_of_ble_eq_true rfl) ?_
  have lp : ∀ (j v : Nat), v + j = p → AW mX8_netOf 2 0 0 N none (aQx (some (.inl (sumN p (netT l g i)))) [A0, A1, A2, A3, A4, A5, (modSeg re k f c n kp l tp le la td kt sh so had gr fi se to (p : Int) t d tl at_ sn him ik cu (ouB g) st rm)]) (4, [some (.inr 192), some (.inl (i : Int)), some (.inl (sumN v (netT l g i))), some (.inl (v : Int))], [], [A0, A1, A2, A3, A4, A5, (modSeg re k f c n kp l tp le la td kt sh so had gr fi se to (p : Int) t d tl at_ sn him ik cu (ouB g) st rm)]) := by
    intro j
    induction j with
    | zero =>
      intro v  hij 
      obtain rfl : p = v := by omega
      refine aGo okX8_netOf 3 (f' := (9, [some (.inr 192), some (.inl (i : Int)), some (.inl (sumN p (netT l g i))), some (.inl (p : Int))], [.inl (p : Int), .inl (p : Int)], _)) rfl ?_
      refine b_ge (tgt := 56) okX8_netOf rfl rfl ⟨by omega, by omega⟩ ⟨by omega, by omega⟩ (fun h9 => ?_) (fun h9 => absurd h9 (by omega))
      refine aGo okX8_netOf 1 (f' := (57, [some (.inr 192), some (.inl (i : Int)), some (.inl (sumN p (netT l g i))), some (.inl (p : Int))], [.inl (sumN p (netT l g i))], _)) rfl ?_
      exact b_ret (v := (some (.inl (sumN p (netT l g i))))) ⟨rfl, Or.inl rfl⟩ ⟨rfl, rfl⟩ rfl
    | succ j ih =>
      intro v  hij 
      refine aGo okX8_netOf 3 (f' := (9, [some (.inr 192), some (.inl (i : Int)), some (.inl (sumN v (netT l g i))), some (.inl (v : Int))], [.inl (p : Int), .inl (v : Int)], _)) rfl ?_
      refine b_ge (tgt := 56) okX8_netOf rfl rfl ⟨by omega, by omega⟩ ⟨by omega, by omega⟩ (fun h9 => absurd h9 (by omega)) (fun h9 => ?_)
      refine aGo okX8_netOf 3 (f' := (15, [some (.inr 192), some (.inl (i : Int)), some (.inl (sumN v (netT l g i))), some (.inl (v : Int))], [.inl (v : Int), .inr 192, .inl (sumN v (netT l g i))], _)) rfl ?_
      by_cases hc15 : v ≠ g
      · refine b_vV (as := [.inl (v : Int)]) (rest := [.inl (sumN v (netT l g i))]) (k := 192) (.inl 1) okX8_netOf rfl lkX8_178 caX8_isThere (Nat.le_of_ble_eq_true rfl) rfl (Nat.le_of_ble_eq_true rfl) rfl rfl rfl (c_isTh_t hp7 hg (i := v) (by omega) hc15) ?_
        refine b0_eq (tgt := 47) okX8_netOf rfl rfl ⟨by omega, by omega⟩ (fun h18 => absurd h18 (by omega)) (fun h18 => ?_)
        refine aGo okX8_netOf 7 (f' := (31, [some (.inr 192), some (.inl (i : Int)), some (.inl (sumN v (netT l g i))), some (.inl (v : Int))], [.inl ((7 * (i : Int)) + (v : Int)), .inr 199, .inl (sumN v (netT l g i))], _)) rfl ?_
        refine b_ald (k := 199) (j := ((7 * i) + v)) (a := l) okX8_netOf rfl rfl (by omega) (by omega) (by omega) ?_
        refine aGo okX8_netOf 7 (f' := (42, [some (.inr 192), some (.inl (i : Int)), some (.inl (sumN v (netT l g i))), some (.inl (v : Int))], [.inl ((7 * (v : Int)) + (i : Int)), .inr 199, .inl (l.getD ((7 * i) + v) 0), .inl (sumN v (netT l g i))], _)) rfl ?_
        refine b_ald (k := 199) (j := ((7 * v) + i)) (a := l) okX8_netOf rfl rfl (by omega) (by omega) (by omega) ?_
        refine aGo okX8_netOf 6 (f' := (4, [some (.inr 192), some (.inl (i : Int)), some (.inl ((sumN v (netT l g i)) + ((l.getD ((7 * i) + v) 0) - (l.getD ((7 * v) + i) 0)))), some (.inl ((v : Int) + 1))], [], _)) rfl ?_
        refine b_cast (f' := (4, [some (.inr 192), some (.inl (i : Int)), some (.inl (sumN (v + 1) (netT l g i))), some (.inl ((v : Int) + 1))], [], [A0, A1, A2, A3, A4, A5, (modSeg re k f c n kp l tp le la td kt sh so had gr fi se to (p : Int) t d tl at_ sn him ik cu (ouB g) st rm)])) (congrArg (fun q : Int => ((4, [some (.inr 192), some (.inl (i : Int)), some (.inl q), some (.inl ((v : Int) + 1))], [], [A0, A1, A2, A3, A4, A5, (modSeg re k f c n kp l tp le la td kt sh so had gr fi se to (p : Int) t d tl at_ sn him ik cu (ouB g) st rm)]) : aF)) ((by show _ = sumN v (netT l g i) + (netT l g i) v; rw [netT_f hc15]))) ?_
        exact ih (v + 1) (by omega)
      · refine b_vV (as := [.inl (v : Int)]) (rest := [.inl (sumN v (netT l g i))]) (k := 192) (.inl 0) okX8_netOf rfl lkX8_178 caX8_isThere (Nat.le_of_ble_eq_true rfl) rfl (Nat.le_of_ble_eq_true rfl) rfl rfl rfl (c_isTh_f hp7 hg (i := v) (by omega) (by omega)) ?_
        refine b0_eq (tgt := 47) okX8_netOf rfl rfl ⟨by omega, by omega⟩ (fun h18 => ?_) (fun h18 => absurd h18 (by omega))
        refine aGo okX8_netOf 5 (f' := (4, [some (.inr 192), some (.inl (i : Int)), some (.inl ((sumN v (netT l g i)) + 0)), some (.inl ((v : Int) + 1))], [], _)) rfl ?_
        refine b_cast (f' := (4, [some (.inr 192), some (.inl (i : Int)), some (.inl (sumN (v + 1) (netT l g i))), some (.inl ((v : Int) + 1))], [], [A0, A1, A2, A3, A4, A5, (modSeg re k f c n kp l tp le la td kt sh so had gr fi se to (p : Int) t d tl at_ sn him ik cu (ouB g) st rm)])) (congrArg (fun q : Int => ((4, [some (.inr 192), some (.inl (i : Int)), some (.inl q), some (.inl ((v : Int) + 1))], [], [A0, A1, A2, A3, A4, A5, (modSeg re k f c n kp l tp le la td kt sh so had gr fi se to (p : Int) t d tl at_ sn him ik cu (ouB g) st rm)]) : aF)) ((by show _ = sumN v (netT l g i) + (netT l g i) v; rw [netT_t hc15]))) ?_
        exact ih (v + 1) (by omega)
  refine aGo okX8_netOf 4 (f' := (4, [some (.inr 192), some (.inl (i : Int)), some (.inl 0), some (.inl 0)], [], _)) rfl ?_
  exact lp p 0 (by omega)
set_option maxRecDepth 100000 in
set_option maxHeartbeats 4000000 in
theorem c_hasNow (hp7 : p ≤ 7) (hg : g ≤ 7) (hl : l.length = 49) (hsh : sh.length = 7) {i : Nat} (hi : i < 7) : aEv mX8_hasNow 3 0 0 N [.inr 192, .inl (i : Int)] [A0, A1, A2, A3, A4, A5, (modSeg re k f c n kp l tp le la td kt sh so had gr fi se to (p : Int) t d tl at_ sn him ik cu (ouB g) st rm)] (aQx (some (.inl (sh.getD i 0 - sumN p (netT l g i)))) [A0, A1, A2, A3, A4, A5, (modSeg re k f c n kp l tp le la td kt sh so had gr fi se to (p : Int) t d tl at_ sn him ik cu (ouB g) st rm)]) := by
  refine aEv_of okX8_hasNow caX8_hasNow (Nat.le_of_ble_eq_true rfl) ?_
  refine aGo okX8_hasNow 3 (f' := (5, [some (.inr 192), some (.inl (i : Int))], [.inl (i : Int), .inr 205], _)) rfl ?_
  refine b_ald (k := 205) (j := i) (a := sh) okX8_hasNow rfl rfl (by omega) (by omega) (by omega) ?_
  refine aGo okX8_hasNow 2 (f' := (8, [some (.inr 192), some (.inl (i : Int))], [.inl (i : Int), .inr 192, .inl (sh.getD i 0)], _)) rfl ?_
  refine b_vV (as := [.inl (i : Int)]) (rest := [.inl (sh.getD i 0)]) (k := 192) (.inl (sumN p (netT l g i))) okX8_hasNow rfl lkX8_199 caX8_netOf (Nat.le_of_ble_eq_true rfl) rfl (Nat.le_of_ble_eq_true rfl) rfl rfl rfl (c_mNet hp7 hg hl hi) ?_
  refine aGo okX8_hasNow 1 (f' := (12, [some (.inr 192), some (.inl (i : Int))], [.inl ((sh.getD i 0) - (sumN p (netT l g i)))], _)) rfl ?_
  exact b_ret (v := (some (.inl ((sh.getD i 0) - (sumN p (netT l g i)))))) ⟨rfl, Or.inl rfl⟩ ⟨rfl, rfl⟩ rfl
set_option maxRecDepth 100000 in
set_option maxHeartbeats 4000000 in
theorem c_findSharesG (hb : gH p k f c sh t) (hg : g ≤ 7) : aEv mX8_findShares 5 0 0 N [.inr 192] [A0, A1, A2, A3, A4, A5, (modSeg re k f c n kp l tp le la td kt sh so had gr fi se to (p : Int) t d tl at_ sn him ik cu (ouB g) st rm)] ((fun rv h => rv = none ∧ ∃ sh2 : List Int, sh2.length = 7 ∧ (∀ q, q < p → sh2.getD q 0 = shG p k f c t g q) ∧ h = [A0, A1, A2, A3, A4, A5, (modSeg re k f c n kp l tp le la td kt sh2 so had gr fi se to (p : Int) t d tl at_ sn him ik cu (ouB g) st rm)])) := by
  obtain ⟨hp7, hk, hf, hc, hsh, rk, rf, rc, ht0, ht1⟩ := hb
  have hle := lefS_le0 (p := p) (w := (wZ p k f c g)) ht0 (fun q _ => (wZ_le hp7 rf rc g q).1)
  refine aEv_of okX8_findShares caX8_findShares (Nat.le_of_ble_eq_true rfl) ?_
  have lq : ∀ (j2 v : Nat) (sh3 : List Int), v + j2 = p → (sh3.length = 7) → (∀ q, q < v → sh3.getD q 0 = shG p k f c t g q) → (∀ q, v ≤ q → q < p → sh3.getD q 0 = (cutS p (wZ p k f c g) t) q) → AW mX8_findShares 5 0 0 N none (fun rv h => rv = none ∧ ∃ sh2 : List Int, sh2.length = 7 ∧ (∀ q, q < p → sh2.getD q 0 = shG p k f c t g q) ∧ h = [A0, A1, A2, A3, A4, A5, (modSeg re k f c n kp l tp le la td kt sh2 so had gr fi se to (p : Int) t d tl at_ sn him ik cu (ouB g) st rm)]) (67, [some (.inr 192), some (.inl (sumN p (wZ p k f c g))), some (.inl (max 0 (lefS p (wZ p k f c g) t - (nwI g v : Int)))), some (.inl (v : Int))], [], [A0, A1, A2, A3, A4, A5, (modSeg re k f c n kp l tp le la td kt sh3 so had gr fi se to (p : Int) t d tl at_ sn him ik cu (ouB g) st rm)]) := by
    intro j2
    induction j2 with
    | zero =>
      intro v sh3 hij2 y1 y2 y3
      obtain rfl : p = v := by omega
      refine aGo okX8_findShares 3 (f' := (72, [some (.inr 192), some (.inl (sumN p (wZ p k f c g))), some (.inl (max 0 (lefS p (wZ p k f c g) t - (nwI g p : Int)))), some (.inl (p : Int))], [.inl (p : Int), .inl (p : Int)], _)) rfl ?_
      refine b_ge (tgt := 109) okX8_findShares rfl rfl ⟨by omega, by omega⟩ ⟨by omega, by omega⟩ (fun h72 => ?_) (fun h72 => absurd h72 (by omega))
      exact b_ret (v := none) ⟨rfl, rfl⟩ ⟨rfl, sh3, y1, y2, rfl⟩ rfl
    | succ j2 ih2 =>
      intro v sh3 hij2 y1 y2 y3
      have e5 := y3 v (by omega) (by omega)
      refine aGo okX8_findShares 3 (f' := (72, [some (.inr 192), some (.inl (sumN p (wZ p k f c g))), some (.inl (max 0 (lefS p (wZ p k f c g) t - (nwI g v : Int)))), some (.inl (v : Int))], [.inl (p : Int), .inl (v : Int)], _)) rfl ?_
      refine b_ge (tgt := 109) okX8_findShares rfl rfl ⟨by omega, by omega⟩ ⟨by omega, by omega⟩ (fun h72 => absurd h72 (by omega)) (fun h72 => ?_)
      refine aGo okX8_findShares 1 (f' := (76, [some (.inr 192), some (.inl (sumN p (wZ p k f c g))), some (.inl (max 0 (lefS p (wZ p k f c g) t - (nwI g v : Int)))), some (.inl (v : Int))], [.inl (max 0 (lefS p (wZ p k f c g) t - (nwI g v : Int)))], _)) rfl ?_
      refine b0_le (tgt := 109) okX8_findShares rfl rfl ⟨by omega, by omega⟩ (fun h76 => ?_) (fun h76 => ?_)
      · exact b_ret (v := none) ⟨rfl, rfl⟩ ⟨rfl, sh3, y1, fun q hq => by by_cases hv : q < v; exact y2 q hv; rw [y3 q (by omega) hq]; exact (shG_out (by by_cases hz : q = g; exact Or.inl hz; exact Or.inr (by have := nwI_mono (g := g) (show v ≤ q by omega); omega))).symm, rfl⟩ rfl
      · refine aGo okX8_findShares 2 (f' := (81, [some (.inr 192), some (.inl (sumN p (wZ p k f c g))), some (.inl (max 0 (lefS p (wZ p k f c g) t - (nwI g v : Int)))), some (.inl (v : Int))], [.inl (v : Int), .inr 192], _)) rfl ?_
        by_cases hc81 : v ≠ g
        · refine b_vV (as := [.inl (v : Int)]) (rest := []) (k := 192) (.inl 1) okX8_findShares rfl lkX8_178 caX8_isThere (Nat.le_of_ble_eq_true rfl) rfl (Nat.le_of_ble_eq_true rfl) rfl rfl rfl (c_isTh_t hp7 hg (i := v) (by omega) hc81) ?_
          refine b0_ne (tgt := 90) okX8_findShares rfl rfl ⟨by omega, by omega⟩ (fun h84 => ?_) (fun h84 => absurd h84 (by omega))
          refine aGo okX8_findShares 4 (f' := (96, [some (.inr 192), some (.inl (sumN p (wZ p k f c g))), some (.inl (max 0 (lefS p (wZ p k f c g) t - (nwI g v : Int)))), some (.inl (v : Int))], [.inl (v : Int), .inr 205, .inl (v : Int), .inr 205], _)) rfl ?_
          refine b_ald (k := 205) (j := v) (a := sh3) okX8_findShares rfl rfl (by omega) (by omega) (by omega) ?_
          refine aGo okX8_findShares 2 (f' := (99, [some (.inr 192), some (.inl (sumN p (wZ p k f c g))), some (.inl (max 0 (lefS p (wZ p k f c g) t - (nwI g v : Int)))), some (.inl (v : Int))], [.inl ((sh3.getD v 0) + 1), .inl (v : Int), .inr 205], _)) rfl ?_
          refine b_ast (k := 205) (j := v) (a := sh3) okX8_findShares rfl rfl (by omega) (by omega) (by omega) ?_
          refine b_cast (f' := (100, [some (.inr 192), some (.inl (sumN p (wZ p k f c g))), some (.inl (max 0 (lefS p (wZ p k f c g) t - (nwI g v : Int)))), some (.inl (v : Int))], [], [A0, A1, A2, A3, A4, A5, (modSeg re k f c n kp l tp le la td kt (sh3.set v ((sh3.getD v 0) + 1)) so had gr fi se to (p : Int) t d tl at_ sn him ik cu (ouB g) st rm)])) rfl ?_
          refine aGo okX8_findShares 3 (f' := (67, [some (.inr 192), some (.inl (sumN p (wZ p k f c g))), some (.inl ((max 0 (lefS p (wZ p k f c g) t - (nwI g v : Int))) + (-1))), some (.inl ((v : Int) + 1))], [], _)) rfl ?_
          refine b_cast (f' := (67, [some (.inr 192), some (.inl (sumN p (wZ p k f c g))), some (.inl (max 0 (lefS p (wZ p k f c g) t - (nwI g (v + 1) : Int)))), some (.inl ((v : Int) + 1))], [], [A0, A1, A2, A3, A4, A5, (modSeg re k f c n kp l tp le la td kt (sh3.set v ((sh3.getD v 0) + 1)) so had gr fi se to (p : Int) t d tl at_ sn him ik cu (ouB g) st rm)])) (congrArg (fun q : Int => ((67, [some (.inr 192), some (.inl (sumN p (wZ p k f c g))), some (.inl q), some (.inl ((v : Int) + 1))], [], [A0, A1, A2, A3, A4, A5, (modSeg re k f c n kp l tp le la td kt (sh3.set v ((sh3.getD v 0) + 1)) so had gr fi se to (p : Int) t d tl at_ sn him ik cu (ouB g) st rm)]) : aF)) ((by rw [nwI_ne hc81]; first | done | omega))) ?_
          exact ih2 (v + 1) (sh3.set v (sh3.getD v 0 + 1)) (by omega) (by rw [List.length_set]; exact y1) (set_upto (i := v) (F := shG p k f c t g) (by omega) (by rw [y3 v (by omega) (by omega)]; exact (shG_in hc81 (by omega)).symm) y2) (fun q h1 h2 => by rw [getD_set_ne (by omega)]; exact y3 q (by omega) h2)
        · refine b_vV (as := [.inl (v : Int)]) (rest := []) (k := 192) (.inl 0) okX8_findShares rfl lkX8_178 caX8_isThere (Nat.le_of_ble_eq_true rfl) rfl (Nat.le_of_ble_eq_true rfl) rfl rfl rfl (c_isTh_f hp7 hg (i := v) (by omega) (by omega)) ?_
          refine b0_ne (tgt := 90) okX8_findShares rfl rfl ⟨by omega, by omega⟩ (fun h84 => absurd h84 (by omega)) (fun h84 => ?_)
          refine aGo okX8_findShares 3 (f' := (67, [some (.inr 192), some (.inl (sumN p (wZ p k f c g))), some (.inl (max 0 (lefS p (wZ p k f c g) t - (nwI g v : Int)))), some (.inl ((v : Int) + 1))], [], _)) rfl ?_
          refine b_cast (f' := (67, [some (.inr 192), some (.inl (sumN p (wZ p k f c g))), some (.inl (max 0 (lefS p (wZ p k f c g) t - (nwI g (v + 1) : Int)))), some (.inl ((v : Int) + 1))], [], [A0, A1, A2, A3, A4, A5, (modSeg re k f c n kp l tp le la td kt sh3 so had gr fi se to (p : Int) t d tl at_ sn him ik cu (ouB g) st rm)])) (congrArg (fun q : Int => ((67, [some (.inr 192), some (.inl (sumN p (wZ p k f c g))), some (.inl q), some (.inl ((v : Int) + 1))], [], [A0, A1, A2, A3, A4, A5, (modSeg re k f c n kp l tp le la td kt sh3 so had gr fi se to (p : Int) t d tl at_ sn him ik cu (ouB g) st rm)]) : aF)) ((by rw [nwI_eq hc81]; first | done | omega))) ?_
          exact ih2 (v + 1) sh3 (by omega) y1 (fun q hq => by by_cases hv : q < v; exact y2 q hv; obtain rfl : q = v := (by omega); rw [y3 q (by omega) (by omega)]; exact (shG_out (Or.inl (by omega))).symm) (fun q h1 h2 => y3 q (by omega) h2)
  have lp : ∀ (j v : Nat) (sh1 : List Int), v + j = p → (sh1.length = 7) → (∀ q, q < v → sh1.getD q 0 = (cutS p (wZ p k f c g) t) q) → AW mX8_findShares 5 0 0 N none (fun rv h => rv = none ∧ ∃ sh2 : List Int, sh2.length = 7 ∧ (∀ q, q < p → sh2.getD q 0 = shG p k f c t g q) ∧ h = [A0, A1, A2, A3, A4, A5, (modSeg re k f c n kp l tp le la td kt sh2 so had gr fi se to (p : Int) t d tl at_ sn him ik cu (ouB g) st rm)]) (12, [some (.inr 192), some (.inl (sumN p (wZ p k f c g))), some (.inl (t - sumN v (cutS p (wZ p k f c g) t))), some (.inl (v : Int))], [], [A0, A1, A2, A3, A4, A5, (modSeg re k f c n kp l tp le la td kt sh1 so had gr fi se to (p : Int) t d tl at_ sn him ik cu (ouB g) st rm)]) := by
    intro j
    induction j with
    | zero =>
      intro v sh1 hij x1 x2
      obtain rfl : p = v := by omega
      refine aGo okX8_findShares 3 (f' := (17, [some (.inr 192), some (.inl (sumN p (wZ p k f c g))), some (.inl (t - sumN p (cutS p (wZ p k f c g) t))), some (.inl (p : Int))], [.inl (p : Int), .inl (p : Int)], _)) rfl ?_
      refine b_ge (tgt := 65) okX8_findShares rfl rfl ⟨by omega, by omega⟩ ⟨by omega, by omega⟩ (fun h17 => ?_) (fun h17 => absurd h17 (by omega))
      refine aGo okX8_findShares 2 (f' := (67, [some (.inr 192), some (.inl (sumN p (wZ p k f c g))), some (.inl (t - sumN p (cutS p (wZ p k f c g) t))), some (.inl 0)], [], _)) rfl ?_
      refine b_cast (f' := (67, [some (.inr 192), some (.inl (sumN p (wZ p k f c g))), some (.inl (max 0 (lefS p (wZ p k f c g) t - (nwI g 0 : Int)))), some (.inl 0)], [], [A0, A1, A2, A3, A4, A5, (modSeg re k f c n kp l tp le la td kt sh1 so had gr fi se to (p : Int) t d tl at_ sn him ik cu (ouB g) st rm)])) (congrArg (fun q : Int => ((67, [some (.inr 192), some (.inl (sumN p (wZ p k f c g))), some (.inl q), some (.inl 0)], [], [A0, A1, A2, A3, A4, A5, (modSeg re k f c n kp l tp le la td kt sh1 so had gr fi se to (p : Int) t d tl at_ sn him ik cu (ouB g) st rm)]) : aF)) ((by show lefS p (wZ p k f c g) t = _; rw [show nwI g 0 = 0 by unfold nwI; split <;> omega]; omega))) ?_
      exact lq p 0 sh1 (by omega) x1 (fun q hq => by omega) (fun q _ hq => x2 q hq)
    | succ j ih =>
      intro v sh1 hij x1 x2
      have e6 := wZs_le (k := k) hp7 rf rc g hp7
      refine aGo okX8_findShares 3 (f' := (17, [some (.inr 192), some (.inl (sumN p (wZ p k f c g))), some (.inl (t - sumN v (cutS p (wZ p k f c g) t))), some (.inl (v : Int))], [.inl (p : Int), .inl (v : Int)], _)) rfl ?_
      refine b_ge (tgt := 65) okX8_findShares rfl rfl ⟨by omega, by omega⟩ ⟨by omega, by omega⟩ (fun h17 => absurd h17 (by omega)) (fun h17 => ?_)
      refine aGo okX8_findShares 5 (f' := (27, [some (.inr 192), some (.inl (sumN p (wZ p k f c g))), some (.inl (t - sumN v (cutS p (wZ p k f c g) t))), some (.inl (v : Int))], [.inl (v : Int), .inr 192, .inl (v : Int), .inr 205], _)) rfl ?_
      by_cases hc27 : v ≠ g
      · refine b_vV (as := [.inl (v : Int)]) (rest := [.inl (v : Int), .inr 205]) (k := 192) (.inl 1) okX8_findShares rfl lkX8_178 caX8_isThere (Nat.le_of_ble_eq_true rfl) rfl (Nat.le_of_ble_eq_true rfl) rfl rfl rfl (c_isTh_t hp7 hg (i := v) (by omega) hc27) ?_
        refine b0_eq (tgt := 48) okX8_findShares rfl rfl ⟨by omega, by omega⟩ (fun h30 => absurd h30 (by omega)) (fun h30 => ?_)
        refine aGo okX8_findShares 4 (f' := (39, [some (.inr 192), some (.inl (sumN p (wZ p k f c g))), some (.inl (t - sumN v (cutS p (wZ p k f c g) t))), some (.inl (v : Int))], [.inl (v : Int), .inr 192, .inl t, .inl (v : Int), .inr 205], _)) rfl ?_
        refine b_vV (as := [.inl (v : Int)]) (rest := [.inl t, .inl (v : Int), .inr 205]) (k := 192) (.inl (wG p k f c g v)) okX8_findShares rfl lkX8_193 caX8_weightOf (Nat.le_of_ble_eq_true rfl) rfl (Nat.le_of_ble_eq_true rfl) rfl rfl rfl (c_weightOf hp7 hg hk hf hc rk rf rc (i := v) (by omega)) ?_
        have e3 := wG_le (k := k) hp7 rf rc g v
        have e4 := mulB (t := t) (w := wG p k f c g v) ⟨ht0, ht1⟩ e3
        have e5 := sum_one (m := p) (w := (wZ p k f c g)) (fun q _ => (wZ_le hp7 rf rc g q).1) (i := v) (by omega)
        rw [wZ_f hc27] at e5
        refine aGo okX8_findShares 2 (f' := (44, [some (.inr 192), some (.inl (sumN p (wZ p k f c g))), some (.inl (t - sumN v (cutS p (wZ p k f c g) t))), some (.inl (v : Int))], [.inl (sumN p (wZ p k f c g)), .inl (t * (wG p k f c g v)), .inl (v : Int), .inr 205], _)) rfl ?_
        refine b_div okX8_findShares rfl ⟨by omega, by omega⟩ ⟨by omega, by omega⟩ ?_
        refine aGo okX8_findShares 1 (f' := (49, [some (.inr 192), some (.inl (sumN p (wZ p k f c g))), some (.inl (t - sumN v (cutS p (wZ p k f c g) t))), some (.inl (v : Int))], [.inl ((t * (wG p k f c g v)) / (sumN p (wZ p k f c g))), .inl (v : Int), .inr 205], _)) rfl ?_
        refine b_ast (k := 205) (j := v) (a := sh1) okX8_findShares rfl rfl (by omega) (by omega) (by omega) ?_
        refine b_cast (f' := (50, [some (.inr 192), some (.inl (sumN p (wZ p k f c g))), some (.inl (t - sumN v (cutS p (wZ p k f c g) t))), some (.inl (v : Int))], [], [A0, A1, A2, A3, A4, A5, (modSeg re k f c n kp l tp le la td kt (sh1.set v ((t * (wG p k f c g v)) / (sumN p (wZ p k f c g)))) so had gr fi se to (p : Int) t d tl at_ sn him ik cu (ouB g) st rm)])) rfl ?_
        refine aGo okX8_findShares 4 (f' := (56, [some (.inr 192), some (.inl (sumN p (wZ p k f c g))), some (.inl (t - sumN v (cutS p (wZ p k f c g) t))), some (.inl (v : Int))], [.inl (v : Int), .inr 205, .inl (t - sumN v (cutS p (wZ p k f c g) t))], _)) rfl ?_
        refine b_ald (k := 205) (j := v) (a := sh1.set v ((t * (wG p k f c g v)) / (sumN p (wZ p k f c g)))) okX8_findShares rfl rfl (by omega) (by rw [List.length_set]; omega) (by omega) ?_
        refine aGo okX8_findShares 4 (f' := (12, [some (.inr 192), some (.inl (sumN p (wZ p k f c g))), some (.inl ((t - sumN v (cutS p (wZ p k f c g) t)) - ((sh1.set v ((t * (wG p k f c g v)) / (sumN p (wZ p k f c g)))).getD v 0))), some (.inl ((v : Int) + 1))], [], _)) rfl ?_
        refine b_cast (f' := (12, [some (.inr 192), some (.inl (sumN p (wZ p k f c g))), some (.inl (t - sumN (v + 1) (cutS p (wZ p k f c g) t))), some (.inl ((v : Int) + 1))], [], [A0, A1, A2, A3, A4, A5, (modSeg re k f c n kp l tp le la td kt (sh1.set v ((t * (wG p k f c g v)) / (sumN p (wZ p k f c g)))) so had gr fi se to (p : Int) t d tl at_ sn him ik cu (ouB g) st rm)])) (congrArg (fun q : Int => ((12, [some (.inr 192), some (.inl (sumN p (wZ p k f c g))), some (.inl q), some (.inl ((v : Int) + 1))], [], [A0, A1, A2, A3, A4, A5, (modSeg re k f c n kp l tp le la td kt (sh1.set v ((t * (wG p k f c g v)) / (sumN p (wZ p k f c g)))) so had gr fi se to (p : Int) t d tl at_ sn him ik cu (ouB g) st rm)]) : aF)) ((by rw [getD_set_self (by omega)]; have e9 := (show t * wG p k f c g v / sumN p (wZ p k f c g) = (cutS p (wZ p k f c g) t) v by unfold cutS; rw [wZ_f hc27]); show _ = t - (sumN v (cutS p (wZ p k f c g) t) + (cutS p (wZ p k f c g) t) v); rw [← e9]; omega))) ?_
        exact ih (v + 1) (sh1.set v (t * wG p k f c g v / sumN p (wZ p k f c g))) (by omega) (by rw [List.length_set]; exact x1) (set_upto (i := v) (F := (cutS p (wZ p k f c g) t)) (by omega) (show t * wG p k f c g v / sumN p (wZ p k f c g) = (cutS p (wZ p k f c g) t) v by unfold cutS; rw [wZ_f hc27]) x2)
      · refine b_vV (as := [.inl (v : Int)]) (rest := [.inl (v : Int), .inr 205]) (k := 192) (.inl 0) okX8_findShares rfl lkX8_178 caX8_isThere (Nat.le_of_ble_eq_true rfl) rfl (Nat.le_of_ble_eq_true rfl) rfl rfl rfl (c_isTh_f hp7 hg (i := v) (by omega) (by omega)) ?_
        refine b0_eq (tgt := 48) okX8_findShares rfl rfl ⟨by omega, by omega⟩ (fun h30 => ?_) (fun h30 => absurd h30 (by omega))
        refine aGo okX8_findShares 1 (f' := (49, [some (.inr 192), some (.inl (sumN p (wZ p k f c g))), some (.inl (t - sumN v (cutS p (wZ p k f c g) t))), some (.inl (v : Int))], [.inl 0, .inl (v : Int), .inr 205], _)) rfl ?_
        refine b_ast (k := 205) (j := v) (a := sh1) okX8_findShares rfl rfl (by omega) (by omega) (by omega) ?_
        refine b_cast (f' := (50, [some (.inr 192), some (.inl (sumN p (wZ p k f c g))), some (.inl (t - sumN v (cutS p (wZ p k f c g) t))), some (.inl (v : Int))], [], [A0, A1, A2, A3, A4, A5, (modSeg re k f c n kp l tp le la td kt (sh1.set v 0) so had gr fi se to (p : Int) t d tl at_ sn him ik cu (ouB g) st rm)])) rfl ?_
        refine aGo okX8_findShares 4 (f' := (56, [some (.inr 192), some (.inl (sumN p (wZ p k f c g))), some (.inl (t - sumN v (cutS p (wZ p k f c g) t))), some (.inl (v : Int))], [.inl (v : Int), .inr 205, .inl (t - sumN v (cutS p (wZ p k f c g) t))], _)) rfl ?_
        refine b_ald (k := 205) (j := v) (a := sh1.set v 0) okX8_findShares rfl rfl (by omega) (by rw [List.length_set]; omega) (by omega) ?_
        refine aGo okX8_findShares 4 (f' := (12, [some (.inr 192), some (.inl (sumN p (wZ p k f c g))), some (.inl ((t - sumN v (cutS p (wZ p k f c g) t)) - ((sh1.set v 0).getD v 0))), some (.inl ((v : Int) + 1))], [], _)) rfl ?_
        refine b_cast (f' := (12, [some (.inr 192), some (.inl (sumN p (wZ p k f c g))), some (.inl (t - sumN (v + 1) (cutS p (wZ p k f c g) t))), some (.inl ((v : Int) + 1))], [], [A0, A1, A2, A3, A4, A5, (modSeg re k f c n kp l tp le la td kt (sh1.set v 0) so had gr fi se to (p : Int) t d tl at_ sn him ik cu (ouB g) st rm)])) (congrArg (fun q : Int => ((12, [some (.inr 192), some (.inl (sumN p (wZ p k f c g))), some (.inl q), some (.inl ((v : Int) + 1))], [], [A0, A1, A2, A3, A4, A5, (modSeg re k f c n kp l tp le la td kt (sh1.set v 0) so had gr fi se to (p : Int) t d tl at_ sn him ik cu (ouB g) st rm)]) : aF)) ((by rw [getD_set_self (by omega)]; have e9 := (show (0 : Int) = (cutS p (wZ p k f c g) t) v from (cutS_z (wZ_t hc27)).symm); show _ = t - (sumN v (cutS p (wZ p k f c g) t) + (cutS p (wZ p k f c g) t) v); rw [← e9]; omega))) ?_
        exact ih (v + 1) (sh1.set v (0)) (by omega) (by rw [List.length_set]; exact x1) (set_upto (i := v) (F := (cutS p (wZ p k f c g) t)) (by omega) (show (0 : Int) = (cutS p (wZ p k f c g) t) v from (cutS_z (wZ_t hc27)).symm) x2)
  refine aGo okX8_findShares 1 (f' := (1, [some (.inr 192), none, none, none], [.inr 192], _)) rfl ?_
  refine b_vV (as := []) (rest := []) (k := 192) (.inl (sumN p (wZ p k f c g))) okX8_findShares rfl lkX8_196 caX8_allWeights (Nat.le_of_ble_eq_true rfl) rfl (Nat.le_of_ble_eq_true rfl) rfl rfl rfl (c_allWeights hp7 hg hk hf hc rk rf rc) ?_
  refine aGo okX8_findShares 6 (f' := (12, [some (.inr 192), some (.inl (sumN p (wZ p k f c g))), some (.inl t), some (.inl 0)], [], _)) rfl ?_
  refine b_cast (f' := (12, [some (.inr 192), some (.inl (sumN p (wZ p k f c g))), some (.inl (t - sumN 0 (cutS p (wZ p k f c g) t))), some (.inl 0)], [], [A0, A1, A2, A3, A4, A5, (modSeg re k f c n kp l tp le la td kt sh so had gr fi se to (p : Int) t d tl at_ sn him ik cu (ouB g) st rm)])) (congrArg (fun q : Int => ((12, [some (.inr 192), some (.inl (sumN p (wZ p k f c g))), some (.inl q), some (.inl 0)], [], [A0, A1, A2, A3, A4, A5, (modSeg re k f c n kp l tp le la td kt sh so had gr fi se to (p : Int) t d tl at_ sn him ik cu (ouB g) st rm)]) : aF)) ((by show t = t - 0; omega))) ?_
  exact lp p 0 sh (by omega) hsh (fun q hq => by omega)
end AMC
