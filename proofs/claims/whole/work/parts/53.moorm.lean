/-! moor(), of the reference: how letters are read; laid by gen_moorm.py -/
/-- the letter in place e of the statement at x is as it must be -/
def gdA (tp : List Int) (m x f e : Nat) : Prop := x + e < m ∧ fitI (tp.getD (x + e) 0) (chr f e) = 1
theorem gd_dig {tp : List Int} {m x f e : Nat} (h : gdA tp m x f e) (hc : chr f e = 48) : x + e < m ∧ 48 ≤ tp.getD (x + e) 0 ∧ tp.getD (x + e) 0 ≤ 57 := by
  have h2 := h.2; rw [hc] at h2; exact ⟨h.1, fit_dig h2⟩
theorem gd_not {tp : List Int} {m x f e : Nat} (h : ¬ gdA tp m x f e) (hc : chr f e = 48) : ¬ (x + e < m ∧ 48 ≤ tp.getD (x + e) 0 ∧ tp.getD (x + e) 0 ≤ 57) := fun z => h ⟨z.1, by rw [hc]; exact fit_d1 z.2⟩
theorem gd_kind {tp : List Int} {m x f e : Nat} (h : gdA tp m x f e) (hc : chr f e = 63) : x + e < m ∧ 0 ≤ kdF (tp.getD (x + e) 0) := by
  have h2 := h.2; rw [hc] at h2; exact ⟨h.1, (fit_kind h2).1⟩
theorem gd_nokind {tp : List Int} {m x f e : Nat} (h : ¬ gdA tp m x f e) (hc : chr f e = 63) : ¬ (x + e < m ∧ 0 ≤ kdF (tp.getD (x + e) 0)) := fun z => h ⟨z.1, by rw [hc]; exact fit_k1 z.2⟩
theorem gd_end {tp : List Int} {m x f e : Nat} (h : gdA tp m x f e) (hc : chr f e = 59) : x + e < m ∧ tp.getD (x + e) 0 = 59 := by
  have h2 := h.2; rw [hc] at h2; exact ⟨h.1, fit_end h2⟩
theorem gd_noend {tp : List Int} {m x f e : Nat} (h : ¬ gdA tp m x f e) (hc : chr f e = 59) : ¬ (x + e < m ∧ tp.getD (x + e) 0 = 59) := fun z => h ⟨z.1, by rw [hc]; exact fit_e1 z.2⟩
theorem innF_bad {tp : List Int} {m x f : Nat} : ∀ j i e, i ≤ e → e < i + j → (∀ q, i ≤ q → q < e → gdA tp m x f q) → ¬ gdA tp m x f e → innF tp m x f j i = ((x + e : Nat) : Int) := by
  intro j
  induction j with
  | zero => intro i e h1 h2; omega
  | succ j ih =>
    intro i e h1 h2 h3 h4
    by_cases z : m ≤ x + i ∨ fitI (tp.getD (x + i) 0) (chr f i) = 0
    · rw [innF_t z]
      by_cases y : i = e
      · rw [y]
      · have := h3 i (Nat.le_refl i) (by omega)
        have h5 := this.1; have h6 := this.2
        omega
    · rw [innF_f z]
      have hz : gdA tp m x f i := ⟨by omega, by have := fitI_le (tp.getD (x + i) 0) (chr f i); omega⟩
      by_cases y : i = e
      · rw [y] at hz; exact absurd hz h4
      · exact ih (i + 1) e (by omega) (by omega) (fun q q1 q2 => h3 q (by omega) q2) h4
theorem innF_good {tp : List Int} {m x f : Nat} : ∀ j i, (∀ q, i ≤ q → q < i + j → gdA tp m x f q) → innF tp m x f j i = -1 := by
  intro j
  induction j with
  | zero => intro i _; rfl
  | succ j ih =>
    intro i h
    have h0 := h i (Nat.le_refl i) (by omega)
    rw [innF_f (by have h1 := h0.1; have h2 := h0.2; omega)]
    exact ih (i + 1) (fun q q1 q2 => h q (by omega) (by omega))
/-- the statement's numbers stand in row 4j of those told -/
def tdOK (tp td : List Int) (j x : Nat) : Prop :=
  (fmI (tp.getD x 0) = 0 → td.getD (4 * j) 0 = kdF (tp.getD (x + 1) 0) ∧ td.getD (4 * j + 1) 0 = numL tp (x + 2) 1 ∧ td.getD (4 * j + 2) 0 = numL tp (x + 3) 2 ∧ td.getD (4 * j + 3) 0 = numL tp (x + 5) 2) ∧
  (fmI (tp.getD x 0) = 1 → td.getD (4 * j) 0 = numL tp (x + 1) 1 ∧ td.getD (4 * j + 1) 0 = numL tp (x + 2) 2) ∧
  (fmI (tp.getD x 0) = 2 → td.getD (4 * j) 0 = numL tp (x + 1) 1 ∧ td.getD (4 * j + 1) 0 = numL tp (x + 2) 1 ∧ td.getD (4 * j + 2) 0 = numL tp (x + 3) 2) ∧
  (fmI (tp.getD x 0) = 3 → td.getD (4 * j) 0 = numL tp (x + 1) 1 ∧ td.getD (4 * j + 1) 0 = numL tp (x + 2) 4) ∧
  (fmI (tp.getD x 0) = 4 → td.getD (4 * j) 0 = numL tp (x + 1) 3) ∧
  (fmI (tp.getD x 0) = 5 → td.getD (4 * j) 0 = numL tp (x + 1) 2)
theorem tdOK_of {tp td td2 : List Int} {j x : Nat} (h : tdOK tp td j x) (e : ∀ q, 4 * j ≤ q → q < 4 * j + 4 → td2.getD q 0 = td.getD q 0) : tdOK tp td2 j x := by
  obtain ⟨h0, h1, h2, h3, h4, h5⟩ := h
  refine ⟨fun z => ?_, fun z => ?_, fun z => ?_, fun z => ?_, fun z => ?_, fun z => ?_⟩
  · obtain ⟨a, b, c, d⟩ := h0 z; exact ⟨by rw [e _ (by omega) (by omega)]; exact a, by rw [e _ (by omega) (by omega)]; exact b, by rw [e _ (by omega) (by omega)]; exact c, by rw [e _ (by omega) (by omega)]; exact d⟩
  · obtain ⟨a, b⟩ := h1 z; exact ⟨by rw [e _ (by omega) (by omega)]; exact a, by rw [e _ (by omega) (by omega)]; exact b⟩
  · obtain ⟨a, b, c⟩ := h2 z; exact ⟨by rw [e _ (by omega) (by omega)]; exact a, by rw [e _ (by omega) (by omega)]; exact b, by rw [e _ (by omega) (by omega)]; exact c⟩
  · obtain ⟨a, b⟩ := h3 z; exact ⟨by rw [e _ (by omega) (by omega)]; exact a, by rw [e _ (by omega) (by omega)]; exact b⟩
  · rw [e _ (by omega) (by omega)]; exact h4 z
  · rw [e _ (by omega) (by omega)]; exact h5 z
theorem fm_lt {c : Int} (h : c = 112 ∨ c = 97 ∨ c = 108 ∨ c = 107 ∨ c = 115 ∨ c = 100) : fmI c < 6 := by
  rcases h with rfl | rfl | rfl | rfl | rfl | rfl <;> decide
theorem kdF_m1 : kdF (-1) = -1 := by decide
theorem c_mKind {N : Nat} {hH : aH} {x : Int} (hx : aI x) : aEx mX8_kindOf 0 N [.inl x] hH (some (.inl (kdF x))) hH := by
  refine aEv_of okX8_kindOf caX8_kindOf (Nat.le_of_ble_eq_true rfl) ?_
  obtain ⟨hx1, hx2⟩ := hx
  refine aGo okX8_kindOf 2 (f' := (3, [some (.inl x)], [.inl 112, .inl x], _)) rfl ?_
  refine b_ne (tgt := 10) okX8_kindOf rfl rfl ⟨by omega, by omega⟩ ⟨by omega, by omega⟩ (fun h3 => ?_) (fun h3 => ?_)
  · refine aGo okX8_kindOf 2 (f' := (13, [some (.inl x)], [.inl 115, .inl x], _)) rfl ?_
    refine b_ne (tgt := 20) okX8_kindOf rfl rfl ⟨by omega, by omega⟩ ⟨by omega, by omega⟩ (fun h13 => ?_) (fun h13 => ?_)
    · refine aGo okX8_kindOf 2 (f' := (23, [some (.inl x)], [.inl 119, .inl x], _)) rfl ?_
      refine b_ne (tgt := 30) okX8_kindOf rfl rfl ⟨by omega, by omega⟩ ⟨by omega, by omega⟩ (fun h23 => ?_) (fun h23 => ?_)
      · refine aGo okX8_kindOf 2 (f' := (33, [some (.inl x)], [.inl 99, .inl x], _)) rfl ?_
        refine b_ne (tgt := 40) okX8_kindOf rfl rfl ⟨by omega, by omega⟩ ⟨by omega, by omega⟩ (fun h33 => ?_) (fun h33 => ?_)
        · refine aGo okX8_kindOf 2 (f' := (43, [some (.inl x)], [.inl 111, .inl x], _)) rfl ?_
          refine b_ne (tgt := 50) okX8_kindOf rfl rfl ⟨by omega, by omega⟩ ⟨by omega, by omega⟩ (fun h43 => ?_) (fun h43 => ?_)
          · refine aGo okX8_kindOf 2 (f' := (53, [some (.inl x)], [.inl 110, .inl x], _)) rfl ?_
            refine b_ne (tgt := 60) okX8_kindOf rfl rfl ⟨by omega, by omega⟩ ⟨by omega, by omega⟩ (fun h53 => ?_) (fun h53 => ?_)
            · refine aGo okX8_kindOf 1 (f' := (61, [some (.inl x)], [.inl (-1)], _)) rfl ?_
              exact b_ret (v := (some (.inl (-1)))) ⟨rfl, Or.inl rfl⟩ ⟨congrArg (fun q : Int => (some (.inl q) : Option aV)) ((kdF_no ⟨by omega, by omega, by omega, by omega, by omega, by omega⟩).symm), rfl⟩ rfl
            · refine aGo okX8_kindOf 2 (f' := (61, [some (.inl x)], [.inl 5], _)) rfl ?_
              exact b_ret (v := (some (.inl 5))) ⟨rfl, Or.inl rfl⟩ ⟨congrArg (fun q : Int => (some (.inl q) : Option aV)) ((kdF_at5 (by omega)).symm), rfl⟩ rfl
          · refine aGo okX8_kindOf 2 (f' := (61, [some (.inl x)], [.inl 4], _)) rfl ?_
            exact b_ret (v := (some (.inl 4))) ⟨rfl, Or.inl rfl⟩ ⟨congrArg (fun q : Int => (some (.inl q) : Option aV)) ((kdF_at4 (by omega)).symm), rfl⟩ rfl
        · refine aGo okX8_kindOf 2 (f' := (61, [some (.inl x)], [.inl 3], _)) rfl ?_
          exact b_ret (v := (some (.inl 3))) ⟨rfl, Or.inl rfl⟩ ⟨congrArg (fun q : Int => (some (.inl q) : Option aV)) ((kdF_at3 (by omega)).symm), rfl⟩ rfl
      · refine aGo okX8_kindOf 2 (f' := (61, [some (.inl x)], [.inl 2], _)) rfl ?_
        exact b_ret (v := (some (.inl 2))) ⟨rfl, Or.inl rfl⟩ ⟨congrArg (fun q : Int => (some (.inl q) : Option aV)) ((kdF_at2 (by omega)).symm), rfl⟩ rfl
    · refine aGo okX8_kindOf 2 (f' := (61, [some (.inl x)], [.inl 1], _)) rfl ?_
      exact b_ret (v := (some (.inl 1))) ⟨rfl, Or.inl rfl⟩ ⟨congrArg (fun q : Int => (some (.inl q) : Option aV)) ((kdF_at1 (by omega)).symm), rfl⟩ rfl
  · refine aGo okX8_kindOf 2 (f' := (61, [some (.inl x)], [.inl 0], _)) rfl ?_
    exact b_ret (v := (some (.inl 0))) ⟨rfl, Or.inl rfl⟩ ⟨congrArg (fun q : Int => (some (.inl q) : Option aV)) ((kdF_at0 (by omega)).symm), rfl⟩ rfl
section AMI
variable {A0 A1 A2 A3 A4 A5 : List (Option aE)} {re k f c n kp l tp le la td kt sh so had gr fi se to : List Int} {p g : Nat} {t d tl at_ sn him ik cu ou st rm : Int} {N : Nat}
variable {m : Nat}
set_option maxRecDepth 100000 in
set_option maxHeartbeats 4000000 in
theorem c_next_t (htp : tp.length = 96) (hm9 : m ≤ 96) {y : Nat} (h : y < m) : aEv mX8_next 0 0 0 N [.inr 192] [A0, A1, A2, A3, A4, A5, (modSeg re k f c n kp l tp le la td kt sh so had gr fi se to (p : Int) t d (m : Int) (y : Int) sn him ik cu ou st rm)] (aQx (some (.inl (tp.getD y 0))) [A0, A1, A2, A3, A4, A5, (modSeg re k f c n kp l tp le la td kt sh so had gr fi se to (p : Int) t d (m : Int) (y : Int) sn him ik cu ou st rm)]) := by
  refine aEv_of okX8_next caX8_next (Nat.le_of_ble_eq_true rfl) ?_
  refine aGo okX8_next 4 (f' := (8, [some (.inr 192)], [.inl (m : Int), .inl (y : Int)], _)) rfl ?_
  refine b_ge (tgt := 23) okX8_next rfl rfl ⟨by omega, by omega⟩ ⟨by omega, by omega⟩ (fun h8 => absurd h8 (by omega)) (fun h8 => ?_)
  refine aGo okX8_next 4 (f' := (19, [some (.inr 192)], [.inl (y : Int), .inr 200], _)) rfl ?_
  refine b_ald (k := 200) (j := y) (a := tp) okX8_next rfl rfl (by omega) (by omega) (by omega) ?_
  refine aGo okX8_next 1 (f' := (24, [some (.inr 192)], [.inl (tp.getD y 0)], _)) rfl ?_
  exact b_ret (v := (some (.inl (tp.getD y 0)))) ⟨rfl, Or.inl rfl⟩ ⟨rfl, rfl⟩ rfl
set_option maxRecDepth 100000 in
set_option maxHeartbeats 4000000 in
theorem c_next_f (htp : tp.length = 96) (hm9 : m ≤ 96) {y : Nat} (h9 : y < 1000) (h : ¬ y < m) : aEv mX8_next 0 0 0 N [.inr 192] [A0, A1, A2, A3, A4, A5, (modSeg re k f c n kp l tp le la td kt sh so had gr fi se to (p : Int) t d (m : Int) (y : Int) sn him ik cu ou st rm)] (aQx (some (.inl (-1))) [A0, A1, A2, A3, A4, A5, (modSeg re k f c n kp l tp le la td kt sh so had gr fi se to (p : Int) t d (m : Int) (y : Int) sn him ik cu ou st rm)]) := by
  refine aEv_of okX8_next caX8_next (Nat.le_of_ble_eq_true rfl) ?_
  refine aGo okX8_next 4 (f' := (8, [some (.inr 192)], [.inl (m : Int), .inl (y : Int)], _)) rfl ?_
  refine b_ge (tgt := 23) okX8_next rfl rfl ⟨by omega, by omega⟩ ⟨by omega, by omega⟩ (fun h8 => ?_) (fun h8 => absurd h8 (by omega))
  refine aGo okX8_next 1 (f' := (24, [some (.inr 192)], [.inl (-1)], _)) rfl ?_
  exact b_ret (v := (some (.inl (-1)))) ⟨rfl, Or.inl rfl⟩ ⟨rfl, rfl⟩ rfl
theorem pow_dg {v : Nat} (h : v ≤ 4) : (10 : Int) ^ v ≤ 10000 := by
  rcases (show v = 0 ∨ v = 1 ∨ v = 2 ∨ v = 3 ∨ v = 4 by omega) with rfl | rfl | rfl | rfl | rfl <;> decide
set_option maxRecDepth 100000 in
set_option maxHeartbeats 4000000 in
theorem c_rd_t (htp : tp.length = 96) (hm9 : m ≤ 96) (rtp : rng tp 255) (htd : td.length = 192) {y r9 dg : Nat} (hq : r9 < 192) (hdg : dg ≤ 4) (hy : y ≤ 200) (h : ∀ i, i < dg → (y + i < m ∧ 48 ≤ tp.getD (y + i) 0 ∧ tp.getD (y + i) 0 ≤ 57)) : aEv mX8_readsDigits 1 0 0 N [.inr 192, .inl (r9 : Int), .inl (dg : Int)] [A0, A1, A2, A3, A4, A5, (modSeg re k f c n kp l tp le la td kt sh so had gr fi se to (p : Int) t d (m : Int) (y : Int) sn him ik cu ou st rm)] ((aQx (some (.inl 1)) [A0, A1, A2, A3, A4, A5, (modSeg re k f c n kp l tp le la (td.set r9 (numL tp y dg)) kt sh so had gr fi se to (p : Int) t d (m : Int) (((y + dg) : Nat) : Int) sn him ik cu ou st rm)])) := by
  refine aEv_of okX8_readsDigits caX8_readsDigits (Nat.le_of_ble_eq_true rfl) ?_
  have lp : ∀ (j v : Nat), v + j = dg → AW mX8_readsDigits 1 0 0 N none (aQx (some (.inl 1)) [A0, A1, A2, A3, A4, A5, (modSeg re k f c n kp l tp le la (td.set r9 (numL tp y dg)) kt sh so had gr fi se to (p : Int) t d (m : Int) (((y + dg) : Nat) : Int) sn him ik cu ou st rm)]) (5, [some (.inr 192), some (.inl (r9 : Int)), some (.inl (dg : Int)), some (.inl (numL tp y v)), some (.inl (v : Int))], [], [A0, A1, A2, A3, A4, A5, (modSeg re k f c n kp l tp le la td kt sh so had gr fi se to (p : Int) t d (m : Int) (((y + v) : Nat) : Int) sn him ik cu ou st rm)]) := by
    intro j
    induction j with
    | zero =>
      intro v  hij 
      obtain rfl : dg = v := by omega
      refine aGo okX8_readsDigits 2 (f' := (8, [some (.inr 192), some (.inl (r9 : Int)), some (.inl (dg : Int)), some (.inl (numL tp y dg)), some (.inl (dg : Int))], [.inl (dg : Int), .inl (dg : Int)], _)) rfl ?_
      refine b_ge (tgt := 56) okX8_readsDigits rfl rfl ⟨by omega, by omega⟩ ⟨by omega, by omega⟩ (fun h8 => ?_) (fun h8 => absurd h8 (by omega))
      refine aGo okX8_readsDigits 4 (f' := (62, [some (.inr 192), some (.inl (r9 : Int)), some (.inl (dg : Int)), some (.inl (numL tp y dg)), some (.inl (dg : Int))], [.inl (numL tp y dg), .inl (r9 : Int), .inr 203], _)) rfl ?_
      refine b_ast (k := 203) (j := r9) (a := td) okX8_readsDigits rfl rfl (by omega) (by omega) (by omega) ?_
      refine b_cast (f' := (63, [some (.inr 192), some (.inl (r9 : Int)), some (.inl (dg : Int)), some (.inl (numL tp y dg)), some (.inl (dg : Int))], [], [A0, A1, A2, A3, A4, A5, (modSeg re k f c n kp l tp le la (td.set r9 (numL tp y dg)) kt sh so had gr fi se to (p : Int) t d (m : Int) (((y + dg) : Nat) : Int) sn him ik cu ou st rm)])) rfl ?_
      refine aGo okX8_readsDigits 1 (f' := (64, [some (.inr 192), some (.inl (r9 : Int)), some (.inl (dg : Int)), some (.inl (numL tp y dg)), some (.inl (dg : Int))], [.inl 1], _)) rfl ?_
      exact b_ret (v := (some (.inl 1))) ⟨rfl, Or.inr ⟨rfl, Or.inr rfl⟩⟩ ⟨rfl, rfl⟩ rfl
    | succ j ih =>
      intro v  hij 
      have e1 := h v (by omega)
      have e7 := rtp (y + v)
      refine aGo okX8_readsDigits 2 (f' := (8, [some (.inr 192), some (.inl (r9 : Int)), some (.inl (dg : Int)), some (.inl (numL tp y v)), some (.inl (v : Int))], [.inl (dg : Int), .inl (v : Int)], _)) rfl ?_
      refine b_ge (tgt := 56) okX8_readsDigits rfl rfl ⟨by omega, by omega⟩ ⟨by omega, by omega⟩ (fun h8 => absurd h8 (by omega)) (fun h8 => ?_)
      refine aGo okX8_readsDigits 1 (f' := (12, [some (.inr 192), some (.inl (r9 : Int)), some (.inl (dg : Int)), some (.inl (numL tp y v)), some (.inl (v : Int))], [.inr 192], _)) rfl ?_
      by_cases hc12 : (y + v) < m
      · refine b_vE (as := []) (rest := []) (k := 192) okX8_readsDigits rfl lkX8_93 caX8_next (Nat.le_of_ble_eq_true rfl) rfl (Nat.le_of_ble_eq_true rfl) rfl rfl rfl (c_next_t htp hm9 (y := (y + v)) hc12) ?_
        rintro _ _ ⟨rfl, rfl⟩
        refine aGo okX8_readsDigits 2 (f' := (19, [some (.inr 192), some (.inl (r9 : Int)), some (.inl (dg : Int)), some (.inl (numL tp y v)), some (.inl (v : Int))], [.inl 57, .inl 48, .inl (tp.getD (y + v) 0)], _)) rfl ?_
        by_cases hc19 : 48 ≤ (tp.getD (y + v) 0) ∧ (tp.getD (y + v) 0) ≤ 57
        · refine b_vS (as := [.inl (tp.getD (y + v) 0), .inl 48, .inl 57]) (rest := []) (.inl 1) okX8_readsDigits rfl lkX8_97 caX8_isIn (Nat.le_of_ble_eq_true rfl) rfl (Nat.le_of_ble_eq_true rfl) rfl (c_isIn_t ⟨by omega, by omega⟩ ⟨by omega, by omega⟩ ⟨by omega, by omega⟩ hc19) ?_
          refine b0_ne (tgt := 27) okX8_readsDigits rfl rfl ⟨by omega, by omega⟩ (fun h22 => ?_) (fun h22 => absurd h22 (by omega))
          refine aGo okX8_readsDigits 4 (f' := (32, [some (.inr 192), some (.inl (r9 : Int)), some (.inl (dg : Int)), some (.inl (numL tp y v)), some (.inl (v : Int))], [.inr 192, .inl (10 * (numL tp y v))], _)) rfl ?_
          by_cases hc32 : (y + v) < m
          · refine b_vE (as := []) (rest := [.inl (10 * (numL tp y v))]) (k := 192) okX8_readsDigits rfl lkX8_93 caX8_next (Nat.le_of_ble_eq_true rfl) rfl (Nat.le_of_ble_eq_true rfl) rfl rfl rfl (c_next_t htp hm9 (y := (y + v)) hc32) ?_
            rintro _ _ ⟨rfl, rfl⟩
            refine aGo okX8_readsDigits 12 (f' := (5, [some (.inr 192), some (.inl (r9 : Int)), some (.inl (dg : Int)), some (.inl (((10 * (numL tp y v)) + (tp.getD (y + v) 0)) - 48)), some (.inl ((v : Int) + 1))], [], [A0, A1, A2, A3, A4, A5, (modSeg re k f c n kp l tp le la td kt sh so had gr fi se to (p : Int) t d (m : Int) ((((y + v) : Nat) : Int) + 1) sn him ik cu ou st rm)])) rfl ?_
            refine b_cast (f' := (5, [some (.inr 192), some (.inl (r9 : Int)), some (.inl (dg : Int)), some (.inl (numL tp y (v + 1))), some (.inl ((v : Int) + 1))], [], [A0, A1, A2, A3, A4, A5, (modSeg re k f c n kp l tp le la td kt sh so had gr fi se to (p : Int) t d (m : Int) ((((y + v) : Nat) : Int) + 1) sn him ik cu ou st rm)])) (congrArg (fun q : Int => ((5, [some (.inr 192), some (.inl (r9 : Int)), some (.inl (dg : Int)), some (.inl q), some (.inl ((v : Int) + 1))], [], [A0, A1, A2, A3, A4, A5, (modSeg re k f c n kp l tp le la td kt sh so had gr fi se to (p : Int) t d (m : Int) ((((y + v) : Nat) : Int) + 1) sn him ik cu ou st rm)]) : aF)) (rfl)) ?_
            exact ih (v + 1) (by omega)
          · refine b_vE (as := []) (rest := [.inl (10 * (numL tp y v))]) (k := 192) okX8_readsDigits rfl lkX8_93 caX8_next (Nat.le_of_ble_eq_true rfl) rfl (Nat.le_of_ble_eq_true rfl) rfl rfl rfl (c_next_f htp hm9 (y := (y + v)) (by omega) (by omega)) ?_
            rintro _ _ ⟨rfl, rfl⟩
            refine aGo okX8_readsDigits 12 (f' := (5, [some (.inr 192), some (.inl (r9 : Int)), some (.inl (dg : Int)), some (.inl (((10 * (numL tp y v)) + (-1)) - 48)), some (.inl ((v : Int) + 1))], [], [A0, A1, A2, A3, A4, A5, (modSeg re k f c n kp l tp le la td kt sh so had gr fi se to (p : Int) t d (m : Int) ((((y + v) : Nat) : Int) + 1) sn him ik cu ou st rm)])) rfl ?_
            exfalso; omega
        · refine b_vS (as := [.inl (tp.getD (y + v) 0), .inl 48, .inl 57]) (rest := []) (.inl 0) okX8_readsDigits rfl lkX8_97 caX8_isIn (Nat.le_of_ble_eq_true rfl) rfl (Nat.le_of_ble_eq_true rfl) rfl (c_isIn_f ⟨by omega, by omega⟩ ⟨by omega, by omega⟩ ⟨by omega, by omega⟩ hc19) ?_
          refine b0_ne (tgt := 27) okX8_readsDigits rfl rfl ⟨by omega, by omega⟩ (fun h22 => absurd h22 (by omega)) (fun h22 => ?_)
          exfalso; omega
      · refine b_vE (as := []) (rest := []) (k := 192) okX8_readsDigits rfl lkX8_93 caX8_next (Nat.le_of_ble_eq_true rfl) rfl (Nat.le_of_ble_eq_true rfl) rfl rfl rfl (c_next_f htp hm9 (y := (y + v)) (by omega) (by omega)) ?_
        rintro _ _ ⟨rfl, rfl⟩
        refine aGo okX8_readsDigits 2 (f' := (19, [some (.inr 192), some (.inl (r9 : Int)), some (.inl (dg : Int)), some (.inl (numL tp y v)), some (.inl (v : Int))], [.inl 57, .inl 48, .inl (-1)], _)) rfl ?_
        by_cases hc19 : 48 ≤ (-1) ∧ (-1) ≤ 57
        · refine b_vS (as := [.inl (-1), .inl 48, .inl 57]) (rest := []) (.inl 1) okX8_readsDigits rfl lkX8_97 caX8_isIn (Nat.le_of_ble_eq_true rfl) rfl (Nat.le_of_ble_eq_true rfl) rfl (c_isIn_t ⟨by omega, by omega⟩ ⟨by omega, by omega⟩ ⟨by omega, by omega⟩ hc19) ?_
          refine b0_ne (tgt := 27) okX8_readsDigits rfl rfl ⟨by omega, by omega⟩ (fun h22 => ?_) (fun h22 => absurd h22 (by omega))
          refine aGo okX8_readsDigits 4 (f' := (32, [some (.inr 192), some (.inl (r9 : Int)), some (.inl (dg : Int)), some (.inl (numL tp y v)), some (.inl (v : Int))], [.inr 192, .inl (10 * (numL tp y v))], _)) rfl ?_
          by_cases hc32 : (y + v) < m
          · refine b_vE (as := []) (rest := [.inl (10 * (numL tp y v))]) (k := 192) okX8_readsDigits rfl lkX8_93 caX8_next (Nat.le_of_ble_eq_true rfl) rfl (Nat.le_of_ble_eq_true rfl) rfl rfl rfl (c_next_t htp hm9 (y := (y + v)) hc32) ?_
            rintro _ _ ⟨rfl, rfl⟩
            refine aGo okX8_readsDigits 12 (f' := (5, [some (.inr 192), some (.inl (r9 : Int)), some (.inl (dg : Int)), some (.inl (((10 * (numL tp y v)) + (tp.getD (y + v) 0)) - 48)), some (.inl ((v : Int) + 1))], [], [A0, A1, A2, A3, A4, A5, (modSeg re k f c n kp l tp le la td kt sh so had gr fi se to (p : Int) t d (m : Int) ((((y + v) : Nat) : Int) + 1) sn him ik cu ou st rm)])) rfl ?_
            refine b_cast (f' := (5, [some (.inr 192), some (.inl (r9 : Int)), some (.inl (dg : Int)), some (.inl (numL tp y (v + 1))), some (.inl ((v : Int) + 1))], [], [A0, A1, A2, A3, A4, A5, (modSeg re k f c n kp l tp le la td kt sh so had gr fi se to (p : Int) t d (m : Int) ((((y + v) : Nat) : Int) + 1) sn him ik cu ou st rm)])) (congrArg (fun q : Int => ((5, [some (.inr 192), some (.inl (r9 : Int)), some (.inl (dg : Int)), some (.inl q), some (.inl ((v : Int) + 1))], [], [A0, A1, A2, A3, A4, A5, (modSeg re k f c n kp l tp le la td kt sh so had gr fi se to (p : Int) t d (m : Int) ((((y + v) : Nat) : Int) + 1) sn him ik cu ou st rm)]) : aF)) (rfl)) ?_
            exact ih (v + 1) (by omega)
          · refine b_vE (as := []) (rest := [.inl (10 * (numL tp y v))]) (k := 192) okX8_readsDigits rfl lkX8_93 caX8_next (Nat.le_of_ble_eq_true rfl) rfl (Nat.le_of_ble_eq_true rfl) rfl rfl rfl (c_next_f htp hm9 (y := (y + v)) (by omega) (by omega)) ?_
            rintro _ _ ⟨rfl, rfl⟩
            refine aGo okX8_readsDigits 12 (f' := (5, [some (.inr 192), some (.inl (r9 : Int)), some (.inl (dg : Int)), some (.inl (((10 * (numL tp y v)) + (-1)) - 48)), some (.inl ((v : Int) + 1))], [], [A0, A1, A2, A3, A4, A5, (modSeg re k f c n kp l tp le la td kt sh so had gr fi se to (p : Int) t d (m : Int) ((((y + v) : Nat) : Int) + 1) sn him ik cu ou st rm)])) rfl ?_
            exfalso; omega
        · refine b_vS (as := [.inl (-1), .inl 48, .inl 57]) (rest := []) (.inl 0) okX8_readsDigits rfl lkX8_97 caX8_isIn (Nat.le_of_ble_eq_true rfl) rfl (Nat.le_of_ble_eq_true rfl) rfl (c_isIn_f ⟨by omega, by omega⟩ ⟨by omega, by omega⟩ ⟨by omega, by omega⟩ hc19) ?_
          refine b0_ne (tgt := 27) okX8_readsDigits rfl rfl ⟨by omega, by omega⟩ (fun h22 => absurd h22 (by omega)) (fun h22 => ?_)
          exfalso; omega
  refine aGo okX8_readsDigits 4 (f' := (5, [some (.inr 192), some (.inl (r9 : Int)), some (.inl (dg : Int)), some (.inl 0), some (.inl 0)], [], _)) rfl ?_
  exact lp dg 0 (by omega)
set_option maxRecDepth 100000 in
set_option maxHeartbeats 4000000 in
theorem c_rd_f (htp : tp.length = 96) (hm9 : m ≤ 96) (rtp : rng tp 255) (htd : td.length = 192) {y r9 dg : Nat} (hq : r9 < 192) (hdg : dg ≤ 4) (hy : y ≤ 200) {i : Nat} (hi : i < dg) (h1 : ∀ e, e < i → (y + e < m ∧ 48 ≤ tp.getD (y + e) 0 ∧ tp.getD (y + e) 0 ≤ 57)) (h2 : ¬ (y + i < m ∧ 48 ≤ tp.getD (y + i) 0 ∧ tp.getD (y + i) 0 ≤ 57)) : aEv mX8_readsDigits 1 0 0 N [.inr 192, .inl (r9 : Int), .inl (dg : Int)] [A0, A1, A2, A3, A4, A5, (modSeg re k f c n kp l tp le la td kt sh so had gr fi se to (p : Int) t d (m : Int) (y : Int) sn him ik cu ou st rm)] ((aQx (some (.inl 0)) [A0, A1, A2, A3, A4, A5, (modSeg re k f c n kp l tp le la td kt sh so had gr fi se to (p : Int) t d (m : Int) (((y + i) : Nat) : Int) sn him ik cu ou st rm)])) := by
  refine aEv_of okX8_readsDigits caX8_readsDigits (Nat.le_of_ble_eq_true rfl) ?_
  have lp : ∀ (j v : Nat), v + j = i → AW mX8_readsDigits 1 0 0 N none (aQx (some (.inl 0)) [A0, A1, A2, A3, A4, A5, (modSeg re k f c n kp l tp le la td kt sh so had gr fi se to (p : Int) t d (m : Int) (((y + i) : Nat) : Int) sn him ik cu ou st rm)]) (5, [some (.inr 192), some (.inl (r9 : Int)), some (.inl (dg : Int)), some (.inl (numL tp y v)), some (.inl (v : Int))], [], [A0, A1, A2, A3, A4, A5, (modSeg re k f c n kp l tp le la td kt sh so had gr fi se to (p : Int) t d (m : Int) (((y + v) : Nat) : Int) sn him ik cu ou st rm)]) := by
    intro j
    induction j with
    | zero =>
      intro v  hij 
      obtain rfl : i = v := by omega
      have e7 := rtp (y + i)
      refine aGo okX8_readsDigits 2 (f' := (8, [some (.inr 192), some (.inl (r9 : Int)), some (.inl (dg : Int)), some (.inl (numL tp y i)), some (.inl (i : Int))], [.inl (dg : Int), .inl (i : Int)], _)) rfl ?_
      refine b_ge (tgt := 56) okX8_readsDigits rfl rfl ⟨by omega, by omega⟩ ⟨by omega, by omega⟩ (fun h8 => absurd h8 (by omega)) (fun h8 => ?_)
      refine aGo okX8_readsDigits 1 (f' := (12, [some (.inr 192), some (.inl (r9 : Int)), some (.inl (dg : Int)), some (.inl (numL tp y i)), some (.inl (i : Int))], [.inr 192], _)) rfl ?_
      by_cases hc12 : (y + i) < m
      · refine b_vE (as := []) (rest := []) (k := 192) okX8_readsDigits rfl lkX8_93 caX8_next (Nat.le_of_ble_eq_true rfl) rfl (Nat.le_of_ble_eq_true rfl) rfl rfl rfl (c_next_t htp hm9 (y := (y + i)) hc12) ?_
        rintro _ _ ⟨rfl, rfl⟩
        refine aGo okX8_readsDigits 2 (f' := (19, [some (.inr 192), some (.inl (r9 : Int)), some (.inl (dg : Int)), some (.inl (numL tp y i)), some (.inl (i : Int))], [.inl 57, .inl 48, .inl (tp.getD (y + i) 0)], _)) rfl ?_
        by_cases hc19 : 48 ≤ (tp.getD (y + i) 0) ∧ (tp.getD (y + i) 0) ≤ 57
        · refine b_vS (as := [.inl (tp.getD (y + i) 0), .inl 48, .inl 57]) (rest := []) (.inl 1) okX8_readsDigits rfl lkX8_97 caX8_isIn (Nat.le_of_ble_eq_true rfl) rfl (Nat.le_of_ble_eq_true rfl) rfl (c_isIn_t ⟨by omega, by omega⟩ ⟨by omega, by omega⟩ ⟨by omega, by omega⟩ hc19) ?_
          refine b0_ne (tgt := 27) okX8_readsDigits rfl rfl ⟨by omega, by omega⟩ (fun h22 => ?_) (fun h22 => absurd h22 (by omega))
          exfalso; omega
        · refine b_vS (as := [.inl (tp.getD (y + i) 0), .inl 48, .inl 57]) (rest := []) (.inl 0) okX8_readsDigits rfl lkX8_97 caX8_isIn (Nat.le_of_ble_eq_true rfl) rfl (Nat.le_of_ble_eq_true rfl) rfl (c_isIn_f ⟨by omega, by omega⟩ ⟨by omega, by omega⟩ ⟨by omega, by omega⟩ hc19) ?_
          refine b0_ne (tgt := 27) okX8_readsDigits rfl rfl ⟨by omega, by omega⟩ (fun h22 => absurd h22 (by omega)) (fun h22 => ?_)
          refine aGo okX8_readsDigits 1 (f' := (26, [some (.inr 192), some (.inl (r9 : Int)), some (.inl (dg : Int)), some (.inl (numL tp y i)), some (.inl (i : Int))], [.inl 0], _)) rfl ?_
          exact b_ret (v := (some (.inl 0))) ⟨rfl, Or.inr ⟨rfl, Or.inl rfl⟩⟩ ⟨rfl, rfl⟩ rfl
      · refine b_vE (as := []) (rest := []) (k := 192) okX8_readsDigits rfl lkX8_93 caX8_next (Nat.le_of_ble_eq_true rfl) rfl (Nat.le_of_ble_eq_true rfl) rfl rfl rfl (c_next_f htp hm9 (y := (y + i)) (by omega) (by omega)) ?_
        rintro _ _ ⟨rfl, rfl⟩
        refine aGo okX8_readsDigits 2 (f' := (19, [some (.inr 192), some (.inl (r9 : Int)), some (.inl (dg : Int)), some (.inl (numL tp y i)), some (.inl (i : Int))], [.inl 57, .inl 48, .inl (-1)], _)) rfl ?_
        by_cases hc19 : 48 ≤ (-1) ∧ (-1) ≤ 57
        · refine b_vS (as := [.inl (-1), .inl 48, .inl 57]) (rest := []) (.inl 1) okX8_readsDigits rfl lkX8_97 caX8_isIn (Nat.le_of_ble_eq_true rfl) rfl (Nat.le_of_ble_eq_true rfl) rfl (c_isIn_t ⟨by omega, by omega⟩ ⟨by omega, by omega⟩ ⟨by omega, by omega⟩ hc19) ?_
          refine b0_ne (tgt := 27) okX8_readsDigits rfl rfl ⟨by omega, by omega⟩ (fun h22 => ?_) (fun h22 => absurd h22 (by omega))
          exfalso; omega
        · refine b_vS (as := [.inl (-1), .inl 48, .inl 57]) (rest := []) (.inl 0) okX8_readsDigits rfl lkX8_97 caX8_isIn (Nat.le_of_ble_eq_true rfl) rfl (Nat.le_of_ble_eq_true rfl) rfl (c_isIn_f ⟨by omega, by omega⟩ ⟨by omega, by omega⟩ ⟨by omega, by omega⟩ hc19) ?_
          refine b0_ne (tgt := 27) okX8_readsDigits rfl rfl ⟨by omega, by omega⟩ (fun h22 => absurd h22 (by omega)) (fun h22 => ?_)
          refine aGo okX8_readsDigits 1 (f' := (26, [some (.inr 192), some (.inl (r9 : Int)), some (.inl (dg : Int)), some (.inl (numL tp y i)), some (.inl (i : Int))], [.inl 0], _)) rfl ?_
          exact b_ret (v := (some (.inl 0))) ⟨rfl, Or.inr ⟨rfl, Or.inl rfl⟩⟩ ⟨rfl, rfl⟩ rfl
    | succ j ih =>
      intro v  hij 
      have e1 := h1 v (by omega)
      have e7 := rtp (y + v)
      refine aGo okX8_readsDigits 2 (f' := (8, [some (.inr 192), some (.inl (r9 : Int)), some (.inl (dg : Int)), some (.inl (numL tp y v)), some (.inl (v : Int))], [.inl (dg : Int), .inl (v : Int)], _)) rfl ?_
      refine b_ge (tgt := 56) okX8_readsDigits rfl rfl ⟨by omega, by omega⟩ ⟨by omega, by omega⟩ (fun h8 => absurd h8 (by omega)) (fun h8 => ?_)
      refine aGo okX8_readsDigits 1 (f' := (12, [some (.inr 192), some (.inl (r9 : Int)), some (.inl (dg : Int)), some (.inl (numL tp y v)), some (.inl (v : Int))], [.inr 192], _)) rfl ?_
      by_cases hc12 : (y + v) < m
      · refine b_vE (as := []) (rest := []) (k := 192) okX8_readsDigits rfl lkX8_93 caX8_next (Nat.le_of_ble_eq_true rfl) rfl (Nat.le_of_ble_eq_true rfl) rfl rfl rfl (c_next_t htp hm9 (y := (y + v)) hc12) ?_
        rintro _ _ ⟨rfl, rfl⟩
        refine aGo okX8_readsDigits 2 (f' := (19, [some (.inr 192), some (.inl (r9 : Int)), some (.inl (dg : Int)), some (.inl (numL tp y v)), some (.inl (v : Int))], [.inl 57, .inl 48, .inl (tp.getD (y + v) 0)], _)) rfl ?_
        by_cases hc19 : 48 ≤ (tp.getD (y + v) 0) ∧ (tp.getD (y + v) 0) ≤ 57
        · refine b_vS (as := [.inl (tp.getD (y + v) 0), .inl 48, .inl 57]) (rest := []) (.inl 1) okX8_readsDigits rfl lkX8_97 caX8_isIn (Nat.le_of_ble_eq_true rfl) rfl (Nat.le_of_ble_eq_true rfl) rfl (c_isIn_t ⟨by omega, by omega⟩ ⟨by omega, by omega⟩ ⟨by omega, by omega⟩ hc19) ?_
          refine b0_ne (tgt := 27) okX8_readsDigits rfl rfl ⟨by omega, by omega⟩ (fun h22 => ?_) (fun h22 => absurd h22 (by omega))
          refine aGo okX8_readsDigits 4 (f' := (32, [some (.inr 192), some (.inl (r9 : Int)), some (.inl (dg : Int)), some (.inl (numL tp y v)), some (.inl (v : Int))], [.inr 192, .inl (10 * (numL tp y v))], _)) rfl ?_
          by_cases hc32 : (y + v) < m
          · refine b_vE (as := []) (rest := [.inl (10 * (numL tp y v))]) (k := 192) okX8_readsDigits rfl lkX8_93 caX8_next (Nat.le_of_ble_eq_true rfl) rfl (Nat.le_of_ble_eq_true rfl) rfl rfl rfl (c_next_t htp hm9 (y := (y + v)) hc32) ?_
            rintro _ _ ⟨rfl, rfl⟩
            refine aGo okX8_readsDigits 12 (f' := (5, [some (.inr 192), some (.inl (r9 : Int)), some (.inl (dg : Int)), some (.inl (((10 * (numL tp y v)) + (tp.getD (y + v) 0)) - 48)), some (.inl ((v : Int) + 1))], [], [A0, A1, A2, A3, A4, A5, (modSeg re k f c n kp l tp le la td kt sh so had gr fi se to (p : Int) t d (m : Int) ((((y + v) : Nat) : Int) + 1) sn him ik cu ou st rm)])) rfl ?_
            refine b_cast (f' := (5, [some (.inr 192), some (.inl (r9 : Int)), some (.inl (dg : Int)), some (.inl (numL tp y (v + 1))), some (.inl ((v : Int) + 1))], [], [A0, A1, A2, A3, A4, A5, (modSeg re k f c n kp l tp le la td kt sh so had gr fi se to (p : Int) t d (m : Int) ((((y + v) : Nat) : Int) + 1) sn him ik cu ou st rm)])) (congrArg (fun q : Int => ((5, [some (.inr 192), some (.inl (r9 : Int)), some (.inl (dg : Int)), some (.inl q), some (.inl ((v : Int) + 1))], [], [A0, A1, A2, A3, A4, A5, (modSeg re k f c n kp l tp le la td kt sh so had gr fi se to (p : Int) t d (m : Int) ((((y + v) : Nat) : Int) + 1) sn him ik cu ou st rm)]) : aF)) (rfl)) ?_
            exact ih (v + 1) (by omega)
          · refine b_vE (as := []) (rest := [.inl (10 * (numL tp y v))]) (k := 192) okX8_readsDigits rfl lkX8_93 caX8_next (Nat.le_of_ble_eq_true rfl) rfl (Nat.le_of_ble_eq_true rfl) rfl rfl rfl (c_next_f htp hm9 (y := (y + v)) (by omega) (by omega)) ?_
            rintro _ _ ⟨rfl, rfl⟩
            refine aGo okX8_readsDigits 12 (f' := (5, [some (.inr 192), some (.inl (r9 : Int)), some (.inl (dg : Int)), some (.inl (((10 * (numL tp y v)) + (-1)) - 48)), some (.inl ((v : Int) + 1))], [], [A0, A1, A2, A3, A4, A5, (modSeg re k f c n kp l tp le la td kt sh so had gr fi se to (p : Int) t d (m : Int) ((((y + v) : Nat) : Int) + 1) sn him ik cu ou st rm)])) rfl ?_
            exfalso; omega
        · refine b_vS (as := [.inl (tp.getD (y + v) 0), .inl 48, .inl 57]) (rest := []) (.inl 0) okX8_readsDigits rfl lkX8_97 caX8_isIn (Nat.le_of_ble_eq_true rfl) rfl (Nat.le_of_ble_eq_true rfl) rfl (c_isIn_f ⟨by omega, by omega⟩ ⟨by omega, by omega⟩ ⟨by omega, by omega⟩ hc19) ?_
          refine b0_ne (tgt := 27) okX8_readsDigits rfl rfl ⟨by omega, by omega⟩ (fun h22 => absurd h22 (by omega)) (fun h22 => ?_)
          exfalso; omega
      · refine b_vE (as := []) (rest := []) (k := 192) okX8_readsDigits rfl lkX8_93 caX8_next (Nat.le_of_ble_eq_true rfl) rfl (Nat.le_of_ble_eq_true rfl) rfl rfl rfl (c_next_f htp hm9 (y := (y + v)) (by omega) (by omega)) ?_
        rintro _ _ ⟨rfl, rfl⟩
        refine aGo okX8_readsDigits 2 (f' := (19, [some (.inr 192), some (.inl (r9 : Int)), some (.inl (dg : Int)), some (.inl (numL tp y v)), some (.inl (v : Int))], [.inl 57, .inl 48, .inl (-1)], _)) rfl ?_
        by_cases hc19 : 48 ≤ (-1) ∧ (-1) ≤ 57
        · refine b_vS (as := [.inl (-1), .inl 48, .inl 57]) (rest := []) (.inl 1) okX8_readsDigits rfl lkX8_97 caX8_isIn (Nat.le_of_ble_eq_true rfl) rfl (Nat.le_of_ble_eq_true rfl) rfl (c_isIn_t ⟨by omega, by omega⟩ ⟨by omega, by omega⟩ ⟨by omega, by omega⟩ hc19) ?_
          refine b0_ne (tgt := 27) okX8_readsDigits rfl rfl ⟨by omega, by omega⟩ (fun h22 => ?_) (fun h22 => absurd h22 (by omega))
          refine aGo okX8_readsDigits 4 (f' := (32, [some (.inr 192), some (.inl (r9 : Int)), some (.inl (dg : Int)), some (.inl (numL tp y v)), some (.inl (v : Int))], [.inr 192, .inl (10 * (numL tp y v))], _)) rfl ?_
          by_cases hc32 : (y + v) < m
          · refine b_vE (as := []) (rest := [.inl (10 * (numL tp y v))]) (k := 192) okX8_readsDigits rfl lkX8_93 caX8_next (Nat.le_of_ble_eq_true rfl) rfl (Nat.le_of_ble_eq_true rfl) rfl rfl rfl (c_next_t htp hm9 (y := (y + v)) hc32) ?_
            rintro _ _ ⟨rfl, rfl⟩
            refine aGo okX8_readsDigits 12 (f' := (5, [some (.inr 192), some (.inl (r9 : Int)), some (.inl (dg : Int)), some (.inl (((10 * (numL tp y v)) + (tp.getD (y + v) 0)) - 48)), some (.inl ((v : Int) + 1))], [], [A0, A1, A2, A3, A4, A5, (modSeg re k f c n kp l tp le la td kt sh so had gr fi se to (p : Int) t d (m : Int) ((((y + v) : Nat) : Int) + 1) sn him ik cu ou st rm)])) rfl ?_
            refine b_cast (f' := (5, [some (.inr 192), some (.inl (r9 : Int)), some (.inl (dg : Int)), some (.inl (numL tp y (v + 1))), some (.inl ((v : Int) + 1))], [], [A0, A1, A2, A3, A4, A5, (modSeg re k f c n kp l tp le la td kt sh so had gr fi se to (p : Int) t d (m : Int) ((((y + v) : Nat) : Int) + 1) sn him ik cu ou st rm)])) (congrArg (fun q : Int => ((5, [some (.inr 192), some (.inl (r9 : Int)), some (.inl (dg : Int)), some (.inl q), some (.inl ((v : Int) + 1))], [], [A0, A1, A2, A3, A4, A5, (modSeg re k f c n kp l tp le la td kt sh so had gr fi se to (p : Int) t d (m : Int) ((((y + v) : Nat) : Int) + 1) sn him ik cu ou st rm)]) : aF)) (rfl)) ?_
            exact ih (v + 1) (by omega)
          · refine b_vE (as := []) (rest := [.inl (10 * (numL tp y v))]) (k := 192) okX8_readsDigits rfl lkX8_93 caX8_next (Nat.le_of_ble_eq_true rfl) rfl (Nat.le_of_ble_eq_true rfl) rfl rfl rfl (c_next_f htp hm9 (y := (y + v)) (by omega) (by omega)) ?_
            rintro _ _ ⟨rfl, rfl⟩
            refine aGo okX8_readsDigits 12 (f' := (5, [some (.inr 192), some (.inl (r9 : Int)), some (.inl (dg : Int)), some (.inl (((10 * (numL tp y v)) + (-1)) - 48)), some (.inl ((v : Int) + 1))], [], [A0, A1, A2, A3, A4, A5, (modSeg re k f c n kp l tp le la td kt sh so had gr fi se to (p : Int) t d (m : Int) ((((y + v) : Nat) : Int) + 1) sn him ik cu ou st rm)])) rfl ?_
            exfalso; omega
        · refine b_vS (as := [.inl (-1), .inl 48, .inl 57]) (rest := []) (.inl 0) okX8_readsDigits rfl lkX8_97 caX8_isIn (Nat.le_of_ble_eq_true rfl) rfl (Nat.le_of_ble_eq_true rfl) rfl (c_isIn_f ⟨by omega, by omega⟩ ⟨by omega, by omega⟩ ⟨by omega, by omega⟩ hc19) ?_
          refine b0_ne (tgt := 27) okX8_readsDigits rfl rfl ⟨by omega, by omega⟩ (fun h22 => absurd h22 (by omega)) (fun h22 => ?_)
          exfalso; omega
  refine aGo okX8_readsDigits 4 (f' := (5, [some (.inr 192), some (.inl (r9 : Int)), some (.inl (dg : Int)), some (.inl 0), some (.inl 0)], [], _)) rfl ?_
  exact lp i 0 (by omega)
set_option maxRecDepth 100000 in
set_option maxHeartbeats 4000000 in
theorem c_rk_t (htp : tp.length = 96) (hm9 : m ≤ 96) (rtp : rng tp 255) (htd : td.length = 192) {y r9 : Nat} (hq : r9 < 192) (hy : y ≤ 200) (h : y < m ∧ 0 ≤ kdF (tp.getD y 0)) : aEv mX8_readsKind 1 0 0 N [.inr 192, .inl (r9 : Int)] [A0, A1, A2, A3, A4, A5, (modSeg re k f c n kp l tp le la td kt sh so had gr fi se to (p : Int) t d (m : Int) (y : Int) sn him ik cu ou st rm)] ((aQx (some (.inl 1)) [A0, A1, A2, A3, A4, A5, (modSeg re k f c n kp l tp le la (td.set r9 (kdF (tp.getD y 0))) kt sh so had gr fi se to (p : Int) t d (m : Int) (((y + 1) : Nat) : Int) sn him ik cu ou st rm)])) := by
  refine aEv_of okX8_readsKind caX8_readsKind (Nat.le_of_ble_eq_true rfl) ?_
  have e7 := rtp y
  have e8 := kdF_le (tp.getD y 0)
  have e9 := kdF_m1
  refine aGo okX8_readsKind 4 (f' := (6, [some (.inr 192), some (.inl (r9 : Int))], [.inr 192, .inl (r9 : Int), .inr 203], _)) rfl ?_
  by_cases hc6 : y < m
  · refine b_vE (as := []) (rest := [.inl (r9 : Int), .inr 203]) (k := 192) okX8_readsKind rfl lkX8_93 caX8_next (Nat.le_of_ble_eq_true rfl) rfl (Nat.le_of_ble_eq_true rfl) rfl rfl rfl (c_next_t htp hm9 (y := y) hc6) ?_
    rintro _ _ ⟨rfl, rfl⟩
    refine b_vS (as := [.inl (tp.getD y 0)]) (rest := [.inl (r9 : Int), .inr 203]) (.inl (kdF ((tp.getD y 0)))) okX8_readsKind rfl lkX8_101 caX8_kindOf (Nat.le_of_ble_eq_true rfl) rfl (Nat.le_of_ble_eq_true rfl) rfl (c_mKind ⟨by omega, by omega⟩) ?_
    refine b_ast (k := 203) (j := r9) (a := td) okX8_readsKind rfl rfl (by omega) (by omega) (by omega) ?_
    refine b_cast (f' := (13, [some (.inr 192), some (.inl (r9 : Int))], [], [A0, A1, A2, A3, A4, A5, (modSeg re k f c n kp l tp le la (td.set r9 (kdF ((tp.getD y 0)))) kt sh so had gr fi se to (p : Int) t d (m : Int) (y : Int) sn him ik cu ou st rm)])) rfl ?_
    refine aGo okX8_readsKind 3 (f' := (18, [some (.inr 192), some (.inl (r9 : Int))], [.inl (r9 : Int), .inr 203], _)) rfl ?_
    refine b_ald (k := 203) (j := r9) (a := td.set r9 (kdF ((tp.getD y 0)))) okX8_readsKind rfl rfl (by omega) (by rw [List.length_set]; omega) (by omega) ?_
    refine b_cast (f' := (19, [some (.inr 192), some (.inl (r9 : Int))], [.inl (kdF (tp.getD y 0))], [A0, A1, A2, A3, A4, A5, (modSeg re k f c n kp l tp le la (td.set r9 (kdF ((tp.getD y 0)))) kt sh so had gr fi se to (p : Int) t d (m : Int) (y : Int) sn him ik cu ou st rm)])) (congrArg (fun q : Int => ((19, [some (.inr 192), some (.inl (r9 : Int))], .inl q :: [], [A0, A1, A2, A3, A4, A5, (modSeg re k f c n kp l tp le la (td.set r9 (kdF ((tp.getD y 0)))) kt sh so had gr fi se to (p : Int) t d (m : Int) (y : Int) sn him ik cu ou st rm)]) : aF)) ((getD_set_self (by omega) _))) ?_
    refine b0_ge (tgt := 24) okX8_readsKind rfl rfl ⟨by omega, by omega⟩ (fun h19 => ?_) (fun h19 => ?_)
    · refine aGo okX8_readsKind 7 (f' := (35, [some (.inr 192), some (.inl (r9 : Int))], [.inl 1], [A0, A1, A2, A3, A4, A5, (modSeg re k f c n kp l tp le la (td.set r9 (kdF ((tp.getD y 0)))) kt sh so had gr fi se to (p : Int) t d (m : Int) ((y : Int) + 1) sn him ik cu ou st rm)])) rfl ?_
      exact b_ret (v := (some (.inl 1))) ⟨rfl, Or.inr ⟨rfl, Or.inr rfl⟩⟩ ⟨rfl, rfl⟩ rfl
    · exfalso; omega
  · refine b_vE (as := []) (rest := [.inl (r9 : Int), .inr 203]) (k := 192) okX8_readsKind rfl lkX8_93 caX8_next (Nat.le_of_ble_eq_true rfl) rfl (Nat.le_of_ble_eq_true rfl) rfl rfl rfl (c_next_f htp hm9 (y := y) (by omega) (by omega)) ?_
    rintro _ _ ⟨rfl, rfl⟩
    refine b_vS (as := [.inl (-1)]) (rest := [.inl (r9 : Int), .inr 203]) (.inl (kdF ((-1)))) okX8_readsKind rfl lkX8_101 caX8_kindOf (Nat.le_of_ble_eq_true rfl) rfl (Nat.le_of_ble_eq_true rfl) rfl (c_mKind ⟨by omega, by omega⟩) ?_
    refine b_ast (k := 203) (j := r9) (a := td) okX8_readsKind rfl rfl (by omega) (by omega) (by omega) ?_
    refine b_cast (f' := (13, [some (.inr 192), some (.inl (r9 : Int))], [], [A0, A1, A2, A3, A4, A5, (modSeg re k f c n kp l tp le la (td.set r9 (kdF ((-1)))) kt sh so had gr fi se to (p : Int) t d (m : Int) (y : Int) sn him ik cu ou st rm)])) rfl ?_
    refine aGo okX8_readsKind 3 (f' := (18, [some (.inr 192), some (.inl (r9 : Int))], [.inl (r9 : Int), .inr 203], _)) rfl ?_
    refine b_ald (k := 203) (j := r9) (a := td.set r9 (kdF ((-1)))) okX8_readsKind rfl rfl (by omega) (by rw [List.length_set]; omega) (by omega) ?_
    refine b_cast (f' := (19, [some (.inr 192), some (.inl (r9 : Int))], [.inl (kdF (-1))], [A0, A1, A2, A3, A4, A5, (modSeg re k f c n kp l tp le la (td.set r9 (kdF ((-1)))) kt sh so had gr fi se to (p : Int) t d (m : Int) (y : Int) sn him ik cu ou st rm)])) (congrArg (fun q : Int => ((19, [some (.inr 192), some (.inl (r9 : Int))], .inl q :: [], [A0, A1, A2, A3, A4, A5, (modSeg re k f c n kp l tp le la (td.set r9 (kdF ((-1)))) kt sh so had gr fi se to (p : Int) t d (m : Int) (y : Int) sn him ik cu ou st rm)]) : aF)) ((getD_set_self (by omega) _))) ?_
    refine b0_ge (tgt := 24) okX8_readsKind rfl rfl ⟨by omega, by omega⟩ (fun h19 => ?_) (fun h19 => ?_)
    · exfalso; omega
    · exfalso; omega
set_option maxRecDepth 100000 in
set_option maxHeartbeats 4000000 in
theorem c_rk_f (htp : tp.length = 96) (hm9 : m ≤ 96) (rtp : rng tp 255) (htd : td.length = 192) {y r9 : Nat} (hq : r9 < 192) (hy : y ≤ 200) (h : ¬ (y < m ∧ 0 ≤ kdF (tp.getD y 0))) : aEv mX8_readsKind 1 0 0 N [.inr 192, .inl (r9 : Int)] [A0, A1, A2, A3, A4, A5, (modSeg re k f c n kp l tp le la td kt sh so had gr fi se to (p : Int) t d (m : Int) (y : Int) sn him ik cu ou st rm)] ((fun rv h => rv = some (.inl 0) ∧ ∃ td2 : List Int, td2.length = 192 ∧ (∀ e, e ≠ r9 → td2.getD e 0 = td.getD e 0) ∧ h = [A0, A1, A2, A3, A4, A5, (modSeg re k f c n kp l tp le la td2 kt sh so had gr fi se to (p : Int) t d (m : Int) (y : Int) sn him ik cu ou st rm)])) := by
  refine aEv_of okX8_readsKind caX8_readsKind (Nat.le_of_ble_eq_true rfl) ?_
  have e7 := rtp y
  have e8 := kdF_le (tp.getD y 0)
  have e9 := kdF_m1
  refine aGo okX8_readsKind 4 (f' := (6, [some (.inr 192), some (.inl (r9 : Int))], [.inr 192, .inl (r9 : Int), .inr 203], _)) rfl ?_
  by_cases hc6 : y < m
  · refine b_vE (as := []) (rest := [.inl (r9 : Int), .inr 203]) (k := 192) okX8_readsKind rfl lkX8_93 caX8_next (Nat.le_of_ble_eq_true rfl) rfl (Nat.le_of_ble_eq_true rfl) rfl rfl rfl (c_next_t htp hm9 (y := y) hc6) ?_
    rintro _ _ ⟨rfl, rfl⟩
    refine b_vS (as := [.inl (tp.getD y 0)]) (rest := [.inl (r9 : Int), .inr 203]) (.inl (kdF ((tp.getD y 0)))) okX8_readsKind rfl lkX8_101 caX8_kindOf (Nat.le_of_ble_eq_true rfl) rfl (Nat.le_of_ble_eq_true rfl) rfl (c_mKind ⟨by omega, by omega⟩) ?_
    refine b_ast (k := 203) (j := r9) (a := td) okX8_readsKind rfl rfl (by omega) (by omega) (by omega) ?_
    refine b_cast (f' := (13, [some (.inr 192), some (.inl (r9 : Int))], [], [A0, A1, A2, A3, A4, A5, (modSeg re k f c n kp l tp le la (td.set r9 (kdF ((tp.getD y 0)))) kt sh so had gr fi se to (p : Int) t d (m : Int) (y : Int) sn him ik cu ou st rm)])) rfl ?_
    refine aGo okX8_readsKind 3 (f' := (18, [some (.inr 192), some (.inl (r9 : Int))], [.inl (r9 : Int), .inr 203], _)) rfl ?_
    refine b_ald (k := 203) (j := r9) (a := td.set r9 (kdF ((tp.getD y 0)))) okX8_readsKind rfl rfl (by omega) (by rw [List.length_set]; omega) (by omega) ?_
    refine b_cast (f' := (19, [some (.inr 192), some (.inl (r9 : Int))], [.inl (kdF (tp.getD y 0))], [A0, A1, A2, A3, A4, A5, (modSeg re k f c n kp l tp le la (td.set r9 (kdF ((tp.getD y 0)))) kt sh so had gr fi se to (p : Int) t d (m : Int) (y : Int) sn him ik cu ou st rm)])) (congrArg (fun q : Int => ((19, [some (.inr 192), some (.inl (r9 : Int))], .inl q :: [], [A0, A1, A2, A3, A4, A5, (modSeg re k f c n kp l tp le la (td.set r9 (kdF ((tp.getD y 0)))) kt sh so had gr fi se to (p : Int) t d (m : Int) (y : Int) sn him ik cu ou st rm)]) : aF)) ((getD_set_self (by omega) _))) ?_
    refine b0_ge (tgt := 24) okX8_readsKind rfl rfl ⟨by omega, by omega⟩ (fun h19 => ?_) (fun h19 => ?_)
    · exfalso; omega
    · refine aGo okX8_readsKind 1 (f' := (23, [some (.inr 192), some (.inl (r9 : Int))], [.inl 0], _)) rfl ?_
      exact b_ret (v := (some (.inl 0))) ⟨rfl, Or.inr ⟨rfl, Or.inl rfl⟩⟩ ⟨rfl, _, by rw [List.length_set]; exact htd, fun e he => getD_set_ne he _, rfl⟩ rfl
  · refine b_vE (as := []) (rest := [.inl (r9 : Int), .inr 203]) (k := 192) okX8_readsKind rfl lkX8_93 caX8_next (Nat.le_of_ble_eq_true rfl) rfl (Nat.le_of_ble_eq_true rfl) rfl rfl rfl (c_next_f htp hm9 (y := y) (by omega) (by omega)) ?_
    rintro _ _ ⟨rfl, rfl⟩
    refine b_vS (as := [.inl (-1)]) (rest := [.inl (r9 : Int), .inr 203]) (.inl (kdF ((-1)))) okX8_readsKind rfl lkX8_101 caX8_kindOf (Nat.le_of_ble_eq_true rfl) rfl (Nat.le_of_ble_eq_true rfl) rfl (c_mKind ⟨by omega, by omega⟩) ?_
    refine b_ast (k := 203) (j := r9) (a := td) okX8_readsKind rfl rfl (by omega) (by omega) (by omega) ?_
    refine b_cast (f' := (13, [some (.inr 192), some (.inl (r9 : Int))], [], [A0, A1, A2, A3, A4, A5, (modSeg re k f c n kp l tp le la (td.set r9 (kdF ((-1)))) kt sh so had gr fi se to (p : Int) t d (m : Int) (y : Int) sn him ik cu ou st rm)])) rfl ?_
    refine aGo okX8_readsKind 3 (f' := (18, [some (.inr 192), some (.inl (r9 : Int))], [.inl (r9 : Int), .inr 203], _)) rfl ?_
    refine b_ald (k := 203) (j := r9) (a := td.set r9 (kdF ((-1)))) okX8_readsKind rfl rfl (by omega) (by rw [List.length_set]; omega) (by omega) ?_
    refine b_cast (f' := (19, [some (.inr 192), some (.inl (r9 : Int))], [.inl (kdF (-1))], [A0, A1, A2, A3, A4, A5, (modSeg re k f c n kp l tp le la (td.set r9 (kdF ((-1)))) kt sh so had gr fi se to (p : Int) t d (m : Int) (y : Int) sn him ik cu ou st rm)])) (congrArg (fun q : Int => ((19, [some (.inr 192), some (.inl (r9 : Int))], .inl q :: [], [A0, A1, A2, A3, A4, A5, (modSeg re k f c n kp l tp le la (td.set r9 (kdF ((-1)))) kt sh so had gr fi se to (p : Int) t d (m : Int) (y : Int) sn him ik cu ou st rm)]) : aF)) ((getD_set_self (by omega) _))) ?_
    refine b0_ge (tgt := 24) okX8_readsKind rfl rfl ⟨by omega, by omega⟩ (fun h19 => ?_) (fun h19 => ?_)
    · exfalso; omega
    · refine aGo okX8_readsKind 1 (f' := (23, [some (.inr 192), some (.inl (r9 : Int))], [.inl 0], _)) rfl ?_
      exact b_ret (v := (some (.inl 0))) ⟨rfl, Or.inr ⟨rfl, Or.inl rfl⟩⟩ ⟨rfl, _, by rw [List.length_set]; exact htd, fun e he => getD_set_ne he _, rfl⟩ rfl
theorem ch0_2 : ∀ e : Nat, e < 1 → chr 0 (2 + e) = 48 := by decide +kernel
theorem ch0_3 : ∀ e : Nat, e < 2 → chr 0 (3 + e) = 48 := by decide +kernel
theorem ch0_5 : ∀ e : Nat, e < 2 → chr 0 (5 + e) = 48 := by decide +kernel
set_option maxRecDepth 100000 in
set_option maxHeartbeats 4000000 in
theorem c_ra_0t (htp : tp.length = 96) (hm9 : m ≤ 96) (rtp : rng tp 255) (htd : td.length = 192) {x j : Nat} (hj : j < 48) (hx : x ≤ 100) (hg : ∀ e, 1 ≤ e → e < 7 → gdA tp m x 0 e) : aEv mX8_readsAll 2 0 0 N [.inr 192, .inl 112, .inl (((4 * j) : Nat) : Int)] [A0, A1, A2, A3, A4, A5, (modSeg re k f c n kp l tp le la td kt sh so had gr fi se to (p : Int) t d (m : Int) (((x + 1) : Nat) : Int) sn him ik cu ou st rm)] ((aQx (some (.inl 1)) [A0, A1, A2, A3, A4, A5, (modSeg re k f c n kp l tp le la ((((td.set (4 * j) (kdF (tp.getD (x + 1) 0))).set (4 * j + 1) (numL tp (x + 2) 1)).set (4 * j + 2) (numL tp (x + 3) 2)).set (4 * j + 3) (numL tp (x + 5) 2)) kt sh so had gr fi se to (p : Int) t d (m : Int) (((x + 7) : Nat) : Int) sn him ik cu ou st rm)])) := by
  refine aEv_of okX8_readsAll caX8_readsAll (Nat.le_of_ble_eq_true rfl) ?_
  refine aGo okX8_readsAll 1 (f' := (1, [some (.inr 192), some (.inl 112), some (.inl (((4 * j) : Nat) : Int))], [.inl 112], _)) rfl ?_
  refine b_look (tgt := 52) okX8_readsAll rfl (by decide) ⟨by decide, by decide⟩ rfl rfl ?_
  refine aGo okX8_readsAll 2 (f' := (54, [some (.inr 192), some (.inl 112), some (.inl (((4 * j) : Nat) : Int))], [.inl (((4 * j) : Nat) : Int), .inr 192], _)) rfl ?_
  refine b_vE (as := [.inl (((4 * j) : Nat) : Int)]) (rest := []) (k := 192) okX8_readsAll rfl lkX8_104 caX8_readsKind (Nat.le_of_ble_eq_true rfl) rfl (Nat.le_of_ble_eq_true rfl) rfl rfl rfl (c_rk_t htp hm9 rtp htd (y := x + 1) (r9 := 4 * j) (by omega) (by omega) (gd_kind (hg 1 (by omega) (by omega)) (by decide +kernel))) ?_
  rintro _ _ ⟨rfl, rfl⟩
  refine b0_eq (tgt := 97) okX8_readsAll rfl rfl ⟨by omega, by omega⟩ (fun h57 => absurd h57 (by omega)) (fun h57 => ?_)
  refine aGo okX8_readsAll 5 (f' := (65, [some (.inr 192), some (.inl 112), some (.inl (((4 * j) : Nat) : Int))], [.inl 1, .inl ((((4 * j) : Nat) : Int) + 1), .inr 192], _)) rfl ?_
  refine b_vE (as := [.inl ((((4 * j) : Nat) : Int) + 1), .inl 1]) (rest := []) (k := 192) okX8_readsAll rfl lkX8_107 caX8_readsDigits (Nat.le_of_ble_eq_true rfl) rfl (Nat.le_of_ble_eq_true rfl) rfl rfl rfl (c_rd_t htp hm9 rtp (by simp only [List.length_set]; exact htd) (y := x + 2) (r9 := (4 * j + 1)) (dg := 1) (by omega) (by decide) (by omega) (fun e he => by rw [show x + 2 + e = x + (2 + e) by omega]; exact gd_dig (hg (2 + e) (by omega) (by omega)) (ch0_2 e (by omega)))) ?_
  rintro _ _ ⟨rfl, rfl⟩
  refine b0_eq (tgt := 97) okX8_readsAll rfl rfl ⟨by omega, by omega⟩ (fun h68 => absurd h68 (by omega)) (fun h68 => ?_)
  refine aGo okX8_readsAll 5 (f' := (76, [some (.inr 192), some (.inl 112), some (.inl (((4 * j) : Nat) : Int))], [.inl 2, .inl ((((4 * j) : Nat) : Int) + 2), .inr 192], _)) rfl ?_
  refine b_vE (as := [.inl ((((4 * j) : Nat) : Int) + 2), .inl 2]) (rest := []) (k := 192) okX8_readsAll rfl lkX8_107 caX8_readsDigits (Nat.le_of_ble_eq_true rfl) rfl (Nat.le_of_ble_eq_true rfl) rfl rfl rfl (c_rd_t htp hm9 rtp (by simp only [List.length_set]; exact htd) (y := x + 3) (r9 := (4 * j + 2)) (dg := 2) (by omega) (by decide) (by omega) (fun e he => by rw [show x + 3 + e = x + (3 + e) by omega]; exact gd_dig (hg (3 + e) (by omega) (by omega)) (ch0_3 e (by omega)))) ?_
  rintro _ _ ⟨rfl, rfl⟩
  refine b0_eq (tgt := 97) okX8_readsAll rfl rfl ⟨by omega, by omega⟩ (fun h79 => absurd h79 (by omega)) (fun h79 => ?_)
  refine aGo okX8_readsAll 5 (f' := (87, [some (.inr 192), some (.inl 112), some (.inl (((4 * j) : Nat) : Int))], [.inl 2, .inl ((((4 * j) : Nat) : Int) + 3), .inr 192], _)) rfl ?_
  refine b_vE (as := [.inl ((((4 * j) : Nat) : Int) + 3), .inl 2]) (rest := []) (k := 192) okX8_readsAll rfl lkX8_107 caX8_readsDigits (Nat.le_of_ble_eq_true rfl) rfl (Nat.le_of_ble_eq_true rfl) rfl rfl rfl (c_rd_t htp hm9 rtp (by simp only [List.length_set]; exact htd) (y := x + 5) (r9 := (4 * j + 3)) (dg := 2) (by omega) (by decide) (by omega) (fun e he => by rw [show x + 5 + e = x + (5 + e) by omega]; exact gd_dig (hg (5 + e) (by omega) (by omega)) (ch0_5 e (by omega)))) ?_
  rintro _ _ ⟨rfl, rfl⟩
  refine b0_eq (tgt := 97) okX8_readsAll rfl rfl ⟨by omega, by omega⟩ (fun h90 => absurd h90 (by omega)) (fun h90 => ?_)
  refine aGo okX8_readsAll 2 (f' := (98, [some (.inr 192), some (.inl 112), some (.inl (((4 * j) : Nat) : Int))], [.inl 1], _)) rfl ?_
  exact b_ret (v := (some (.inl 1))) ⟨rfl, Or.inr ⟨rfl, Or.inr rfl⟩⟩ ⟨rfl, rfl⟩ rfl
set_option maxRecDepth 100000 in
set_option maxHeartbeats 4000000 in
theorem c_ra_0f (htp : tp.length = 96) (hm9 : m ≤ 96) (rtp : rng tp 255) (htd : td.length = 192) {x j : Nat} (hj : j < 48) (hx : x ≤ 100) {i : Nat} (hi1 : 1 ≤ i) (hi2 : i < 7) (hg : ∀ e, 1 ≤ e → e < i → gdA tp m x 0 e) (hb : ¬ gdA tp m x 0 i) : aEv mX8_readsAll 2 0 0 N [.inr 192, .inl 112, .inl (((4 * j) : Nat) : Int)] [A0, A1, A2, A3, A4, A5, (modSeg re k f c n kp l tp le la td kt sh so had gr fi se to (p : Int) t d (m : Int) (((x + 1) : Nat) : Int) sn him ik cu ou st rm)] ((fun rv h => rv = some (.inl 0) ∧ ∃ td2 : List Int, td2.length = 192 ∧ (∀ e, e < 4 * j → td2.getD e 0 = td.getD e 0) ∧ h = [A0, A1, A2, A3, A4, A5, (modSeg re k f c n kp l tp le la td2 kt sh so had gr fi se to (p : Int) t d (m : Int) (((x + i) : Nat) : Int) sn him ik cu ou st rm)])) := by
  refine aEv_of okX8_readsAll caX8_readsAll (Nat.le_of_ble_eq_true rfl) ?_
  refine aGo okX8_readsAll 1 (f' := (1, [some (.inr 192), some (.inl 112), some (.inl (((4 * j) : Nat) : Int))], [.inl 112], _)) rfl ?_
  refine b_look (tgt := 52) okX8_readsAll rfl (by decide) ⟨by decide, by decide⟩ rfl rfl ?_
  refine aGo okX8_readsAll 2 (f' := (54, [some (.inr 192), some (.inl 112), some (.inl (((4 * j) : Nat) : Int))], [.inl (((4 * j) : Nat) : Int), .inr 192], _)) rfl ?_
  by_cases hc54 : 2 ≤ i
  · refine b_vE (as := [.inl (((4 * j) : Nat) : Int)]) (rest := []) (k := 192) okX8_readsAll rfl lkX8_104 caX8_readsKind (Nat.le_of_ble_eq_true rfl) rfl (Nat.le_of_ble_eq_true rfl) rfl rfl rfl (c_rk_t htp hm9 rtp htd (y := x + 1) (r9 := 4 * j) (by omega) (by omega) (gd_kind (hg 1 (by omega) (by omega)) (by decide +kernel))) ?_
    rintro _ _ ⟨rfl, rfl⟩
    refine b0_eq (tgt := 97) okX8_readsAll rfl rfl ⟨by omega, by omega⟩ (fun h57 => absurd h57 (by omega)) (fun h57 => ?_)
    refine aGo okX8_readsAll 5 (f' := (65, [some (.inr 192), some (.inl 112), some (.inl (((4 * j) : Nat) : Int))], [.inl 1, .inl ((((4 * j) : Nat) : Int) + 1), .inr 192], _)) rfl ?_
    by_cases hc65 : 3 ≤ i
    · refine b_vE (as := [.inl ((((4 * j) : Nat) : Int) + 1), .inl 1]) (rest := []) (k := 192) okX8_readsAll rfl lkX8_107 caX8_readsDigits (Nat.le_of_ble_eq_true rfl) rfl (Nat.le_of_ble_eq_true rfl) rfl rfl rfl (c_rd_t htp hm9 rtp (by simp only [List.length_set]; exact htd) (y := x + 2) (r9 := (4 * j + 1)) (dg := 1) (by omega) (by decide) (by omega) (fun e he => by rw [show x + 2 + e = x + (2 + e) by omega]; exact gd_dig (hg (2 + e) (by omega) (by omega)) (ch0_2 e (by omega)))) ?_
      rintro _ _ ⟨rfl, rfl⟩
      refine b0_eq (tgt := 97) okX8_readsAll rfl rfl ⟨by omega, by omega⟩ (fun h68 => absurd h68 (by omega)) (fun h68 => ?_)
      refine aGo okX8_readsAll 5 (f' := (76, [some (.inr 192), some (.inl 112), some (.inl (((4 * j) : Nat) : Int))], [.inl 2, .inl ((((4 * j) : Nat) : Int) + 2), .inr 192], _)) rfl ?_
      by_cases hc76 : 5 ≤ i
      · refine b_vE (as := [.inl ((((4 * j) : Nat) : Int) + 2), .inl 2]) (rest := []) (k := 192) okX8_readsAll rfl lkX8_107 caX8_readsDigits (Nat.le_of_ble_eq_true rfl) rfl (Nat.le_of_ble_eq_true rfl) rfl rfl rfl (c_rd_t htp hm9 rtp (by simp only [List.length_set]; exact htd) (y := x + 3) (r9 := (4 * j + 2)) (dg := 2) (by omega) (by decide) (by omega) (fun e he => by rw [show x + 3 + e = x + (3 + e) by omega]; exact gd_dig (hg (3 + e) (by omega) (by omega)) (ch0_3 e (by omega)))) ?_
        rintro _ _ ⟨rfl, rfl⟩
        refine b0_eq (tgt := 97) okX8_readsAll rfl rfl ⟨by omega, by omega⟩ (fun h79 => absurd h79 (by omega)) (fun h79 => ?_)
        refine aGo okX8_readsAll 5 (f' := (87, [some (.inr 192), some (.inl 112), some (.inl (((4 * j) : Nat) : Int))], [.inl 2, .inl ((((4 * j) : Nat) : Int) + 3), .inr 192], _)) rfl ?_
        by_cases hc87 : 7 ≤ i
        · refine b_vE (as := [.inl ((((4 * j) : Nat) : Int) + 3), .inl 2]) (rest := []) (k := 192) okX8_readsAll rfl lkX8_107 caX8_readsDigits (Nat.le_of_ble_eq_true rfl) rfl (Nat.le_of_ble_eq_true rfl) rfl rfl rfl (c_rd_t htp hm9 rtp (by simp only [List.length_set]; exact htd) (y := x + 5) (r9 := (4 * j + 3)) (dg := 2) (by omega) (by decide) (by omega) (fun e he => by rw [show x + 5 + e = x + (5 + e) by omega]; exact gd_dig (hg (5 + e) (by omega) (by omega)) (ch0_5 e (by omega)))) ?_
          rintro _ _ ⟨rfl, rfl⟩
          refine b0_eq (tgt := 97) okX8_readsAll rfl rfl ⟨by omega, by omega⟩ (fun h90 => absurd h90 (by omega)) (fun h90 => ?_)
          exfalso; omega
        · refine b_vE (as := [.inl ((((4 * j) : Nat) : Int) + 3), .inl 2]) (rest := []) (k := 192) okX8_readsAll rfl lkX8_107 caX8_readsDigits (Nat.le_of_ble_eq_true rfl) rfl (Nat.le_of_ble_eq_true rfl) rfl rfl rfl (c_rd_f htp hm9 rtp (by simp only [List.length_set]; exact htd) (y := x + 5) (r9 := (4 * j + 3)) (dg := 2) (by omega) (by decide) (by omega) (i := i - 5) (by omega) (fun e he => by rw [show x + 5 + e = x + (5 + e) by omega]; exact gd_dig (hg (5 + e) (by omega) (by omega)) (ch0_5 e (by omega))) (by rw [show x + 5 + (i - 5) = x + i by omega]; exact gd_not hb (by rw [show i = 5 + (i - 5) by omega]; exact ch0_5 (i - 5) (by omega)))) ?_
          rintro _ _ ⟨rfl, rfl⟩
          rw [show x + 5 + (i - 5) = x + i by omega]
          refine b0_eq (tgt := 97) okX8_readsAll rfl rfl ⟨by omega, by omega⟩ (fun h90 => ?_) (fun h90 => absurd h90 (by omega))
          refine aGo okX8_readsAll 1 (f' := (98, [some (.inr 192), some (.inl 112), some (.inl (((4 * j) : Nat) : Int))], [.inl 0], _)) rfl ?_
          exact b_ret (v := (some (.inl 0))) ⟨rfl, Or.inr ⟨rfl, Or.inl rfl⟩⟩ ⟨rfl, (((td.set (4 * j) (kdF (tp.getD (x + 1) 0))).set (4 * j + 1) (numL tp (x + 2) 1)).set (4 * j + 2) (numL tp (x + 3) 2)), by simp only [List.length_set]; exact htd, fun e he => by rw [getD_set_ne (by omega), getD_set_ne (by omega), getD_set_ne (by omega)], rfl⟩ rfl
      · refine b_vE (as := [.inl ((((4 * j) : Nat) : Int) + 2), .inl 2]) (rest := []) (k := 192) okX8_readsAll rfl lkX8_107 caX8_readsDigits (Nat.le_of_ble_eq_true rfl) rfl (Nat.le_of_ble_eq_true rfl) rfl rfl rfl (c_rd_f htp hm9 rtp (by simp only [List.length_set]; exact htd) (y := x + 3) (r9 := (4 * j + 2)) (dg := 2) (by omega) (by decide) (by omega) (i := i - 3) (by omega) (fun e he => by rw [show x + 3 + e = x + (3 + e) by omega]; exact gd_dig (hg (3 + e) (by omega) (by omega)) (ch0_3 e (by omega))) (by rw [show x + 3 + (i - 3) = x + i by omega]; exact gd_not hb (by rw [show i = 3 + (i - 3) by omega]; exact ch0_3 (i - 3) (by omega)))) ?_
        rintro _ _ ⟨rfl, rfl⟩
        rw [show x + 3 + (i - 3) = x + i by omega]
        refine b0_eq (tgt := 97) okX8_readsAll rfl rfl ⟨by omega, by omega⟩ (fun h79 => ?_) (fun h79 => absurd h79 (by omega))
        refine aGo okX8_readsAll 1 (f' := (98, [some (.inr 192), some (.inl 112), some (.inl (((4 * j) : Nat) : Int))], [.inl 0], _)) rfl ?_
        exact b_ret (v := (some (.inl 0))) ⟨rfl, Or.inr ⟨rfl, Or.inl rfl⟩⟩ ⟨rfl, ((td.set (4 * j) (kdF (tp.getD (x + 1) 0))).set (4 * j + 1) (numL tp (x + 2) 1)), by simp only [List.length_set]; exact htd, fun e he => by rw [getD_set_ne (by omega), getD_set_ne (by omega)], rfl⟩ rfl
    · refine b_vE (as := [.inl ((((4 * j) : Nat) : Int) + 1), .inl 1]) (rest := []) (k := 192) okX8_readsAll rfl lkX8_107 caX8_readsDigits (Nat.le_of_ble_eq_true rfl) rfl (Nat.le_of_ble_eq_true rfl) rfl rfl rfl (c_rd_f htp hm9 rtp (by simp only [List.length_set]; exact htd) (y := x + 2) (r9 := (4 * j + 1)) (dg := 1) (by omega) (by decide) (by omega) (i := i - 2) (by omega) (fun e he => by rw [show x + 2 + e = x + (2 + e) by omega]; exact gd_dig (hg (2 + e) (by omega) (by omega)) (ch0_2 e (by omega))) (by rw [show x + 2 + (i - 2) = x + i by omega]; exact gd_not hb (by rw [show i = 2 + (i - 2) by omega]; exact ch0_2 (i - 2) (by omega)))) ?_
      rintro _ _ ⟨rfl, rfl⟩
      rw [show x + 2 + (i - 2) = x + i by omega]
      refine b0_eq (tgt := 97) okX8_readsAll rfl rfl ⟨by omega, by omega⟩ (fun h68 => ?_) (fun h68 => absurd h68 (by omega))
      refine aGo okX8_readsAll 1 (f' := (98, [some (.inr 192), some (.inl 112), some (.inl (((4 * j) : Nat) : Int))], [.inl 0], _)) rfl ?_
      exact b_ret (v := (some (.inl 0))) ⟨rfl, Or.inr ⟨rfl, Or.inl rfl⟩⟩ ⟨rfl, (td.set (4 * j) (kdF (tp.getD (x + 1) 0))), by simp only [List.length_set]; exact htd, fun e he => by rw [getD_set_ne (by omega)], rfl⟩ rfl
  · obtain rfl : i = 1 := by omega
    refine b_vE (as := [.inl (((4 * j) : Nat) : Int)]) (rest := []) (k := 192) okX8_readsAll rfl lkX8_104 caX8_readsKind (Nat.le_of_ble_eq_true rfl) rfl (Nat.le_of_ble_eq_true rfl) rfl rfl rfl (c_rk_f htp hm9 rtp htd (y := x + 1) (r9 := 4 * j) (by omega) (by omega) (gd_nokind hb (by decide +kernel))) ?_
    rintro _ _ ⟨rfl, td2, ltd2, etd2, rfl⟩
    refine b0_eq (tgt := 97) okX8_readsAll rfl rfl ⟨by omega, by omega⟩ (fun h57 => ?_) (fun h57 => absurd h57 (by omega))
    refine aGo okX8_readsAll 1 (f' := (98, [some (.inr 192), some (.inl 112), some (.inl (((4 * j) : Nat) : Int))], [.inl 0], _)) rfl ?_
    exact b_ret (v := (some (.inl 0))) ⟨rfl, Or.inr ⟨rfl, Or.inl rfl⟩⟩ ⟨rfl, td2, ltd2, fun e he => etd2 e (by omega), rfl⟩ rfl
theorem ch1_1 : ∀ e : Nat, e < 1 → chr 1 (1 + e) = 48 := by decide +kernel
theorem ch1_2 : ∀ e : Nat, e < 2 → chr 1 (2 + e) = 48 := by decide +kernel
set_option maxRecDepth 100000 in
set_option maxHeartbeats 4000000 in
theorem c_ra_1t (htp : tp.length = 96) (hm9 : m ≤ 96) (rtp : rng tp 255) (htd : td.length = 192) {x j : Nat} (hj : j < 48) (hx : x ≤ 100) (hg : ∀ e, 1 ≤ e → e < 4 → gdA tp m x 1 e) : aEv mX8_readsAll 2 0 0 N [.inr 192, .inl 97, .inl (((4 * j) : Nat) : Int)] [A0, A1, A2, A3, A4, A5, (modSeg re k f c n kp l tp le la td kt sh so had gr fi se to (p : Int) t d (m : Int) (((x + 1) : Nat) : Int) sn him ik cu ou st rm)] ((aQx (some (.inl 1)) [A0, A1, A2, A3, A4, A5, (modSeg re k f c n kp l tp le la ((td.set (4 * j) (numL tp (x + 1) 1)).set (4 * j + 1) (numL tp (x + 2) 2)) kt sh so had gr fi se to (p : Int) t d (m : Int) (((x + 4) : Nat) : Int) sn him ik cu ou st rm)])) := by
  refine aEv_of okX8_readsAll caX8_readsAll (Nat.le_of_ble_eq_true rfl) ?_
  refine aGo okX8_readsAll 1 (f' := (1, [some (.inr 192), some (.inl 97), some (.inl (((4 * j) : Nat) : Int))], [.inl 97], _)) rfl ?_
  refine b_look (tgt := 99) okX8_readsAll rfl (by decide) ⟨by decide, by decide⟩ rfl rfl ?_
  refine aGo okX8_readsAll 3 (f' := (102, [some (.inr 192), some (.inl 97), some (.inl (((4 * j) : Nat) : Int))], [.inl 1, .inl (((4 * j) : Nat) : Int), .inr 192], _)) rfl ?_
  refine b_vE (as := [.inl (((4 * j) : Nat) : Int), .inl 1]) (rest := []) (k := 192) okX8_readsAll rfl lkX8_107 caX8_readsDigits (Nat.le_of_ble_eq_true rfl) rfl (Nat.le_of_ble_eq_true rfl) rfl rfl rfl (c_rd_t htp hm9 rtp htd (y := x + 1) (r9 := (4 * j)) (dg := 1) (by omega) (by decide) (by omega) (fun e he => by rw [show x + 1 + e = x + (1 + e) by omega]; exact gd_dig (hg (1 + e) (by omega) (by omega)) (ch1_1 e (by omega)))) ?_
  rintro _ _ ⟨rfl, rfl⟩
  refine b0_eq (tgt := 123) okX8_readsAll rfl rfl ⟨by omega, by omega⟩ (fun h105 => absurd h105 (by omega)) (fun h105 => ?_)
  refine aGo okX8_readsAll 5 (f' := (113, [some (.inr 192), some (.inl 97), some (.inl (((4 * j) : Nat) : Int))], [.inl 2, .inl ((((4 * j) : Nat) : Int) + 1), .inr 192], _)) rfl ?_
  refine b_vE (as := [.inl ((((4 * j) : Nat) : Int) + 1), .inl 2]) (rest := []) (k := 192) okX8_readsAll rfl lkX8_107 caX8_readsDigits (Nat.le_of_ble_eq_true rfl) rfl (Nat.le_of_ble_eq_true rfl) rfl rfl rfl (c_rd_t htp hm9 rtp (by simp only [List.length_set]; exact htd) (y := x + 2) (r9 := (4 * j + 1)) (dg := 2) (by omega) (by decide) (by omega) (fun e he => by rw [show x + 2 + e = x + (2 + e) by omega]; exact gd_dig (hg (2 + e) (by omega) (by omega)) (ch1_2 e (by omega)))) ?_
  rintro _ _ ⟨rfl, rfl⟩
  refine b0_eq (tgt := 123) okX8_readsAll rfl rfl ⟨by omega, by omega⟩ (fun h116 => absurd h116 (by omega)) (fun h116 => ?_)
  refine aGo okX8_readsAll 2 (f' := (124, [some (.inr 192), some (.inl 97), some (.inl (((4 * j) : Nat) : Int))], [.inl 1], _)) rfl ?_
  exact b_ret (v := (some (.inl 1))) ⟨rfl, Or.inr ⟨rfl, Or.inr rfl⟩⟩ ⟨rfl, rfl⟩ rfl
set_option maxRecDepth 100000 in
set_option maxHeartbeats 4000000 in
theorem c_ra_1f (htp : tp.length = 96) (hm9 : m ≤ 96) (rtp : rng tp 255) (htd : td.length = 192) {x j : Nat} (hj : j < 48) (hx : x ≤ 100) {i : Nat} (hi1 : 1 ≤ i) (hi2 : i < 4) (hg : ∀ e, 1 ≤ e → e < i → gdA tp m x 1 e) (hb : ¬ gdA tp m x 1 i) : aEv mX8_readsAll 2 0 0 N [.inr 192, .inl 97, .inl (((4 * j) : Nat) : Int)] [A0, A1, A2, A3, A4, A5, (modSeg re k f c n kp l tp le la td kt sh so had gr fi se to (p : Int) t d (m : Int) (((x + 1) : Nat) : Int) sn him ik cu ou st rm)] ((fun rv h => rv = some (.inl 0) ∧ ∃ td2 : List Int, td2.length = 192 ∧ (∀ e, e < 4 * j → td2.getD e 0 = td.getD e 0) ∧ h = [A0, A1, A2, A3, A4, A5, (modSeg re k f c n kp l tp le la td2 kt sh so had gr fi se to (p : Int) t d (m : Int) (((x + i) : Nat) : Int) sn him ik cu ou st rm)])) := by
  refine aEv_of okX8_readsAll caX8_readsAll (Nat.le_of_ble_eq_true rfl) ?_
  refine aGo okX8_readsAll 1 (f' := (1, [some (.inr 192), some (.inl 97), some (.inl (((4 * j) : Nat) : Int))], [.inl 97], _)) rfl ?_
  refine b_look (tgt := 99) okX8_readsAll rfl (by decide) ⟨by decide, by decide⟩ rfl rfl ?_
  refine aGo okX8_readsAll 3 (f' := (102, [some (.inr 192), some (.inl 97), some (.inl (((4 * j) : Nat) : Int))], [.inl 1, .inl (((4 * j) : Nat) : Int), .inr 192], _)) rfl ?_
  by_cases hc102 : 2 ≤ i
  · refine b_vE (as := [.inl (((4 * j) : Nat) : Int), .inl 1]) (rest := []) (k := 192) okX8_readsAll rfl lkX8_107 caX8_readsDigits (Nat.le_of_ble_eq_true rfl) rfl (Nat.le_of_ble_eq_true rfl) rfl rfl rfl (c_rd_t htp hm9 rtp htd (y := x + 1) (r9 := (4 * j)) (dg := 1) (by omega) (by decide) (by omega) (fun e he => by rw [show x + 1 + e = x + (1 + e) by omega]; exact gd_dig (hg (1 + e) (by omega) (by omega)) (ch1_1 e (by omega)))) ?_
    rintro _ _ ⟨rfl, rfl⟩
    refine b0_eq (tgt := 123) okX8_readsAll rfl rfl ⟨by omega, by omega⟩ (fun h105 => absurd h105 (by omega)) (fun h105 => ?_)
    refine aGo okX8_readsAll 5 (f' := (113, [some (.inr 192), some (.inl 97), some (.inl (((4 * j) : Nat) : Int))], [.inl 2, .inl ((((4 * j) : Nat) : Int) + 1), .inr 192], _)) rfl ?_
    by_cases hc113 : 4 ≤ i
    · refine b_vE (as := [.inl ((((4 * j) : Nat) : Int) + 1), .inl 2]) (rest := []) (k := 192) okX8_readsAll rfl lkX8_107 caX8_readsDigits (Nat.le_of_ble_eq_true rfl) rfl (Nat.le_of_ble_eq_true rfl) rfl rfl rfl (c_rd_t htp hm9 rtp (by simp only [List.length_set]; exact htd) (y := x + 2) (r9 := (4 * j + 1)) (dg := 2) (by omega) (by decide) (by omega) (fun e he => by rw [show x + 2 + e = x + (2 + e) by omega]; exact gd_dig (hg (2 + e) (by omega) (by omega)) (ch1_2 e (by omega)))) ?_
      rintro _ _ ⟨rfl, rfl⟩
      refine b0_eq (tgt := 123) okX8_readsAll rfl rfl ⟨by omega, by omega⟩ (fun h116 => absurd h116 (by omega)) (fun h116 => ?_)
      exfalso; omega
    · refine b_vE (as := [.inl ((((4 * j) : Nat) : Int) + 1), .inl 2]) (rest := []) (k := 192) okX8_readsAll rfl lkX8_107 caX8_readsDigits (Nat.le_of_ble_eq_true rfl) rfl (Nat.le_of_ble_eq_true rfl) rfl rfl rfl (c_rd_f htp hm9 rtp (by simp only [List.length_set]; exact htd) (y := x + 2) (r9 := (4 * j + 1)) (dg := 2) (by omega) (by decide) (by omega) (i := i - 2) (by omega) (fun e he => by rw [show x + 2 + e = x + (2 + e) by omega]; exact gd_dig (hg (2 + e) (by omega) (by omega)) (ch1_2 e (by omega))) (by rw [show x + 2 + (i - 2) = x + i by omega]; exact gd_not hb (by rw [show i = 2 + (i - 2) by omega]; exact ch1_2 (i - 2) (by omega)))) ?_
      rintro _ _ ⟨rfl, rfl⟩
      rw [show x + 2 + (i - 2) = x + i by omega]
      refine b0_eq (tgt := 123) okX8_readsAll rfl rfl ⟨by omega, by omega⟩ (fun h116 => ?_) (fun h116 => absurd h116 (by omega))
      refine aGo okX8_readsAll 1 (f' := (124, [some (.inr 192), some (.inl 97), some (.inl (((4 * j) : Nat) : Int))], [.inl 0], _)) rfl ?_
      exact b_ret (v := (some (.inl 0))) ⟨rfl, Or.inr ⟨rfl, Or.inl rfl⟩⟩ ⟨rfl, (td.set (4 * j) (numL tp (x + 1) 1)), by simp only [List.length_set]; exact htd, fun e he => by rw [getD_set_ne (by omega)], rfl⟩ rfl
  · refine b_vE (as := [.inl (((4 * j) : Nat) : Int), .inl 1]) (rest := []) (k := 192) okX8_readsAll rfl lkX8_107 caX8_readsDigits (Nat.le_of_ble_eq_true rfl) rfl (Nat.le_of_ble_eq_true rfl) rfl rfl rfl (c_rd_f htp hm9 rtp htd (y := x + 1) (r9 := (4 * j)) (dg := 1) (by omega) (by decide) (by omega) (i := i - 1) (by omega) (fun e he => by rw [show x + 1 + e = x + (1 + e) by omega]; exact gd_dig (hg (1 + e) (by omega) (by omega)) (ch1_1 e (by omega))) (by rw [show x + 1 + (i - 1) = x + i by omega]; exact gd_not hb (by rw [show i = 1 + (i - 1) by omega]; exact ch1_1 (i - 1) (by omega)))) ?_
    rintro _ _ ⟨rfl, rfl⟩
    rw [show x + 1 + (i - 1) = x + i by omega]
    refine b0_eq (tgt := 123) okX8_readsAll rfl rfl ⟨by omega, by omega⟩ (fun h105 => ?_) (fun h105 => absurd h105 (by omega))
    refine aGo okX8_readsAll 1 (f' := (124, [some (.inr 192), some (.inl 97), some (.inl (((4 * j) : Nat) : Int))], [.inl 0], _)) rfl ?_
    exact b_ret (v := (some (.inl 0))) ⟨rfl, Or.inr ⟨rfl, Or.inl rfl⟩⟩ ⟨rfl, td, htd, fun e he => by rfl, rfl⟩ rfl
theorem ch2_1 : ∀ e : Nat, e < 1 → chr 2 (1 + e) = 48 := by decide +kernel
theorem ch2_2 : ∀ e : Nat, e < 1 → chr 2 (2 + e) = 48 := by decide +kernel
theorem ch2_3 : ∀ e : Nat, e < 2 → chr 2 (3 + e) = 48 := by decide +kernel
set_option maxRecDepth 100000 in
set_option maxHeartbeats 4000000 in
theorem c_ra_2t (htp : tp.length = 96) (hm9 : m ≤ 96) (rtp : rng tp 255) (htd : td.length = 192) {x j : Nat} (hj : j < 48) (hx : x ≤ 100) (hg : ∀ e, 1 ≤ e → e < 5 → gdA tp m x 2 e) : aEv mX8_readsAll 2 0 0 N [.inr 192, .inl 108, .inl (((4 * j) : Nat) : Int)] [A0, A1, A2, A3, A4, A5, (modSeg re k f c n kp l tp le la td kt sh so had gr fi se to (p : Int) t d (m : Int) (((x + 1) : Nat) : Int) sn him ik cu ou st rm)] ((aQx (some (.inl 1)) [A0, A1, A2, A3, A4, A5, (modSeg re k f c n kp l tp le la (((td.set (4 * j) (numL tp (x + 1) 1)).set (4 * j + 1) (numL tp (x + 2) 1)).set (4 * j + 2) (numL tp (x + 3) 2)) kt sh so had gr fi se to (p : Int) t d (m : Int) (((x + 5) : Nat) : Int) sn him ik cu ou st rm)])) := by
  refine aEv_of okX8_readsAll caX8_readsAll (Nat.le_of_ble_eq_true rfl) ?_
  refine aGo okX8_readsAll 1 (f' := (1, [some (.inr 192), some (.inl 108), some (.inl (((4 * j) : Nat) : Int))], [.inl 108], _)) rfl ?_
  refine b_look (tgt := 125) okX8_readsAll rfl (by decide) ⟨by decide, by decide⟩ rfl rfl ?_
  refine aGo okX8_readsAll 3 (f' := (128, [some (.inr 192), some (.inl 108), some (.inl (((4 * j) : Nat) : Int))], [.inl 1, .inl (((4 * j) : Nat) : Int), .inr 192], _)) rfl ?_
  refine b_vE (as := [.inl (((4 * j) : Nat) : Int), .inl 1]) (rest := []) (k := 192) okX8_readsAll rfl lkX8_107 caX8_readsDigits (Nat.le_of_ble_eq_true rfl) rfl (Nat.le_of_ble_eq_true rfl) rfl rfl rfl (c_rd_t htp hm9 rtp htd (y := x + 1) (r9 := (4 * j)) (dg := 1) (by omega) (by decide) (by omega) (fun e he => by rw [show x + 1 + e = x + (1 + e) by omega]; exact gd_dig (hg (1 + e) (by omega) (by omega)) (ch2_1 e (by omega)))) ?_
  rintro _ _ ⟨rfl, rfl⟩
  refine b0_eq (tgt := 160) okX8_readsAll rfl rfl ⟨by omega, by omega⟩ (fun h131 => absurd h131 (by omega)) (fun h131 => ?_)
  refine aGo okX8_readsAll 5 (f' := (139, [some (.inr 192), some (.inl 108), some (.inl (((4 * j) : Nat) : Int))], [.inl 1, .inl ((((4 * j) : Nat) : Int) + 1), .inr 192], _)) rfl ?_
  refine b_vE (as := [.inl ((((4 * j) : Nat) : Int) + 1), .inl 1]) (rest := []) (k := 192) okX8_readsAll rfl lkX8_107 caX8_readsDigits (Nat.le_of_ble_eq_true rfl) rfl (Nat.le_of_ble_eq_true rfl) rfl rfl rfl (c_rd_t htp hm9 rtp (by simp only [List.length_set]; exact htd) (y := x + 2) (r9 := (4 * j + 1)) (dg := 1) (by omega) (by decide) (by omega) (fun e he => by rw [show x + 2 + e = x + (2 + e) by omega]; exact gd_dig (hg (2 + e) (by omega) (by omega)) (ch2_2 e (by omega)))) ?_
  rintro _ _ ⟨rfl, rfl⟩
  refine b0_eq (tgt := 160) okX8_readsAll rfl rfl ⟨by omega, by omega⟩ (fun h142 => absurd h142 (by omega)) (fun h142 => ?_)
  refine aGo okX8_readsAll 5 (f' := (150, [some (.inr 192), some (.inl 108), some (.inl (((4 * j) : Nat) : Int))], [.inl 2, .inl ((((4 * j) : Nat) : Int) + 2), .inr 192], _)) rfl ?_
  refine b_vE (as := [.inl ((((4 * j) : Nat) : Int) + 2), .inl 2]) (rest := []) (k := 192) okX8_readsAll rfl lkX8_107 caX8_readsDigits (Nat.le_of_ble_eq_true rfl) rfl (Nat.le_of_ble_eq_true rfl) rfl rfl rfl (c_rd_t htp hm9 rtp (by simp only [List.length_set]; exact htd) (y := x + 3) (r9 := (4 * j + 2)) (dg := 2) (by omega) (by decide) (by omega) (fun e he => by rw [show x + 3 + e = x + (3 + e) by omega]; exact gd_dig (hg (3 + e) (by omega) (by omega)) (ch2_3 e (by omega)))) ?_
  rintro _ _ ⟨rfl, rfl⟩
  refine b0_eq (tgt := 160) okX8_readsAll rfl rfl ⟨by omega, by omega⟩ (fun h153 => absurd h153 (by omega)) (fun h153 => ?_)
  refine aGo okX8_readsAll 2 (f' := (161, [some (.inr 192), some (.inl 108), some (.inl (((4 * j) : Nat) : Int))], [.inl 1], _)) rfl ?_
  exact b_ret (v := (some (.inl 1))) ⟨rfl, Or.inr ⟨rfl, Or.inr rfl⟩⟩ ⟨rfl, rfl⟩ rfl
set_option maxRecDepth 100000 in
set_option maxHeartbeats 4000000 in
theorem c_ra_2f (htp : tp.length = 96) (hm9 : m ≤ 96) (rtp : rng tp 255) (htd : td.length = 192) {x j : Nat} (hj : j < 48) (hx : x ≤ 100) {i : Nat} (hi1 : 1 ≤ i) (hi2 : i < 5) (hg : ∀ e, 1 ≤ e → e < i → gdA tp m x 2 e) (hb : ¬ gdA tp m x 2 i) : aEv mX8_readsAll 2 0 0 N [.inr 192, .inl 108, .inl (((4 * j) : Nat) : Int)] [A0, A1, A2, A3, A4, A5, (modSeg re k f c n kp l tp le la td kt sh so had gr fi se to (p : Int) t d (m : Int) (((x + 1) : Nat) : Int) sn him ik cu ou st rm)] ((fun rv h => rv = some (.inl 0) ∧ ∃ td2 : List Int, td2.length = 192 ∧ (∀ e, e < 4 * j → td2.getD e 0 = td.getD e 0) ∧ h = [A0, A1, A2, A3, A4, A5, (modSeg re k f c n kp l tp le la td2 kt sh so had gr fi se to (p : Int) t d (m : Int) (((x + i) : Nat) : Int) sn him ik cu ou st rm)])) := by
  refine aEv_of okX8_readsAll caX8_readsAll (Nat.le_of_ble_eq_true rfl) ?_
  refine aGo okX8_readsAll 1 (f' := (1, [some (.inr 192), some (.inl 108), some (.inl (((4 * j) : Nat) : Int))], [.inl 108], _)) rfl ?_
  refine b_look (tgt := 125) okX8_readsAll rfl (by decide) ⟨by decide, by decide⟩ rfl rfl ?_
  refine aGo okX8_readsAll 3 (f' := (128, [some (.inr 192), some (.inl 108), some (.inl (((4 * j) : Nat) : Int))], [.inl 1, .inl (((4 * j) : Nat) : Int), .inr 192], _)) rfl ?_
  by_cases hc128 : 2 ≤ i
  · refine b_vE (as := [.inl (((4 * j) : Nat) : Int), .inl 1]) (rest := []) (k := 192) okX8_readsAll rfl lkX8_107 caX8_readsDigits (Nat.le_of_ble_eq_true rfl) rfl (Nat.le_of_ble_eq_true rfl) rfl rfl rfl (c_rd_t htp hm9 rtp htd (y := x + 1) (r9 := (4 * j)) (dg := 1) (by omega) (by decide) (by omega) (fun e he => by rw [show x + 1 + e = x + (1 + e) by omega]; exact gd_dig (hg (1 + e) (by omega) (by omega)) (ch2_1 e (by omega)))) ?_
    rintro _ _ ⟨rfl, rfl⟩
    refine b0_eq (tgt := 160) okX8_readsAll rfl rfl ⟨by omega, by omega⟩ (fun h131 => absurd h131 (by omega)) (fun h131 => ?_)
    refine aGo okX8_readsAll 5 (f' := (139, [some (.inr 192), some (.inl 108), some (.inl (((4 * j) : Nat) : Int))], [.inl 1, .inl ((((4 * j) : Nat) : Int) + 1), .inr 192], _)) rfl ?_
    by_cases hc139 : 3 ≤ i
    · refine b_vE (as := [.inl ((((4 * j) : Nat) : Int) + 1), .inl 1]) (rest := []) (k := 192) okX8_readsAll rfl lkX8_107 caX8_readsDigits (Nat.le_of_ble_eq_true rfl) rfl (Nat.le_of_ble_eq_true rfl) rfl rfl rfl (c_rd_t htp hm9 rtp (by simp only [List.length_set]; exact htd) (y := x + 2) (r9 := (4 * j + 1)) (dg := 1) (by omega) (by decide) (by omega) (fun e he => by rw [show x + 2 + e = x + (2 + e) by omega]; exact gd_dig (hg (2 + e) (by omega) (by omega)) (ch2_2 e (by omega)))) ?_
      rintro _ _ ⟨rfl, rfl⟩
      refine b0_eq (tgt := 160) okX8_readsAll rfl rfl ⟨by omega, by omega⟩ (fun h142 => absurd h142 (by omega)) (fun h142 => ?_)
      refine aGo okX8_readsAll 5 (f' := (150, [some (.inr 192), some (.inl 108), some (.inl (((4 * j) : Nat) : Int))], [.inl 2, .inl ((((4 * j) : Nat) : Int) + 2), .inr 192], _)) rfl ?_
      by_cases hc150 : 5 ≤ i
      · refine b_vE (as := [.inl ((((4 * j) : Nat) : Int) + 2), .inl 2]) (rest := []) (k := 192) okX8_readsAll rfl lkX8_107 caX8_readsDigits (Nat.le_of_ble_eq_true rfl) rfl (Nat.le_of_ble_eq_true rfl) rfl rfl rfl (c_rd_t htp hm9 rtp (by simp only [List.length_set]; exact htd) (y := x + 3) (r9 := (4 * j + 2)) (dg := 2) (by omega) (by decide) (by omega) (fun e he => by rw [show x + 3 + e = x + (3 + e) by omega]; exact gd_dig (hg (3 + e) (by omega) (by omega)) (ch2_3 e (by omega)))) ?_
        rintro _ _ ⟨rfl, rfl⟩
        refine b0_eq (tgt := 160) okX8_readsAll rfl rfl ⟨by omega, by omega⟩ (fun h153 => absurd h153 (by omega)) (fun h153 => ?_)
        exfalso; omega
      · refine b_vE (as := [.inl ((((4 * j) : Nat) : Int) + 2), .inl 2]) (rest := []) (k := 192) okX8_readsAll rfl lkX8_107 caX8_readsDigits (Nat.le_of_ble_eq_true rfl) rfl (Nat.le_of_ble_eq_true rfl) rfl rfl rfl (c_rd_f htp hm9 rtp (by simp only [List.length_set]; exact htd) (y := x + 3) (r9 := (4 * j + 2)) (dg := 2) (by omega) (by decide) (by omega) (i := i - 3) (by omega) (fun e he => by rw [show x + 3 + e = x + (3 + e) by omega]; exact gd_dig (hg (3 + e) (by omega) (by omega)) (ch2_3 e (by omega))) (by rw [show x + 3 + (i - 3) = x + i by omega]; exact gd_not hb (by rw [show i = 3 + (i - 3) by omega]; exact ch2_3 (i - 3) (by omega)))) ?_
        rintro _ _ ⟨rfl, rfl⟩
        rw [show x + 3 + (i - 3) = x + i by omega]
        refine b0_eq (tgt := 160) okX8_readsAll rfl rfl ⟨by omega, by omega⟩ (fun h153 => ?_) (fun h153 => absurd h153 (by omega))
        refine aGo okX8_readsAll 1 (f' := (161, [some (.inr 192), some (.inl 108), some (.inl (((4 * j) : Nat) : Int))], [.inl 0], _)) rfl ?_
        exact b_ret (v := (some (.inl 0))) ⟨rfl, Or.inr ⟨rfl, Or.inl rfl⟩⟩ ⟨rfl, ((td.set (4 * j) (numL tp (x + 1) 1)).set (4 * j + 1) (numL tp (x + 2) 1)), by simp only [List.length_set]; exact htd, fun e he => by rw [getD_set_ne (by omega), getD_set_ne (by omega)], rfl⟩ rfl
    · refine b_vE (as := [.inl ((((4 * j) : Nat) : Int) + 1), .inl 1]) (rest := []) (k := 192) okX8_readsAll rfl lkX8_107 caX8_readsDigits (Nat.le_of_ble_eq_true rfl) rfl (Nat.le_of_ble_eq_true rfl) rfl rfl rfl (c_rd_f htp hm9 rtp (by simp only [List.length_set]; exact htd) (y := x + 2) (r9 := (4 * j + 1)) (dg := 1) (by omega) (by decide) (by omega) (i := i - 2) (by omega) (fun e he => by rw [show x + 2 + e = x + (2 + e) by omega]; exact gd_dig (hg (2 + e) (by omega) (by omega)) (ch2_2 e (by omega))) (by rw [show x + 2 + (i - 2) = x + i by omega]; exact gd_not hb (by rw [show i = 2 + (i - 2) by omega]; exact ch2_2 (i - 2) (by omega)))) ?_
      rintro _ _ ⟨rfl, rfl⟩
      rw [show x + 2 + (i - 2) = x + i by omega]
      refine b0_eq (tgt := 160) okX8_readsAll rfl rfl ⟨by omega, by omega⟩ (fun h142 => ?_) (fun h142 => absurd h142 (by omega))
      refine aGo okX8_readsAll 1 (f' := (161, [some (.inr 192), some (.inl 108), some (.inl (((4 * j) : Nat) : Int))], [.inl 0], _)) rfl ?_
      exact b_ret (v := (some (.inl 0))) ⟨rfl, Or.inr ⟨rfl, Or.inl rfl⟩⟩ ⟨rfl, (td.set (4 * j) (numL tp (x + 1) 1)), by simp only [List.length_set]; exact htd, fun e he => by rw [getD_set_ne (by omega)], rfl⟩ rfl
  · refine b_vE (as := [.inl (((4 * j) : Nat) : Int), .inl 1]) (rest := []) (k := 192) okX8_readsAll rfl lkX8_107 caX8_readsDigits (Nat.le_of_ble_eq_true rfl) rfl (Nat.le_of_ble_eq_true rfl) rfl rfl rfl (c_rd_f htp hm9 rtp htd (y := x + 1) (r9 := (4 * j)) (dg := 1) (by omega) (by decide) (by omega) (i := i - 1) (by omega) (fun e he => by rw [show x + 1 + e = x + (1 + e) by omega]; exact gd_dig (hg (1 + e) (by omega) (by omega)) (ch2_1 e (by omega))) (by rw [show x + 1 + (i - 1) = x + i by omega]; exact gd_not hb (by rw [show i = 1 + (i - 1) by omega]; exact ch2_1 (i - 1) (by omega)))) ?_
    rintro _ _ ⟨rfl, rfl⟩
    rw [show x + 1 + (i - 1) = x + i by omega]
    refine b0_eq (tgt := 160) okX8_readsAll rfl rfl ⟨by omega, by omega⟩ (fun h131 => ?_) (fun h131 => absurd h131 (by omega))
    refine aGo okX8_readsAll 1 (f' := (161, [some (.inr 192), some (.inl 108), some (.inl (((4 * j) : Nat) : Int))], [.inl 0], _)) rfl ?_
    exact b_ret (v := (some (.inl 0))) ⟨rfl, Or.inr ⟨rfl, Or.inl rfl⟩⟩ ⟨rfl, td, htd, fun e he => by rfl, rfl⟩ rfl
theorem ch3_1 : ∀ e : Nat, e < 1 → chr 3 (1 + e) = 48 := by decide +kernel
theorem ch3_2 : ∀ e : Nat, e < 4 → chr 3 (2 + e) = 48 := by decide +kernel
set_option maxRecDepth 100000 in
set_option maxHeartbeats 4000000 in
theorem c_ra_3t (htp : tp.length = 96) (hm9 : m ≤ 96) (rtp : rng tp 255) (htd : td.length = 192) {x j : Nat} (hj : j < 48) (hx : x ≤ 100) (hg : ∀ e, 1 ≤ e → e < 6 → gdA tp m x 3 e) : aEv mX8_readsAll 2 0 0 N [.inr 192, .inl 107, .inl (((4 * j) : Nat) : Int)] [A0, A1, A2, A3, A4, A5, (modSeg re k f c n kp l tp le la td kt sh so had gr fi se to (p : Int) t d (m : Int) (((x + 1) : Nat) : Int) sn him ik cu ou st rm)] ((aQx (some (.inl 1)) [A0, A1, A2, A3, A4, A5, (modSeg re k f c n kp l tp le la ((td.set (4 * j) (numL tp (x + 1) 1)).set (4 * j + 1) (numL tp (x + 2) 4)) kt sh so had gr fi se to (p : Int) t d (m : Int) (((x + 6) : Nat) : Int) sn him ik cu ou st rm)])) := by
  refine aEv_of okX8_readsAll caX8_readsAll (Nat.le_of_ble_eq_true rfl) ?_
  refine aGo okX8_readsAll 1 (f' := (1, [some (.inr 192), some (.inl 107), some (.inl (((4 * j) : Nat) : Int))], [.inl 107], _)) rfl ?_
  refine b_look (tgt := 162) okX8_readsAll rfl (by decide) ⟨by decide, by decide⟩ rfl rfl ?_
  refine aGo okX8_readsAll 3 (f' := (165, [some (.inr 192), some (.inl 107), some (.inl (((4 * j) : Nat) : Int))], [.inl 1, .inl (((4 * j) : Nat) : Int), .inr 192], _)) rfl ?_
  refine b_vE (as := [.inl (((4 * j) : Nat) : Int), .inl 1]) (rest := []) (k := 192) okX8_readsAll rfl lkX8_107 caX8_readsDigits (Nat.le_of_ble_eq_true rfl) rfl (Nat.le_of_ble_eq_true rfl) rfl rfl rfl (c_rd_t htp hm9 rtp htd (y := x + 1) (r9 := (4 * j)) (dg := 1) (by omega) (by decide) (by omega) (fun e he => by rw [show x + 1 + e = x + (1 + e) by omega]; exact gd_dig (hg (1 + e) (by omega) (by omega)) (ch3_1 e (by omega)))) ?_
  rintro _ _ ⟨rfl, rfl⟩
  refine b0_eq (tgt := 186) okX8_readsAll rfl rfl ⟨by omega, by omega⟩ (fun h168 => absurd h168 (by omega)) (fun h168 => ?_)
  refine aGo okX8_readsAll 5 (f' := (176, [some (.inr 192), some (.inl 107), some (.inl (((4 * j) : Nat) : Int))], [.inl 4, .inl ((((4 * j) : Nat) : Int) + 1), .inr 192], _)) rfl ?_
  refine b_vE (as := [.inl ((((4 * j) : Nat) : Int) + 1), .inl 4]) (rest := []) (k := 192) okX8_readsAll rfl lkX8_107 caX8_readsDigits (Nat.le_of_ble_eq_true rfl) rfl (Nat.le_of_ble_eq_true rfl) rfl rfl rfl (c_rd_t htp hm9 rtp (by simp only [List.length_set]; exact htd) (y := x + 2) (r9 := (4 * j + 1)) (dg := 4) (by omega) (by decide) (by omega) (fun e he => by rw [show x + 2 + e = x + (2 + e) by omega]; exact gd_dig (hg (2 + e) (by omega) (by omega)) (ch3_2 e (by omega)))) ?_
  rintro _ _ ⟨rfl, rfl⟩
  refine b0_eq (tgt := 186) okX8_readsAll rfl rfl ⟨by omega, by omega⟩ (fun h179 => absurd h179 (by omega)) (fun h179 => ?_)
  refine aGo okX8_readsAll 2 (f' := (187, [some (.inr 192), some (.inl 107), some (.inl (((4 * j) : Nat) : Int))], [.inl 1], _)) rfl ?_
  exact b_ret (v := (some (.inl 1))) ⟨rfl, Or.inr ⟨rfl, Or.inr rfl⟩⟩ ⟨rfl, rfl⟩ rfl
set_option maxRecDepth 100000 in
set_option maxHeartbeats 4000000 in
theorem c_ra_3f (htp : tp.length = 96) (hm9 : m ≤ 96) (rtp : rng tp 255) (htd : td.length = 192) {x j : Nat} (hj : j < 48) (hx : x ≤ 100) {i : Nat} (hi1 : 1 ≤ i) (hi2 : i < 6) (hg : ∀ e, 1 ≤ e → e < i → gdA tp m x 3 e) (hb : ¬ gdA tp m x 3 i) : aEv mX8_readsAll 2 0 0 N [.inr 192, .inl 107, .inl (((4 * j) : Nat) : Int)] [A0, A1, A2, A3, A4, A5, (modSeg re k f c n kp l tp le la td kt sh so had gr fi se to (p : Int) t d (m : Int) (((x + 1) : Nat) : Int) sn him ik cu ou st rm)] ((fun rv h => rv = some (.inl 0) ∧ ∃ td2 : List Int, td2.length = 192 ∧ (∀ e, e < 4 * j → td2.getD e 0 = td.getD e 0) ∧ h = [A0, A1, A2, A3, A4, A5, (modSeg re k f c n kp l tp le la td2 kt sh so had gr fi se to (p : Int) t d (m : Int) (((x + i) : Nat) : Int) sn him ik cu ou st rm)])) := by
  refine aEv_of okX8_readsAll caX8_readsAll (Nat.le_of_ble_eq_true rfl) ?_
  refine aGo okX8_readsAll 1 (f' := (1, [some (.inr 192), some (.inl 107), some (.inl (((4 * j) : Nat) : Int))], [.inl 107], _)) rfl ?_
  refine b_look (tgt := 162) okX8_readsAll rfl (by decide) ⟨by decide, by decide⟩ rfl rfl ?_
  refine aGo okX8_readsAll 3 (f' := (165, [some (.inr 192), some (.inl 107), some (.inl (((4 * j) : Nat) : Int))], [.inl 1, .inl (((4 * j) : Nat) : Int), .inr 192], _)) rfl ?_
  by_cases hc165 : 2 ≤ i
  · refine b_vE (as := [.inl (((4 * j) : Nat) : Int), .inl 1]) (rest := []) (k := 192) okX8_readsAll rfl lkX8_107 caX8_readsDigits (Nat.le_of_ble_eq_true rfl) rfl (Nat.le_of_ble_eq_true rfl) rfl rfl rfl (c_rd_t htp hm9 rtp htd (y := x + 1) (r9 := (4 * j)) (dg := 1) (by omega) (by decide) (by omega) (fun e he => by rw [show x + 1 + e = x + (1 + e) by omega]; exact gd_dig (hg (1 + e) (by omega) (by omega)) (ch3_1 e (by omega)))) ?_
    rintro _ _ ⟨rfl, rfl⟩
    refine b0_eq (tgt := 186) okX8_readsAll rfl rfl ⟨by omega, by omega⟩ (fun h168 => absurd h168 (by omega)) (fun h168 => ?_)
    refine aGo okX8_readsAll 5 (f' := (176, [some (.inr 192), some (.inl 107), some (.inl (((4 * j) : Nat) : Int))], [.inl 4, .inl ((((4 * j) : Nat) : Int) + 1), .inr 192], _)) rfl ?_
    by_cases hc176 : 6 ≤ i
    · refine b_vE (as := [.inl ((((4 * j) : Nat) : Int) + 1), .inl 4]) (rest := []) (k := 192) okX8_readsAll rfl lkX8_107 caX8_readsDigits (Nat.le_of_ble_eq_true rfl) rfl (Nat.le_of_ble_eq_true rfl) rfl rfl rfl (c_rd_t htp hm9 rtp (by simp only [List.length_set]; exact htd) (y := x + 2) (r9 := (4 * j + 1)) (dg := 4) (by omega) (by decide) (by omega) (fun e he => by rw [show x + 2 + e = x + (2 + e) by omega]; exact gd_dig (hg (2 + e) (by omega) (by omega)) (ch3_2 e (by omega)))) ?_
      rintro _ _ ⟨rfl, rfl⟩
      refine b0_eq (tgt := 186) okX8_readsAll rfl rfl ⟨by omega, by omega⟩ (fun h179 => absurd h179 (by omega)) (fun h179 => ?_)
      exfalso; omega
    · refine b_vE (as := [.inl ((((4 * j) : Nat) : Int) + 1), .inl 4]) (rest := []) (k := 192) okX8_readsAll rfl lkX8_107 caX8_readsDigits (Nat.le_of_ble_eq_true rfl) rfl (Nat.le_of_ble_eq_true rfl) rfl rfl rfl (c_rd_f htp hm9 rtp (by simp only [List.length_set]; exact htd) (y := x + 2) (r9 := (4 * j + 1)) (dg := 4) (by omega) (by decide) (by omega) (i := i - 2) (by omega) (fun e he => by rw [show x + 2 + e = x + (2 + e) by omega]; exact gd_dig (hg (2 + e) (by omega) (by omega)) (ch3_2 e (by omega))) (by rw [show x + 2 + (i - 2) = x + i by omega]; exact gd_not hb (by rw [show i = 2 + (i - 2) by omega]; exact ch3_2 (i - 2) (by omega)))) ?_
      rintro _ _ ⟨rfl, rfl⟩
      rw [show x + 2 + (i - 2) = x + i by omega]
      refine b0_eq (tgt := 186) okX8_readsAll rfl rfl ⟨by omega, by omega⟩ (fun h179 => ?_) (fun h179 => absurd h179 (by omega))
      refine aGo okX8_readsAll 1 (f' := (187, [some (.inr 192), some (.inl 107), some (.inl (((4 * j) : Nat) : Int))], [.inl 0], _)) rfl ?_
      exact b_ret (v := (some (.inl 0))) ⟨rfl, Or.inr ⟨rfl, Or.inl rfl⟩⟩ ⟨rfl, (td.set (4 * j) (numL tp (x + 1) 1)), by simp only [List.length_set]; exact htd, fun e he => by rw [getD_set_ne (by omega)], rfl⟩ rfl
  · refine b_vE (as := [.inl (((4 * j) : Nat) : Int), .inl 1]) (rest := []) (k := 192) okX8_readsAll rfl lkX8_107 caX8_readsDigits (Nat.le_of_ble_eq_true rfl) rfl (Nat.le_of_ble_eq_true rfl) rfl rfl rfl (c_rd_f htp hm9 rtp htd (y := x + 1) (r9 := (4 * j)) (dg := 1) (by omega) (by decide) (by omega) (i := i - 1) (by omega) (fun e he => by rw [show x + 1 + e = x + (1 + e) by omega]; exact gd_dig (hg (1 + e) (by omega) (by omega)) (ch3_1 e (by omega))) (by rw [show x + 1 + (i - 1) = x + i by omega]; exact gd_not hb (by rw [show i = 1 + (i - 1) by omega]; exact ch3_1 (i - 1) (by omega)))) ?_
    rintro _ _ ⟨rfl, rfl⟩
    rw [show x + 1 + (i - 1) = x + i by omega]
    refine b0_eq (tgt := 186) okX8_readsAll rfl rfl ⟨by omega, by omega⟩ (fun h168 => ?_) (fun h168 => absurd h168 (by omega))
    refine aGo okX8_readsAll 1 (f' := (187, [some (.inr 192), some (.inl 107), some (.inl (((4 * j) : Nat) : Int))], [.inl 0], _)) rfl ?_
    exact b_ret (v := (some (.inl 0))) ⟨rfl, Or.inr ⟨rfl, Or.inl rfl⟩⟩ ⟨rfl, td, htd, fun e he => by rfl, rfl⟩ rfl
theorem ch4_1 : ∀ e : Nat, e < 3 → chr 4 (1 + e) = 48 := by decide +kernel
set_option maxRecDepth 100000 in
set_option maxHeartbeats 4000000 in
theorem c_ra_4t (htp : tp.length = 96) (hm9 : m ≤ 96) (rtp : rng tp 255) (htd : td.length = 192) {x j : Nat} (hj : j < 48) (hx : x ≤ 100) (hg : ∀ e, 1 ≤ e → e < 4 → gdA tp m x 4 e) : aEv mX8_readsAll 2 0 0 N [.inr 192, .inl 115, .inl (((4 * j) : Nat) : Int)] [A0, A1, A2, A3, A4, A5, (modSeg re k f c n kp l tp le la td kt sh so had gr fi se to (p : Int) t d (m : Int) (((x + 1) : Nat) : Int) sn him ik cu ou st rm)] ((aQx (some (.inl 1)) [A0, A1, A2, A3, A4, A5, (modSeg re k f c n kp l tp le la (td.set (4 * j) (numL tp (x + 1) 3)) kt sh so had gr fi se to (p : Int) t d (m : Int) (((x + 4) : Nat) : Int) sn him ik cu ou st rm)])) := by
  refine aEv_of okX8_readsAll caX8_readsAll (Nat.le_of_ble_eq_true rfl) ?_
  refine aGo okX8_readsAll 1 (f' := (1, [some (.inr 192), some (.inl 115), some (.inl (((4 * j) : Nat) : Int))], [.inl 115], _)) rfl ?_
  refine b_look (tgt := 188) okX8_readsAll rfl (by decide) ⟨by decide, by decide⟩ rfl rfl ?_
  refine aGo okX8_readsAll 3 (f' := (191, [some (.inr 192), some (.inl 115), some (.inl (((4 * j) : Nat) : Int))], [.inl 3, .inl (((4 * j) : Nat) : Int), .inr 192], _)) rfl ?_
  refine b_vE (as := [.inl (((4 * j) : Nat) : Int), .inl 3]) (rest := []) (k := 192) okX8_readsAll rfl lkX8_107 caX8_readsDigits (Nat.le_of_ble_eq_true rfl) rfl (Nat.le_of_ble_eq_true rfl) rfl rfl rfl (c_rd_t htp hm9 rtp htd (y := x + 1) (r9 := (4 * j)) (dg := 3) (by omega) (by decide) (by omega) (fun e he => by rw [show x + 1 + e = x + (1 + e) by omega]; exact gd_dig (hg (1 + e) (by omega) (by omega)) (ch4_1 e (by omega)))) ?_
  rintro _ _ ⟨rfl, rfl⟩
  exact b_ret (v := (some (.inl 1))) ⟨rfl, Or.inr ⟨rfl, Or.inr rfl⟩⟩ ⟨rfl, rfl⟩ rfl
set_option maxRecDepth 100000 in
set_option maxHeartbeats 4000000 in
theorem c_ra_4f (htp : tp.length = 96) (hm9 : m ≤ 96) (rtp : rng tp 255) (htd : td.length = 192) {x j : Nat} (hj : j < 48) (hx : x ≤ 100) {i : Nat} (hi1 : 1 ≤ i) (hi2 : i < 4) (hg : ∀ e, 1 ≤ e → e < i → gdA tp m x 4 e) (hb : ¬ gdA tp m x 4 i) : aEv mX8_readsAll 2 0 0 N [.inr 192, .inl 115, .inl (((4 * j) : Nat) : Int)] [A0, A1, A2, A3, A4, A5, (modSeg re k f c n kp l tp le la td kt sh so had gr fi se to (p : Int) t d (m : Int) (((x + 1) : Nat) : Int) sn him ik cu ou st rm)] ((fun rv h => rv = some (.inl 0) ∧ ∃ td2 : List Int, td2.length = 192 ∧ (∀ e, e < 4 * j → td2.getD e 0 = td.getD e 0) ∧ h = [A0, A1, A2, A3, A4, A5, (modSeg re k f c n kp l tp le la td2 kt sh so had gr fi se to (p : Int) t d (m : Int) (((x + i) : Nat) : Int) sn him ik cu ou st rm)])) := by
  refine aEv_of okX8_readsAll caX8_readsAll (Nat.le_of_ble_eq_true rfl) ?_
  refine aGo okX8_readsAll 1 (f' := (1, [some (.inr 192), some (.inl 115), some (.inl (((4 * j) : Nat) : Int))], [.inl 115], _)) rfl ?_
  refine b_look (tgt := 188) okX8_readsAll rfl (by decide) ⟨by decide, by decide⟩ rfl rfl ?_
  refine aGo okX8_readsAll 3 (f' := (191, [some (.inr 192), some (.inl 115), some (.inl (((4 * j) : Nat) : Int))], [.inl 3, .inl (((4 * j) : Nat) : Int), .inr 192], _)) rfl ?_
  refine b_vE (as := [.inl (((4 * j) : Nat) : Int), .inl 3]) (rest := []) (k := 192) okX8_readsAll rfl lkX8_107 caX8_readsDigits (Nat.le_of_ble_eq_true rfl) rfl (Nat.le_of_ble_eq_true rfl) rfl rfl rfl (c_rd_f htp hm9 rtp htd (y := x + 1) (r9 := (4 * j)) (dg := 3) (by omega) (by decide) (by omega) (i := i - 1) (by omega) (fun e he => by rw [show x + 1 + e = x + (1 + e) by omega]; exact gd_dig (hg (1 + e) (by omega) (by omega)) (ch4_1 e (by omega))) (by rw [show x + 1 + (i - 1) = x + i by omega]; exact gd_not hb (by rw [show i = 1 + (i - 1) by omega]; exact ch4_1 (i - 1) (by omega)))) ?_
  rintro _ _ ⟨rfl, rfl⟩
  rw [show x + 1 + (i - 1) = x + i by omega]
  exact b_ret (v := (some (.inl 0))) ⟨rfl, Or.inr ⟨rfl, Or.inl rfl⟩⟩ ⟨rfl, td, htd, fun e he => by rfl, rfl⟩ rfl
theorem ch5_1 : ∀ e : Nat, e < 2 → chr 5 (1 + e) = 48 := by decide +kernel
set_option maxRecDepth 100000 in
set_option maxHeartbeats 4000000 in
theorem c_ra_5t (htp : tp.length = 96) (hm9 : m ≤ 96) (rtp : rng tp 255) (htd : td.length = 192) {x j : Nat} (hj : j < 48) (hx : x ≤ 100) (hg : ∀ e, 1 ≤ e → e < 3 → gdA tp m x 5 e) : aEv mX8_readsAll 2 0 0 N [.inr 192, .inl 100, .inl (((4 * j) : Nat) : Int)] [A0, A1, A2, A3, A4, A5, (modSeg re k f c n kp l tp le la td kt sh so had gr fi se to (p : Int) t d (m : Int) (((x + 1) : Nat) : Int) sn him ik cu ou st rm)] ((aQx (some (.inl 1)) [A0, A1, A2, A3, A4, A5, (modSeg re k f c n kp l tp le la (td.set (4 * j) (numL tp (x + 1) 2)) kt sh so had gr fi se to (p : Int) t d (m : Int) (((x + 3) : Nat) : Int) sn him ik cu ou st rm)])) := by
  refine aEv_of okX8_readsAll caX8_readsAll (Nat.le_of_ble_eq_true rfl) ?_
  refine aGo okX8_readsAll 1 (f' := (1, [some (.inr 192), some (.inl 100), some (.inl (((4 * j) : Nat) : Int))], [.inl 100], _)) rfl ?_
  refine b_look (tgt := 195) okX8_readsAll rfl (by decide) ⟨by decide, by decide⟩ rfl rfl ?_
  refine aGo okX8_readsAll 3 (f' := (198, [some (.inr 192), some (.inl 100), some (.inl (((4 * j) : Nat) : Int))], [.inl 2, .inl (((4 * j) : Nat) : Int), .inr 192], _)) rfl ?_
  refine b_vE (as := [.inl (((4 * j) : Nat) : Int), .inl 2]) (rest := []) (k := 192) okX8_readsAll rfl lkX8_107 caX8_readsDigits (Nat.le_of_ble_eq_true rfl) rfl (Nat.le_of_ble_eq_true rfl) rfl rfl rfl (c_rd_t htp hm9 rtp htd (y := x + 1) (r9 := (4 * j)) (dg := 2) (by omega) (by decide) (by omega) (fun e he => by rw [show x + 1 + e = x + (1 + e) by omega]; exact gd_dig (hg (1 + e) (by omega) (by omega)) (ch5_1 e (by omega)))) ?_
  rintro _ _ ⟨rfl, rfl⟩
  exact b_ret (v := (some (.inl 1))) ⟨rfl, Or.inr ⟨rfl, Or.inr rfl⟩⟩ ⟨rfl, rfl⟩ rfl
set_option maxRecDepth 100000 in
set_option maxHeartbeats 4000000 in
theorem c_ra_5f (htp : tp.length = 96) (hm9 : m ≤ 96) (rtp : rng tp 255) (htd : td.length = 192) {x j : Nat} (hj : j < 48) (hx : x ≤ 100) {i : Nat} (hi1 : 1 ≤ i) (hi2 : i < 3) (hg : ∀ e, 1 ≤ e → e < i → gdA tp m x 5 e) (hb : ¬ gdA tp m x 5 i) : aEv mX8_readsAll 2 0 0 N [.inr 192, .inl 100, .inl (((4 * j) : Nat) : Int)] [A0, A1, A2, A3, A4, A5, (modSeg re k f c n kp l tp le la td kt sh so had gr fi se to (p : Int) t d (m : Int) (((x + 1) : Nat) : Int) sn him ik cu ou st rm)] ((fun rv h => rv = some (.inl 0) ∧ ∃ td2 : List Int, td2.length = 192 ∧ (∀ e, e < 4 * j → td2.getD e 0 = td.getD e 0) ∧ h = [A0, A1, A2, A3, A4, A5, (modSeg re k f c n kp l tp le la td2 kt sh so had gr fi se to (p : Int) t d (m : Int) (((x + i) : Nat) : Int) sn him ik cu ou st rm)])) := by
  refine aEv_of okX8_readsAll caX8_readsAll (Nat.le_of_ble_eq_true rfl) ?_
  refine aGo okX8_readsAll 1 (f' := (1, [some (.inr 192), some (.inl 100), some (.inl (((4 * j) : Nat) : Int))], [.inl 100], _)) rfl ?_
  refine b_look (tgt := 195) okX8_readsAll rfl (by decide) ⟨by decide, by decide⟩ rfl rfl ?_
  refine aGo okX8_readsAll 3 (f' := (198, [some (.inr 192), some (.inl 100), some (.inl (((4 * j) : Nat) : Int))], [.inl 2, .inl (((4 * j) : Nat) : Int), .inr 192], _)) rfl ?_
  refine b_vE (as := [.inl (((4 * j) : Nat) : Int), .inl 2]) (rest := []) (k := 192) okX8_readsAll rfl lkX8_107 caX8_readsDigits (Nat.le_of_ble_eq_true rfl) rfl (Nat.le_of_ble_eq_true rfl) rfl rfl rfl (c_rd_f htp hm9 rtp htd (y := x + 1) (r9 := (4 * j)) (dg := 2) (by omega) (by decide) (by omega) (i := i - 1) (by omega) (fun e he => by rw [show x + 1 + e = x + (1 + e) by omega]; exact gd_dig (hg (1 + e) (by omega) (by omega)) (ch5_1 e (by omega))) (by rw [show x + 1 + (i - 1) = x + i by omega]; exact gd_not hb (by rw [show i = 1 + (i - 1) by omega]; exact ch5_1 (i - 1) (by omega)))) ?_
  rintro _ _ ⟨rfl, rfl⟩
  rw [show x + 1 + (i - 1) = x + i by omega]
  exact b_ret (v := (some (.inl 0))) ⟨rfl, Or.inr ⟨rfl, Or.inl rfl⟩⟩ ⟨rfl, td, htd, fun e he => by rfl, rfl⟩ rfl
set_option maxRecDepth 100000 in
set_option maxHeartbeats 4000000 in
theorem c_st_0t (htp : tp.length = 96) (hm9 : m ≤ 96) (rtp : rng tp 255) (htd : td.length = 192) (hle : le.length = 48) (hla : la.length = 48) {x j : Nat} (hj : j < 48) (hx : x ≤ 100) (hxm : x < m) (hL : tp.getD x 0 = 112) (hg : ∀ e, 1 ≤ e → e < 8 → gdA tp m x 0 e) : aEv mX8_statement 3 0 0 N [.inr 192] [A0, A1, A2, A3, A4, A5, (modSeg re k f c n kp l tp le la td kt sh so had gr fi se to (p : Int) t d (m : Int) (x : Int) (j : Int) him ik cu ou st rm)] ((aQx (some (.inl 1)) [A0, A1, A2, A3, A4, A5, (modSeg re k f c n kp l tp (le.set j 112) (la.set j (x : Int)) ((((td.set (4 * j) (kdF (tp.getD (x + 1) 0))).set (4 * j + 1) (numL tp (x + 2) 1)).set (4 * j + 2) (numL tp (x + 3) 2)).set (4 * j + 3) (numL tp (x + 5) 2)) kt sh so had gr fi se to (p : Int) t d (m : Int) (((x + 8) : Nat) : Int) (j : Int) him ik cu ou st rm)])) := by
  have hend := gd_end (hg 7 (by decide) (by decide)) (by decide +kernel)
  have e7 := hend.2
  refine aEv_of okX8_statement caX8_statement (Nat.le_of_ble_eq_true rfl) ?_
  refine aGo okX8_statement 1 (f' := (1, [some (.inr 192), none], [.inr 192], _)) rfl ?_
  refine b_vE (as := []) (rest := []) (k := 192) okX8_statement rfl lkX8_93 caX8_next (Nat.le_of_ble_eq_true rfl) rfl (Nat.le_of_ble_eq_true rfl) rfl rfl rfl (c_next_t htp hm9 (y := x) hxm) ?_
  rintro _ _ ⟨rfl, rfl⟩
  refine b_cast (f' := (4, [some (.inr 192), none], [.inl (112)], [A0, A1, A2, A3, A4, A5, (modSeg re k f c n kp l tp le la td kt sh so had gr fi se to (p : Int) t d (m : Int) (x : Int) (j : Int) him ik cu ou st rm)])) (congrArg (fun q : Int => ((4, [some (.inr 192), none], .inl q :: [], [A0, A1, A2, A3, A4, A5, (modSeg re k f c n kp l tp le la td kt sh so had gr fi se to (p : Int) t d (m : Int) (x : Int) (j : Int) him ik cu ou st rm)]) : aF)) (hL)) ?_
  refine aGo okX8_statement 3 (f' := (8, [some (.inr 192), some (.inl 112)], [.inl 112, .inl 112], _)) rfl ?_
  refine b_eq (tgt := 43) okX8_statement rfl rfl ⟨by omega, by omega⟩ ⟨by omega, by omega⟩ (fun h8 => ?_) (fun h8 => absurd h8 (by omega))
  refine aGo okX8_statement 5 (f' := (52, [some (.inr 192), some (.inl 112)], [.inl 112, .inl (j : Int), .inr 201], _)) rfl ?_
  refine b_ast (k := 201) (j := j) (a := le) okX8_statement rfl rfl (by omega) (by omega) (by omega) ?_
  refine b_cast (f' := (53, [some (.inr 192), some (.inl 112)], [], [A0, A1, A2, A3, A4, A5, (modSeg re k f c n kp l tp (le.set j 112) la td kt sh so had gr fi se to (p : Int) t d (m : Int) (x : Int) (j : Int) him ik cu ou st rm)])) rfl ?_
  refine aGo okX8_statement 6 (f' := (65, [some (.inr 192), some (.inl 112)], [.inl (x : Int), .inl (j : Int), .inr 202], _)) rfl ?_
  refine b_ast (k := 202) (j := j) (a := la) okX8_statement rfl rfl (by omega) (by omega) (by omega) ?_
  refine b_cast (f' := (66, [some (.inr 192), some (.inl 112)], [], [A0, A1, A2, A3, A4, A5, (modSeg re k f c n kp l tp (le.set j 112) (la.set j (x : Int)) td kt sh so had gr fi se to (p : Int) t d (m : Int) (x : Int) (j : Int) him ik cu ou st rm)])) rfl ?_
  refine aGo okX8_statement 12 (f' := (84, [some (.inr 192), some (.inl 112)], [.inl (4 * (j : Int)), .inl 112, .inr 192], [A0, A1, A2, A3, A4, A5, (modSeg re k f c n kp l tp (le.set j 112) (la.set j (x : Int)) td kt sh so had gr fi se to (p : Int) t d (m : Int) ((x : Int) + 1) (j : Int) him ik cu ou st rm)])) rfl ?_
  refine b_cast (f' := (84, [some (.inr 192), some (.inl 112)], [.inl (((4 * j) : Nat) : Int), .inl 112, .inr 192], [A0, A1, A2, A3, A4, A5, (modSeg re k f c n kp l tp (le.set j 112) (la.set j (x : Int)) td kt sh so had gr fi se to (p : Int) t d (m : Int) ((x : Int) + 1) (j : Int) him ik cu ou st rm)])) (rfl) ?_
  refine b_vE (as := [.inl 112, .inl (((4 * j) : Nat) : Int)]) (rest := []) (k := 192) okX8_statement rfl lkX8_114 caX8_readsAll (Nat.le_of_ble_eq_true rfl) rfl (Nat.le_of_ble_eq_true rfl) rfl rfl rfl (c_ra_0t htp hm9 rtp htd (x := x) (j := j) hj hx (fun e h1 h2 => hg e h1 (by omega))) ?_
  rintro _ _ ⟨rfl, rfl⟩
  refine b0_eq (tgt := 99) okX8_statement rfl rfl ⟨by omega, by omega⟩ (fun h87 => absurd h87 (by omega)) (fun h87 => ?_)
  refine aGo okX8_statement 1 (f' := (91, [some (.inr 192), some (.inl 112)], [.inr 192], _)) rfl ?_
  refine b_vE (as := []) (rest := []) (k := 192) okX8_statement rfl lkX8_93 caX8_next (Nat.le_of_ble_eq_true rfl) rfl (Nat.le_of_ble_eq_true rfl) rfl rfl rfl (c_next_t htp hm9 (y := (x + 7)) hend.1) ?_
  rintro _ _ ⟨rfl, rfl⟩
  refine aGo okX8_statement 1 (f' := (96, [some (.inr 192), some (.inl 112)], [.inl 59, .inl (tp.getD (x + 7) 0)], _)) rfl ?_
  refine b_eq (tgt := 101) okX8_statement rfl rfl ⟨by omega, by omega⟩ ⟨by omega, by omega⟩ (fun h96 => ?_) (fun h96 => ?_)
  · refine aGo okX8_statement 7 (f' := (112, [some (.inr 192), some (.inl 112)], [.inl 1], [A0, A1, A2, A3, A4, A5, (modSeg re k f c n kp l tp (le.set j 112) (la.set j (x : Int)) ((((td.set (4 * j) (kdF (tp.getD (x + 1) 0))).set (4 * j + 1) (numL tp (x + 2) 1)).set (4 * j + 2) (numL tp (x + 3) 2)).set (4 * j + 3) (numL tp (x + 5) 2)) kt sh so had gr fi se to (p : Int) t d (m : Int) ((((x + 7) : Nat) : Int) + 1) (j : Int) him ik cu ou st rm)])) rfl ?_
    exact b_ret (v := (some (.inl 1))) ⟨rfl, Or.inr ⟨rfl, Or.inr rfl⟩⟩ ⟨rfl, rfl⟩ rfl
  · exfalso; omega
set_option maxRecDepth 100000 in
set_option maxHeartbeats 4000000 in
theorem c_st_0f (htp : tp.length = 96) (hm9 : m ≤ 96) (rtp : rng tp 255) (htd : td.length = 192) (hle : le.length = 48) (hla : la.length = 48) {x j : Nat} (hj : j < 48) (hx : x ≤ 100) (hxm : x < m) (hL : tp.getD x 0 = 112) {i : Nat} (hi1 : 1 ≤ i) (hi2 : i < 8) (hg : ∀ e, 1 ≤ e → e < i → gdA tp m x 0 e) (hb : ¬ gdA tp m x 0 i) : aEv mX8_statement 3 0 0 N [.inr 192] [A0, A1, A2, A3, A4, A5, (modSeg re k f c n kp l tp le la td kt sh so had gr fi se to (p : Int) t d (m : Int) (x : Int) (j : Int) him ik cu ou st rm)] ((fun rv h => rv = some (.inl 0) ∧ ∃ td2 : List Int, td2.length = 192 ∧ h = [A0, A1, A2, A3, A4, A5, (modSeg re k f c n kp l tp (le.set j 112) (la.set j (x : Int)) td2 kt sh so had gr fi se to (p : Int) t d (m : Int) (((x + i) : Nat) : Int) (j : Int) him ik cu ou st rm)])) := by
  have hbe : i = 7 → ¬ (x + 7 < m ∧ tp.getD (x + 7) 0 = 59) := fun z => by subst z; exact gd_noend hb (by decide +kernel)
  have e7 := rtp (x + 7)
  refine aEv_of okX8_statement caX8_statement (Nat.le_of_ble_eq_true rfl) ?_
  refine aGo okX8_statement 1 (f' := (1, [some (.inr 192), none], [.inr 192], _)) rfl ?_
  refine b_vE (as := []) (rest := []) (k := 192) okX8_statement rfl lkX8_93 caX8_next (Nat.le_of_ble_eq_true rfl) rfl (Nat.le_of_ble_eq_true rfl) rfl rfl rfl (c_next_t htp hm9 (y := x) hxm) ?_
  rintro _ _ ⟨rfl, rfl⟩
  refine b_cast (f' := (4, [some (.inr 192), none], [.inl (112)], [A0, A1, A2, A3, A4, A5, (modSeg re k f c n kp l tp le la td kt sh so had gr fi se to (p : Int) t d (m : Int) (x : Int) (j : Int) him ik cu ou st rm)])) (congrArg (fun q : Int => ((4, [some (.inr 192), none], .inl q :: [], [A0, A1, A2, A3, A4, A5, (modSeg re k f c n kp l tp le la td kt sh so had gr fi se to (p : Int) t d (m : Int) (x : Int) (j : Int) him ik cu ou st rm)]) : aF)) (hL)) ?_
  refine aGo okX8_statement 3 (f' := (8, [some (.inr 192), some (.inl 112)], [.inl 112, .inl 112], _)) rfl ?_
  refine b_eq (tgt := 43) okX8_statement rfl rfl ⟨by omega, by omega⟩ ⟨by omega, by omega⟩ (fun h8 => ?_) (fun h8 => absurd h8 (by omega))
  refine aGo okX8_statement 5 (f' := (52, [some (.inr 192), some (.inl 112)], [.inl 112, .inl (j : Int), .inr 201], _)) rfl ?_
  refine b_ast (k := 201) (j := j) (a := le) okX8_statement rfl rfl (by omega) (by omega) (by omega) ?_
  refine b_cast (f' := (53, [some (.inr 192), some (.inl 112)], [], [A0, A1, A2, A3, A4, A5, (modSeg re k f c n kp l tp (le.set j 112) la td kt sh so had gr fi se to (p : Int) t d (m : Int) (x : Int) (j : Int) him ik cu ou st rm)])) rfl ?_
  refine aGo okX8_statement 6 (f' := (65, [some (.inr 192), some (.inl 112)], [.inl (x : Int), .inl (j : Int), .inr 202], _)) rfl ?_
  refine b_ast (k := 202) (j := j) (a := la) okX8_statement rfl rfl (by omega) (by omega) (by omega) ?_
  refine b_cast (f' := (66, [some (.inr 192), some (.inl 112)], [], [A0, A1, A2, A3, A4, A5, (modSeg re k f c n kp l tp (le.set j 112) (la.set j (x : Int)) td kt sh so had gr fi se to (p : Int) t d (m : Int) (x : Int) (j : Int) him ik cu ou st rm)])) rfl ?_
  refine aGo okX8_statement 12 (f' := (84, [some (.inr 192), some (.inl 112)], [.inl (4 * (j : Int)), .inl 112, .inr 192], [A0, A1, A2, A3, A4, A5, (modSeg re k f c n kp l tp (le.set j 112) (la.set j (x : Int)) td kt sh so had gr fi se to (p : Int) t d (m : Int) ((x : Int) + 1) (j : Int) him ik cu ou st rm)])) rfl ?_
  refine b_cast (f' := (84, [some (.inr 192), some (.inl 112)], [.inl (((4 * j) : Nat) : Int), .inl 112, .inr 192], [A0, A1, A2, A3, A4, A5, (modSeg re k f c n kp l tp (le.set j 112) (la.set j (x : Int)) td kt sh so had gr fi se to (p : Int) t d (m : Int) ((x : Int) + 1) (j : Int) him ik cu ou st rm)])) (rfl) ?_
  by_cases hc84 : i = 7
  · refine b_vE (as := [.inl 112, .inl (((4 * j) : Nat) : Int)]) (rest := []) (k := 192) okX8_statement rfl lkX8_114 caX8_readsAll (Nat.le_of_ble_eq_true rfl) rfl (Nat.le_of_ble_eq_true rfl) rfl rfl rfl (c_ra_0t htp hm9 rtp htd (x := x) (j := j) hj hx (fun e h1 h2 => hg e h1 (by omega))) ?_
    rintro _ _ ⟨rfl, rfl⟩
    refine b0_eq (tgt := 99) okX8_statement rfl rfl ⟨by omega, by omega⟩ (fun h87 => absurd h87 (by omega)) (fun h87 => ?_)
    refine aGo okX8_statement 1 (f' := (91, [some (.inr 192), some (.inl 112)], [.inr 192], _)) rfl ?_
    by_cases hc91 : (x + 7) < m
    · refine b_vE (as := []) (rest := []) (k := 192) okX8_statement rfl lkX8_93 caX8_next (Nat.le_of_ble_eq_true rfl) rfl (Nat.le_of_ble_eq_true rfl) rfl rfl rfl (c_next_t htp hm9 (y := (x + 7)) hc91) ?_
      rintro _ _ ⟨rfl, rfl⟩
      refine aGo okX8_statement 1 (f' := (96, [some (.inr 192), some (.inl 112)], [.inl 59, .inl (tp.getD (x + 7) 0)], _)) rfl ?_
      refine b_eq (tgt := 101) okX8_statement rfl rfl ⟨by omega, by omega⟩ ⟨by omega, by omega⟩ (fun h96 => ?_) (fun h96 => ?_)
      · exact absurd ⟨by omega, by omega⟩ (hbe (by omega))
      · refine aGo okX8_statement 1 (f' := (100, [some (.inr 192), some (.inl 112)], [.inl 0], _)) rfl ?_
        obtain rfl : i = 7 := by omega
        exact b_ret (v := (some (.inl 0))) ⟨rfl, Or.inr ⟨rfl, Or.inl rfl⟩⟩ ⟨rfl, _, by simp only [List.length_set]; exact htd, rfl⟩ rfl
    · refine b_vE (as := []) (rest := []) (k := 192) okX8_statement rfl lkX8_93 caX8_next (Nat.le_of_ble_eq_true rfl) rfl (Nat.le_of_ble_eq_true rfl) rfl rfl rfl (c_next_f htp hm9 (y := (x + 7)) (by omega) (by omega)) ?_
      rintro _ _ ⟨rfl, rfl⟩
      refine aGo okX8_statement 1 (f' := (96, [some (.inr 192), some (.inl 112)], [.inl 59, .inl (-1)], _)) rfl ?_
      refine b_eq (tgt := 101) okX8_statement rfl rfl ⟨by omega, by omega⟩ ⟨by omega, by omega⟩ (fun h96 => absurd h96 (by omega)) (fun h96 => ?_)
      refine aGo okX8_statement 1 (f' := (100, [some (.inr 192), some (.inl 112)], [.inl 0], _)) rfl ?_
      obtain rfl : i = 7 := by omega
      exact b_ret (v := (some (.inl 0))) ⟨rfl, Or.inr ⟨rfl, Or.inl rfl⟩⟩ ⟨rfl, _, by simp only [List.length_set]; exact htd, rfl⟩ rfl
  · refine b_vE (as := [.inl 112, .inl (((4 * j) : Nat) : Int)]) (rest := []) (k := 192) okX8_statement rfl lkX8_114 caX8_readsAll (Nat.le_of_ble_eq_true rfl) rfl (Nat.le_of_ble_eq_true rfl) rfl rfl rfl (c_ra_0f htp hm9 rtp htd (x := x) (j := j) hj hx (i := i) (by omega) (by omega) hg hb) ?_
    rintro _ _ ⟨rfl, td2, ltd2, etd2, rfl⟩
    refine b0_eq (tgt := 99) okX8_statement rfl rfl ⟨by omega, by omega⟩ (fun h87 => ?_) (fun h87 => absurd h87 (by omega))
    refine aGo okX8_statement 1 (f' := (100, [some (.inr 192), some (.inl 112)], [.inl 0], _)) rfl ?_
    exact b_ret (v := (some (.inl 0))) ⟨rfl, Or.inr ⟨rfl, Or.inl rfl⟩⟩ ⟨rfl, td2, ltd2, rfl⟩ rfl
set_option maxRecDepth 100000 in
set_option maxHeartbeats 4000000 in
theorem c_st_1t (htp : tp.length = 96) (hm9 : m ≤ 96) (rtp : rng tp 255) (htd : td.length = 192) (hle : le.length = 48) (hla : la.length = 48) {x j : Nat} (hj : j < 48) (hx : x ≤ 100) (hxm : x < m) (hL : tp.getD x 0 = 97) (hg : ∀ e, 1 ≤ e → e < 5 → gdA tp m x 1 e) : aEv mX8_statement 3 0 0 N [.inr 192] [A0, A1, A2, A3, A4, A5, (modSeg re k f c n kp l tp le la td kt sh so had gr fi se to (p : Int) t d (m : Int) (x : Int) (j : Int) him ik cu ou st rm)] ((aQx (some (.inl 1)) [A0, A1, A2, A3, A4, A5, (modSeg re k f c n kp l tp (le.set j 97) (la.set j (x : Int)) ((td.set (4 * j) (numL tp (x + 1) 1)).set (4 * j + 1) (numL tp (x + 2) 2)) kt sh so had gr fi se to (p : Int) t d (m : Int) (((x + 5) : Nat) : Int) (j : Int) him ik cu ou st rm)])) := by
  have hend := gd_end (hg 4 (by decide) (by decide)) (by decide +kernel)
  have e7 := hend.2
  refine aEv_of okX8_statement caX8_statement (Nat.le_of_ble_eq_true rfl) ?_
  refine aGo okX8_statement 1 (f' := (1, [some (.inr 192), none], [.inr 192], _)) rfl ?_
  refine b_vE (as := []) (rest := []) (k := 192) okX8_statement rfl lkX8_93 caX8_next (Nat.le_of_ble_eq_true rfl) rfl (Nat.le_of_ble_eq_true rfl) rfl rfl rfl (c_next_t htp hm9 (y := x) hxm) ?_
  rintro _ _ ⟨rfl, rfl⟩
  refine b_cast (f' := (4, [some (.inr 192), none], [.inl (97)], [A0, A1, A2, A3, A4, A5, (modSeg re k f c n kp l tp le la td kt sh so had gr fi se to (p : Int) t d (m : Int) (x : Int) (j : Int) him ik cu ou st rm)])) (congrArg (fun q : Int => ((4, [some (.inr 192), none], .inl q :: [], [A0, A1, A2, A3, A4, A5, (modSeg re k f c n kp l tp le la td kt sh so had gr fi se to (p : Int) t d (m : Int) (x : Int) (j : Int) him ik cu ou st rm)]) : aF)) (hL)) ?_
  refine aGo okX8_statement 3 (f' := (8, [some (.inr 192), some (.inl 97)], [.inl 112, .inl 97], _)) rfl ?_
  refine b_eq (tgt := 43) okX8_statement rfl rfl ⟨by omega, by omega⟩ ⟨by omega, by omega⟩ (fun h8 => absurd h8 (by omega)) (fun h8 => ?_)
  refine aGo okX8_statement 2 (f' := (14, [some (.inr 192), some (.inl 97)], [.inl 97, .inl 97], _)) rfl ?_
  refine b_eq (tgt := 43) okX8_statement rfl rfl ⟨by omega, by omega⟩ ⟨by omega, by omega⟩ (fun h14 => ?_) (fun h14 => absurd h14 (by omega))
  refine aGo okX8_statement 5 (f' := (52, [some (.inr 192), some (.inl 97)], [.inl 97, .inl (j : Int), .inr 201], _)) rfl ?_
  refine b_ast (k := 201) (j := j) (a := le) okX8_statement rfl rfl (by omega) (by omega) (by omega) ?_
  refine b_cast (f' := (53, [some (.inr 192), some (.inl 97)], [], [A0, A1, A2, A3, A4, A5, (modSeg re k f c n kp l tp (le.set j 97) la td kt sh so had gr fi se to (p : Int) t d (m : Int) (x : Int) (j : Int) him ik cu ou st rm)])) rfl ?_
  refine aGo okX8_statement 6 (f' := (65, [some (.inr 192), some (.inl 97)], [.inl (x : Int), .inl (j : Int), .inr 202], _)) rfl ?_
  refine b_ast (k := 202) (j := j) (a := la) okX8_statement rfl rfl (by omega) (by omega) (by omega) ?_
  refine b_cast (f' := (66, [some (.inr 192), some (.inl 97)], [], [A0, A1, A2, A3, A4, A5, (modSeg re k f c n kp l tp (le.set j 97) (la.set j (x : Int)) td kt sh so had gr fi se to (p : Int) t d (m : Int) (x : Int) (j : Int) him ik cu ou st rm)])) rfl ?_
  refine aGo okX8_statement 12 (f' := (84, [some (.inr 192), some (.inl 97)], [.inl (4 * (j : Int)), .inl 97, .inr 192], [A0, A1, A2, A3, A4, A5, (modSeg re k f c n kp l tp (le.set j 97) (la.set j (x : Int)) td kt sh so had gr fi se to (p : Int) t d (m : Int) ((x : Int) + 1) (j : Int) him ik cu ou st rm)])) rfl ?_
  refine b_cast (f' := (84, [some (.inr 192), some (.inl 97)], [.inl (((4 * j) : Nat) : Int), .inl 97, .inr 192], [A0, A1, A2, A3, A4, A5, (modSeg re k f c n kp l tp (le.set j 97) (la.set j (x : Int)) td kt sh so had gr fi se to (p : Int) t d (m : Int) ((x : Int) + 1) (j : Int) him ik cu ou st rm)])) (rfl) ?_
  refine b_vE (as := [.inl 97, .inl (((4 * j) : Nat) : Int)]) (rest := []) (k := 192) okX8_statement rfl lkX8_114 caX8_readsAll (Nat.le_of_ble_eq_true rfl) rfl (Nat.le_of_ble_eq_true rfl) rfl rfl rfl (c_ra_1t htp hm9 rtp htd (x := x) (j := j) hj hx (fun e h1 h2 => hg e h1 (by omega))) ?_
  rintro _ _ ⟨rfl, rfl⟩
  refine b0_eq (tgt := 99) okX8_statement rfl rfl ⟨by omega, by omega⟩ (fun h87 => absurd h87 (by omega)) (fun h87 => ?_)
  refine aGo okX8_statement 1 (f' := (91, [some (.inr 192), some (.inl 97)], [.inr 192], _)) rfl ?_
  refine b_vE (as := []) (rest := []) (k := 192) okX8_statement rfl lkX8_93 caX8_next (Nat.le_of_ble_eq_true rfl) rfl (Nat.le_of_ble_eq_true rfl) rfl rfl rfl (c_next_t htp hm9 (y := (x + 4)) hend.1) ?_
  rintro _ _ ⟨rfl, rfl⟩
  refine aGo okX8_statement 1 (f' := (96, [some (.inr 192), some (.inl 97)], [.inl 59, .inl (tp.getD (x + 4) 0)], _)) rfl ?_
  refine b_eq (tgt := 101) okX8_statement rfl rfl ⟨by omega, by omega⟩ ⟨by omega, by omega⟩ (fun h96 => ?_) (fun h96 => ?_)
  · refine aGo okX8_statement 7 (f' := (112, [some (.inr 192), some (.inl 97)], [.inl 1], [A0, A1, A2, A3, A4, A5, (modSeg re k f c n kp l tp (le.set j 97) (la.set j (x : Int)) ((td.set (4 * j) (numL tp (x + 1) 1)).set (4 * j + 1) (numL tp (x + 2) 2)) kt sh so had gr fi se to (p : Int) t d (m : Int) ((((x + 4) : Nat) : Int) + 1) (j : Int) him ik cu ou st rm)])) rfl ?_
    exact b_ret (v := (some (.inl 1))) ⟨rfl, Or.inr ⟨rfl, Or.inr rfl⟩⟩ ⟨rfl, rfl⟩ rfl
  · exfalso; omega
set_option maxRecDepth 100000 in
set_option maxHeartbeats 4000000 in
theorem c_st_1f (htp : tp.length = 96) (hm9 : m ≤ 96) (rtp : rng tp 255) (htd : td.length = 192) (hle : le.length = 48) (hla : la.length = 48) {x j : Nat} (hj : j < 48) (hx : x ≤ 100) (hxm : x < m) (hL : tp.getD x 0 = 97) {i : Nat} (hi1 : 1 ≤ i) (hi2 : i < 5) (hg : ∀ e, 1 ≤ e → e < i → gdA tp m x 1 e) (hb : ¬ gdA tp m x 1 i) : aEv mX8_statement 3 0 0 N [.inr 192] [A0, A1, A2, A3, A4, A5, (modSeg re k f c n kp l tp le la td kt sh so had gr fi se to (p : Int) t d (m : Int) (x : Int) (j : Int) him ik cu ou st rm)] ((fun rv h => rv = some (.inl 0) ∧ ∃ td2 : List Int, td2.length = 192 ∧ h = [A0, A1, A2, A3, A4, A5, (modSeg re k f c n kp l tp (le.set j 97) (la.set j (x : Int)) td2 kt sh so had gr fi se to (p : Int) t d (m : Int) (((x + i) : Nat) : Int) (j : Int) him ik cu ou st rm)])) := by
  have hbe : i = 4 → ¬ (x + 4 < m ∧ tp.getD (x + 4) 0 = 59) := fun z => by subst z; exact gd_noend hb (by decide +kernel)
  have e7 := rtp (x + 4)
  refine aEv_of okX8_statement caX8_statement (Nat.le_of_ble_eq_true rfl) ?_
  refine aGo okX8_statement 1 (f' := (1, [some (.inr 192), none], [.inr 192], _)) rfl ?_
  refine b_vE (as := []) (rest := []) (k := 192) okX8_statement rfl lkX8_93 caX8_next (Nat.le_of_ble_eq_true rfl) rfl (Nat.le_of_ble_eq_true rfl) rfl rfl rfl (c_next_t htp hm9 (y := x) hxm) ?_
  rintro _ _ ⟨rfl, rfl⟩
  refine b_cast (f' := (4, [some (.inr 192), none], [.inl (97)], [A0, A1, A2, A3, A4, A5, (modSeg re k f c n kp l tp le la td kt sh so had gr fi se to (p : Int) t d (m : Int) (x : Int) (j : Int) him ik cu ou st rm)])) (congrArg (fun q : Int => ((4, [some (.inr 192), none], .inl q :: [], [A0, A1, A2, A3, A4, A5, (modSeg re k f c n kp l tp le la td kt sh so had gr fi se to (p : Int) t d (m : Int) (x : Int) (j : Int) him ik cu ou st rm)]) : aF)) (hL)) ?_
  refine aGo okX8_statement 3 (f' := (8, [some (.inr 192), some (.inl 97)], [.inl 112, .inl 97], _)) rfl ?_
  refine b_eq (tgt := 43) okX8_statement rfl rfl ⟨by omega, by omega⟩ ⟨by omega, by omega⟩ (fun h8 => absurd h8 (by omega)) (fun h8 => ?_)
  refine aGo okX8_statement 2 (f' := (14, [some (.inr 192), some (.inl 97)], [.inl 97, .inl 97], _)) rfl ?_
  refine b_eq (tgt := 43) okX8_statement rfl rfl ⟨by omega, by omega⟩ ⟨by omega, by omega⟩ (fun h14 => ?_) (fun h14 => absurd h14 (by omega))
  refine aGo okX8_statement 5 (f' := (52, [some (.inr 192), some (.inl 97)], [.inl 97, .inl (j : Int), .inr 201], _)) rfl ?_
  refine b_ast (k := 201) (j := j) (a := le) okX8_statement rfl rfl (by omega) (by omega) (by omega) ?_
  refine b_cast (f' := (53, [some (.inr 192), some (.inl 97)], [], [A0, A1, A2, A3, A4, A5, (modSeg re k f c n kp l tp (le.set j 97) la td kt sh so had gr fi se to (p : Int) t d (m : Int) (x : Int) (j : Int) him ik cu ou st rm)])) rfl ?_
  refine aGo okX8_statement 6 (f' := (65, [some (.inr 192), some (.inl 97)], [.inl (x : Int), .inl (j : Int), .inr 202], _)) rfl ?_
  refine b_ast (k := 202) (j := j) (a := la) okX8_statement rfl rfl (by omega) (by omega) (by omega) ?_
  refine b_cast (f' := (66, [some (.inr 192), some (.inl 97)], [], [A0, A1, A2, A3, A4, A5, (modSeg re k f c n kp l tp (le.set j 97) (la.set j (x : Int)) td kt sh so had gr fi se to (p : Int) t d (m : Int) (x : Int) (j : Int) him ik cu ou st rm)])) rfl ?_
  refine aGo okX8_statement 12 (f' := (84, [some (.inr 192), some (.inl 97)], [.inl (4 * (j : Int)), .inl 97, .inr 192], [A0, A1, A2, A3, A4, A5, (modSeg re k f c n kp l tp (le.set j 97) (la.set j (x : Int)) td kt sh so had gr fi se to (p : Int) t d (m : Int) ((x : Int) + 1) (j : Int) him ik cu ou st rm)])) rfl ?_
  refine b_cast (f' := (84, [some (.inr 192), some (.inl 97)], [.inl (((4 * j) : Nat) : Int), .inl 97, .inr 192], [A0, A1, A2, A3, A4, A5, (modSeg re k f c n kp l tp (le.set j 97) (la.set j (x : Int)) td kt sh so had gr fi se to (p : Int) t d (m : Int) ((x : Int) + 1) (j : Int) him ik cu ou st rm)])) (rfl) ?_
  by_cases hc84 : i = 4
  · refine b_vE (as := [.inl 97, .inl (((4 * j) : Nat) : Int)]) (rest := []) (k := 192) okX8_statement rfl lkX8_114 caX8_readsAll (Nat.le_of_ble_eq_true rfl) rfl (Nat.le_of_ble_eq_true rfl) rfl rfl rfl (c_ra_1t htp hm9 rtp htd (x := x) (j := j) hj hx (fun e h1 h2 => hg e h1 (by omega))) ?_
    rintro _ _ ⟨rfl, rfl⟩
    refine b0_eq (tgt := 99) okX8_statement rfl rfl ⟨by omega, by omega⟩ (fun h87 => absurd h87 (by omega)) (fun h87 => ?_)
    refine aGo okX8_statement 1 (f' := (91, [some (.inr 192), some (.inl 97)], [.inr 192], _)) rfl ?_
    by_cases hc91 : (x + 4) < m
    · refine b_vE (as := []) (rest := []) (k := 192) okX8_statement rfl lkX8_93 caX8_next (Nat.le_of_ble_eq_true rfl) rfl (Nat.le_of_ble_eq_true rfl) rfl rfl rfl (c_next_t htp hm9 (y := (x + 4)) hc91) ?_
      rintro _ _ ⟨rfl, rfl⟩
      refine aGo okX8_statement 1 (f' := (96, [some (.inr 192), some (.inl 97)], [.inl 59, .inl (tp.getD (x + 4) 0)], _)) rfl ?_
      refine b_eq (tgt := 101) okX8_statement rfl rfl ⟨by omega, by omega⟩ ⟨by omega, by omega⟩ (fun h96 => ?_) (fun h96 => ?_)
      · exact absurd ⟨by omega, by omega⟩ (hbe (by omega))
      · refine aGo okX8_statement 1 (f' := (100, [some (.inr 192), some (.inl 97)], [.inl 0], _)) rfl ?_
        obtain rfl : i = 4 := by omega
        exact b_ret (v := (some (.inl 0))) ⟨rfl, Or.inr ⟨rfl, Or.inl rfl⟩⟩ ⟨rfl, _, by simp only [List.length_set]; exact htd, rfl⟩ rfl
    · refine b_vE (as := []) (rest := []) (k := 192) okX8_statement rfl lkX8_93 caX8_next (Nat.le_of_ble_eq_true rfl) rfl (Nat.le_of_ble_eq_true rfl) rfl rfl rfl (c_next_f htp hm9 (y := (x + 4)) (by omega) (by omega)) ?_
      rintro _ _ ⟨rfl, rfl⟩
      refine aGo okX8_statement 1 (f' := (96, [some (.inr 192), some (.inl 97)], [.inl 59, .inl (-1)], _)) rfl ?_
      refine b_eq (tgt := 101) okX8_statement rfl rfl ⟨by omega, by omega⟩ ⟨by omega, by omega⟩ (fun h96 => absurd h96 (by omega)) (fun h96 => ?_)
      refine aGo okX8_statement 1 (f' := (100, [some (.inr 192), some (.inl 97)], [.inl 0], _)) rfl ?_
      obtain rfl : i = 4 := by omega
      exact b_ret (v := (some (.inl 0))) ⟨rfl, Or.inr ⟨rfl, Or.inl rfl⟩⟩ ⟨rfl, _, by simp only [List.length_set]; exact htd, rfl⟩ rfl
  · refine b_vE (as := [.inl 97, .inl (((4 * j) : Nat) : Int)]) (rest := []) (k := 192) okX8_statement rfl lkX8_114 caX8_readsAll (Nat.le_of_ble_eq_true rfl) rfl (Nat.le_of_ble_eq_true rfl) rfl rfl rfl (c_ra_1f htp hm9 rtp htd (x := x) (j := j) hj hx (i := i) (by omega) (by omega) hg hb) ?_
    rintro _ _ ⟨rfl, td2, ltd2, etd2, rfl⟩
    refine b0_eq (tgt := 99) okX8_statement rfl rfl ⟨by omega, by omega⟩ (fun h87 => ?_) (fun h87 => absurd h87 (by omega))
    refine aGo okX8_statement 1 (f' := (100, [some (.inr 192), some (.inl 97)], [.inl 0], _)) rfl ?_
    exact b_ret (v := (some (.inl 0))) ⟨rfl, Or.inr ⟨rfl, Or.inl rfl⟩⟩ ⟨rfl, td2, ltd2, rfl⟩ rfl
set_option maxRecDepth 100000 in
set_option maxHeartbeats 4000000 in
theorem c_st_2t (htp : tp.length = 96) (hm9 : m ≤ 96) (rtp : rng tp 255) (htd : td.length = 192) (hle : le.length = 48) (hla : la.length = 48) {x j : Nat} (hj : j < 48) (hx : x ≤ 100) (hxm : x < m) (hL : tp.getD x 0 = 108) (hg : ∀ e, 1 ≤ e → e < 6 → gdA tp m x 2 e) : aEv mX8_statement 3 0 0 N [.inr 192] [A0, A1, A2, A3, A4, A5, (modSeg re k f c n kp l tp le la td kt sh so had gr fi se to (p : Int) t d (m : Int) (x : Int) (j : Int) him ik cu ou st rm)] ((aQx (some (.inl 1)) [A0, A1, A2, A3, A4, A5, (modSeg re k f c n kp l tp (le.set j 108) (la.set j (x : Int)) (((td.set (4 * j) (numL tp (x + 1) 1)).set (4 * j + 1) (numL tp (x + 2) 1)).set (4 * j + 2) (numL tp (x + 3) 2)) kt sh so had gr fi se to (p : Int) t d (m : Int) (((x + 6) : Nat) : Int) (j : Int) him ik cu ou st rm)])) := by
  have hend := gd_end (hg 5 (by decide) (by decide)) (by decide +kernel)
  have e7 := hend.2
  refine aEv_of okX8_statement caX8_statement (Nat.le_of_ble_eq_true rfl) ?_
  refine aGo okX8_statement 1 (f' := (1, [some (.inr 192), none], [.inr 192], _)) rfl ?_
  refine b_vE (as := []) (rest := []) (k := 192) okX8_statement rfl lkX8_93 caX8_next (Nat.le_of_ble_eq_true rfl) rfl (Nat.le_of_ble_eq_true rfl) rfl rfl rfl (c_next_t htp hm9 (y := x) hxm) ?_
  rintro _ _ ⟨rfl, rfl⟩
  refine b_cast (f' := (4, [some (.inr 192), none], [.inl (108)], [A0, A1, A2, A3, A4, A5, (modSeg re k f c n kp l tp le la td kt sh so had gr fi se to (p : Int) t d (m : Int) (x : Int) (j : Int) him ik cu ou st rm)])) (congrArg (fun q : Int => ((4, [some (.inr 192), none], .inl q :: [], [A0, A1, A2, A3, A4, A5, (modSeg re k f c n kp l tp le la td kt sh so had gr fi se to (p : Int) t d (m : Int) (x : Int) (j : Int) him ik cu ou st rm)]) : aF)) (hL)) ?_
  refine aGo okX8_statement 3 (f' := (8, [some (.inr 192), some (.inl 108)], [.inl 112, .inl 108], _)) rfl ?_
  refine b_eq (tgt := 43) okX8_statement rfl rfl ⟨by omega, by omega⟩ ⟨by omega, by omega⟩ (fun h8 => absurd h8 (by omega)) (fun h8 => ?_)
  refine aGo okX8_statement 2 (f' := (14, [some (.inr 192), some (.inl 108)], [.inl 97, .inl 108], _)) rfl ?_
  refine b_eq (tgt := 43) okX8_statement rfl rfl ⟨by omega, by omega⟩ ⟨by omega, by omega⟩ (fun h14 => absurd h14 (by omega)) (fun h14 => ?_)
  refine aGo okX8_statement 2 (f' := (20, [some (.inr 192), some (.inl 108)], [.inl 108, .inl 108], _)) rfl ?_
  refine b_eq (tgt := 43) okX8_statement rfl rfl ⟨by omega, by omega⟩ ⟨by omega, by omega⟩ (fun h20 => ?_) (fun h20 => absurd h20 (by omega))
  refine aGo okX8_statement 5 (f' := (52, [some (.inr 192), some (.inl 108)], [.inl 108, .inl (j : Int), .inr 201], _)) rfl ?_
  refine b_ast (k := 201) (j := j) (a := le) okX8_statement rfl rfl (by omega) (by omega) (by omega) ?_
  refine b_cast (f' := (53, [some (.inr 192), some (.inl 108)], [], [A0, A1, A2, A3, A4, A5, (modSeg re k f c n kp l tp (le.set j 108) la td kt sh so had gr fi se to (p : Int) t d (m : Int) (x : Int) (j : Int) him ik cu ou st rm)])) rfl ?_
  refine aGo okX8_statement 6 (f' := (65, [some (.inr 192), some (.inl 108)], [.inl (x : Int), .inl (j : Int), .inr 202], _)) rfl ?_
  refine b_ast (k := 202) (j := j) (a := la) okX8_statement rfl rfl (by omega) (by omega) (by omega) ?_
  refine b_cast (f' := (66, [some (.inr 192), some (.inl 108)], [], [A0, A1, A2, A3, A4, A5, (modSeg re k f c n kp l tp (le.set j 108) (la.set j (x : Int)) td kt sh so had gr fi se to (p : Int) t d (m : Int) (x : Int) (j : Int) him ik cu ou st rm)])) rfl ?_
  refine aGo okX8_statement 12 (f' := (84, [some (.inr 192), some (.inl 108)], [.inl (4 * (j : Int)), .inl 108, .inr 192], [A0, A1, A2, A3, A4, A5, (modSeg re k f c n kp l tp (le.set j 108) (la.set j (x : Int)) td kt sh so had gr fi se to (p : Int) t d (m : Int) ((x : Int) + 1) (j : Int) him ik cu ou st rm)])) rfl ?_
  refine b_cast (f' := (84, [some (.inr 192), some (.inl 108)], [.inl (((4 * j) : Nat) : Int), .inl 108, .inr 192], [A0, A1, A2, A3, A4, A5, (modSeg re k f c n kp l tp (le.set j 108) (la.set j (x : Int)) td kt sh so had gr fi se to (p : Int) t d (m : Int) ((x : Int) + 1) (j : Int) him ik cu ou st rm)])) (rfl) ?_
  refine b_vE (as := [.inl 108, .inl (((4 * j) : Nat) : Int)]) (rest := []) (k := 192) okX8_statement rfl lkX8_114 caX8_readsAll (Nat.le_of_ble_eq_true rfl) rfl (Nat.le_of_ble_eq_true rfl) rfl rfl rfl (c_ra_2t htp hm9 rtp htd (x := x) (j := j) hj hx (fun e h1 h2 => hg e h1 (by omega))) ?_
  rintro _ _ ⟨rfl, rfl⟩
  refine b0_eq (tgt := 99) okX8_statement rfl rfl ⟨by omega, by omega⟩ (fun h87 => absurd h87 (by omega)) (fun h87 => ?_)
  refine aGo okX8_statement 1 (f' := (91, [some (.inr 192), some (.inl 108)], [.inr 192], _)) rfl ?_
  refine b_vE (as := []) (rest := []) (k := 192) okX8_statement rfl lkX8_93 caX8_next (Nat.le_of_ble_eq_true rfl) rfl (Nat.le_of_ble_eq_true rfl) rfl rfl rfl (c_next_t htp hm9 (y := (x + 5)) hend.1) ?_
  rintro _ _ ⟨rfl, rfl⟩
  refine aGo okX8_statement 1 (f' := (96, [some (.inr 192), some (.inl 108)], [.inl 59, .inl (tp.getD (x + 5) 0)], _)) rfl ?_
  refine b_eq (tgt := 101) okX8_statement rfl rfl ⟨by omega, by omega⟩ ⟨by omega, by omega⟩ (fun h96 => ?_) (fun h96 => ?_)
  · refine aGo okX8_statement 7 (f' := (112, [some (.inr 192), some (.inl 108)], [.inl 1], [A0, A1, A2, A3, A4, A5, (modSeg re k f c n kp l tp (le.set j 108) (la.set j (x : Int)) (((td.set (4 * j) (numL tp (x + 1) 1)).set (4 * j + 1) (numL tp (x + 2) 1)).set (4 * j + 2) (numL tp (x + 3) 2)) kt sh so had gr fi se to (p : Int) t d (m : Int) ((((x + 5) : Nat) : Int) + 1) (j : Int) him ik cu ou st rm)])) rfl ?_
    exact b_ret (v := (some (.inl 1))) ⟨rfl, Or.inr ⟨rfl, Or.inr rfl⟩⟩ ⟨rfl, rfl⟩ rfl
  · exfalso; omega
set_option maxRecDepth 100000 in
set_option maxHeartbeats 4000000 in
theorem c_st_2f (htp : tp.length = 96) (hm9 : m ≤ 96) (rtp : rng tp 255) (htd : td.length = 192) (hle : le.length = 48) (hla : la.length = 48) {x j : Nat} (hj : j < 48) (hx : x ≤ 100) (hxm : x < m) (hL : tp.getD x 0 = 108) {i : Nat} (hi1 : 1 ≤ i) (hi2 : i < 6) (hg : ∀ e, 1 ≤ e → e < i → gdA tp m x 2 e) (hb : ¬ gdA tp m x 2 i) : aEv mX8_statement 3 0 0 N [.inr 192] [A0, A1, A2, A3, A4, A5, (modSeg re k f c n kp l tp le la td kt sh so had gr fi se to (p : Int) t d (m : Int) (x : Int) (j : Int) him ik cu ou st rm)] ((fun rv h => rv = some (.inl 0) ∧ ∃ td2 : List Int, td2.length = 192 ∧ h = [A0, A1, A2, A3, A4, A5, (modSeg re k f c n kp l tp (le.set j 108) (la.set j (x : Int)) td2 kt sh so had gr fi se to (p : Int) t d (m : Int) (((x + i) : Nat) : Int) (j : Int) him ik cu ou st rm)])) := by
  have hbe : i = 5 → ¬ (x + 5 < m ∧ tp.getD (x + 5) 0 = 59) := fun z => by subst z; exact gd_noend hb (by decide +kernel)
  have e7 := rtp (x + 5)
  refine aEv_of okX8_statement caX8_statement (Nat.le_of_ble_eq_true rfl) ?_
  refine aGo okX8_statement 1 (f' := (1, [some (.inr 192), none], [.inr 192], _)) rfl ?_
  refine b_vE (as := []) (rest := []) (k := 192) okX8_statement rfl lkX8_93 caX8_next (Nat.le_of_ble_eq_true rfl) rfl (Nat.le_of_ble_eq_true rfl) rfl rfl rfl (c_next_t htp hm9 (y := x) hxm) ?_
  rintro _ _ ⟨rfl, rfl⟩
  refine b_cast (f' := (4, [some (.inr 192), none], [.inl (108)], [A0, A1, A2, A3, A4, A5, (modSeg re k f c n kp l tp le la td kt sh so had gr fi se to (p : Int) t d (m : Int) (x : Int) (j : Int) him ik cu ou st rm)])) (congrArg (fun q : Int => ((4, [some (.inr 192), none], .inl q :: [], [A0, A1, A2, A3, A4, A5, (modSeg re k f c n kp l tp le la td kt sh so had gr fi se to (p : Int) t d (m : Int) (x : Int) (j : Int) him ik cu ou st rm)]) : aF)) (hL)) ?_
  refine aGo okX8_statement 3 (f' := (8, [some (.inr 192), some (.inl 108)], [.inl 112, .inl 108], _)) rfl ?_
  refine b_eq (tgt := 43) okX8_statement rfl rfl ⟨by omega, by omega⟩ ⟨by omega, by omega⟩ (fun h8 => absurd h8 (by omega)) (fun h8 => ?_)
  refine aGo okX8_statement 2 (f' := (14, [some (.inr 192), some (.inl 108)], [.inl 97, .inl 108], _)) rfl ?_
  refine b_eq (tgt := 43) okX8_statement rfl rfl ⟨by omega, by omega⟩ ⟨by omega, by omega⟩ (fun h14 => absurd h14 (by omega)) (fun h14 => ?_)
  refine aGo okX8_statement 2 (f' := (20, [some (.inr 192), some (.inl 108)], [.inl 108, .inl 108], _)) rfl ?_
  refine b_eq (tgt := 43) okX8_statement rfl rfl ⟨by omega, by omega⟩ ⟨by omega, by omega⟩ (fun h20 => ?_) (fun h20 => absurd h20 (by omega))
  refine aGo okX8_statement 5 (f' := (52, [some (.inr 192), some (.inl 108)], [.inl 108, .inl (j : Int), .inr 201], _)) rfl ?_
  refine b_ast (k := 201) (j := j) (a := le) okX8_statement rfl rfl (by omega) (by omega) (by omega) ?_
  refine b_cast (f' := (53, [some (.inr 192), some (.inl 108)], [], [A0, A1, A2, A3, A4, A5, (modSeg re k f c n kp l tp (le.set j 108) la td kt sh so had gr fi se to (p : Int) t d (m : Int) (x : Int) (j : Int) him ik cu ou st rm)])) rfl ?_
  refine aGo okX8_statement 6 (f' := (65, [some (.inr 192), some (.inl 108)], [.inl (x : Int), .inl (j : Int), .inr 202], _)) rfl ?_
  refine b_ast (k := 202) (j := j) (a := la) okX8_statement rfl rfl (by omega) (by omega) (by omega) ?_
  refine b_cast (f' := (66, [some (.inr 192), some (.inl 108)], [], [A0, A1, A2, A3, A4, A5, (modSeg re k f c n kp l tp (le.set j 108) (la.set j (x : Int)) td kt sh so had gr fi se to (p : Int) t d (m : Int) (x : Int) (j : Int) him ik cu ou st rm)])) rfl ?_
  refine aGo okX8_statement 12 (f' := (84, [some (.inr 192), some (.inl 108)], [.inl (4 * (j : Int)), .inl 108, .inr 192], [A0, A1, A2, A3, A4, A5, (modSeg re k f c n kp l tp (le.set j 108) (la.set j (x : Int)) td kt sh so had gr fi se to (p : Int) t d (m : Int) ((x : Int) + 1) (j : Int) him ik cu ou st rm)])) rfl ?_
  refine b_cast (f' := (84, [some (.inr 192), some (.inl 108)], [.inl (((4 * j) : Nat) : Int), .inl 108, .inr 192], [A0, A1, A2, A3, A4, A5, (modSeg re k f c n kp l tp (le.set j 108) (la.set j (x : Int)) td kt sh so had gr fi se to (p : Int) t d (m : Int) ((x : Int) + 1) (j : Int) him ik cu ou st rm)])) (rfl) ?_
  by_cases hc84 : i = 5
  · refine b_vE (as := [.inl 108, .inl (((4 * j) : Nat) : Int)]) (rest := []) (k := 192) okX8_statement rfl lkX8_114 caX8_readsAll (Nat.le_of_ble_eq_true rfl) rfl (Nat.le_of_ble_eq_true rfl) rfl rfl rfl (c_ra_2t htp hm9 rtp htd (x := x) (j := j) hj hx (fun e h1 h2 => hg e h1 (by omega))) ?_
    rintro _ _ ⟨rfl, rfl⟩
    refine b0_eq (tgt := 99) okX8_statement rfl rfl ⟨by omega, by omega⟩ (fun h87 => absurd h87 (by omega)) (fun h87 => ?_)
    refine aGo okX8_statement 1 (f' := (91, [some (.inr 192), some (.inl 108)], [.inr 192], _)) rfl ?_
    by_cases hc91 : (x + 5) < m
    · refine b_vE (as := []) (rest := []) (k := 192) okX8_statement rfl lkX8_93 caX8_next (Nat.le_of_ble_eq_true rfl) rfl (Nat.le_of_ble_eq_true rfl) rfl rfl rfl (c_next_t htp hm9 (y := (x + 5)) hc91) ?_
      rintro _ _ ⟨rfl, rfl⟩
      refine aGo okX8_statement 1 (f' := (96, [some (.inr 192), some (.inl 108)], [.inl 59, .inl (tp.getD (x + 5) 0)], _)) rfl ?_
      refine b_eq (tgt := 101) okX8_statement rfl rfl ⟨by omega, by omega⟩ ⟨by omega, by omega⟩ (fun h96 => ?_) (fun h96 => ?_)
      · exact absurd ⟨by omega, by omega⟩ (hbe (by omega))
      · refine aGo okX8_statement 1 (f' := (100, [some (.inr 192), some (.inl 108)], [.inl 0], _)) rfl ?_
        obtain rfl : i = 5 := by omega
        exact b_ret (v := (some (.inl 0))) ⟨rfl, Or.inr ⟨rfl, Or.inl rfl⟩⟩ ⟨rfl, _, by simp only [List.length_set]; exact htd, rfl⟩ rfl
    · refine b_vE (as := []) (rest := []) (k := 192) okX8_statement rfl lkX8_93 caX8_next (Nat.le_of_ble_eq_true rfl) rfl (Nat.le_of_ble_eq_true rfl) rfl rfl rfl (c_next_f htp hm9 (y := (x + 5)) (by omega) (by omega)) ?_
      rintro _ _ ⟨rfl, rfl⟩
      refine aGo okX8_statement 1 (f' := (96, [some (.inr 192), some (.inl 108)], [.inl 59, .inl (-1)], _)) rfl ?_
      refine b_eq (tgt := 101) okX8_statement rfl rfl ⟨by omega, by omega⟩ ⟨by omega, by omega⟩ (fun h96 => absurd h96 (by omega)) (fun h96 => ?_)
      refine aGo okX8_statement 1 (f' := (100, [some (.inr 192), some (.inl 108)], [.inl 0], _)) rfl ?_
      obtain rfl : i = 5 := by omega
      exact b_ret (v := (some (.inl 0))) ⟨rfl, Or.inr ⟨rfl, Or.inl rfl⟩⟩ ⟨rfl, _, by simp only [List.length_set]; exact htd, rfl⟩ rfl
  · refine b_vE (as := [.inl 108, .inl (((4 * j) : Nat) : Int)]) (rest := []) (k := 192) okX8_statement rfl lkX8_114 caX8_readsAll (Nat.le_of_ble_eq_true rfl) rfl (Nat.le_of_ble_eq_true rfl) rfl rfl rfl (c_ra_2f htp hm9 rtp htd (x := x) (j := j) hj hx (i := i) (by omega) (by omega) hg hb) ?_
    rintro _ _ ⟨rfl, td2, ltd2, etd2, rfl⟩
    refine b0_eq (tgt := 99) okX8_statement rfl rfl ⟨by omega, by omega⟩ (fun h87 => ?_) (fun h87 => absurd h87 (by omega))
    refine aGo okX8_statement 1 (f' := (100, [some (.inr 192), some (.inl 108)], [.inl 0], _)) rfl ?_
    exact b_ret (v := (some (.inl 0))) ⟨rfl, Or.inr ⟨rfl, Or.inl rfl⟩⟩ ⟨rfl, td2, ltd2, rfl⟩ rfl
set_option maxRecDepth 100000 in
set_option maxHeartbeats 4000000 in
theorem c_st_3t (htp : tp.length = 96) (hm9 : m ≤ 96) (rtp : rng tp 255) (htd : td.length = 192) (hle : le.length = 48) (hla : la.length = 48) {x j : Nat} (hj : j < 48) (hx : x ≤ 100) (hxm : x < m) (hL : tp.getD x 0 = 107) (hg : ∀ e, 1 ≤ e → e < 7 → gdA tp m x 3 e) : aEv mX8_statement 3 0 0 N [.inr 192] [A0, A1, A2, A3, A4, A5, (modSeg re k f c n kp l tp le la td kt sh so had gr fi se to (p : Int) t d (m : Int) (x : Int) (j : Int) him ik cu ou st rm)] ((aQx (some (.inl 1)) [A0, A1, A2, A3, A4, A5, (modSeg re k f c n kp l tp (le.set j 107) (la.set j (x : Int)) ((td.set (4 * j) (numL tp (x + 1) 1)).set (4 * j + 1) (numL tp (x + 2) 4)) kt sh so had gr fi se to (p : Int) t d (m : Int) (((x + 7) : Nat) : Int) (j : Int) him ik cu ou st rm)])) := by
  have hend := gd_end (hg 6 (by decide) (by decide)) (by decide +kernel)
  have e7 := hend.2
  refine aEv_of okX8_statement caX8_statement (Nat.le_of_ble_eq_true rfl) ?_
  refine aGo okX8_statement 1 (f' := (1, [some (.inr 192), none], [.inr 192], _)) rfl ?_
  refine b_vE (as := []) (rest := []) (k := 192) okX8_statement rfl lkX8_93 caX8_next (Nat.le_of_ble_eq_true rfl) rfl (Nat.le_of_ble_eq_true rfl) rfl rfl rfl (c_next_t htp hm9 (y := x) hxm) ?_
  rintro _ _ ⟨rfl, rfl⟩
  refine b_cast (f' := (4, [some (.inr 192), none], [.inl (107)], [A0, A1, A2, A3, A4, A5, (modSeg re k f c n kp l tp le la td kt sh so had gr fi se to (p : Int) t d (m : Int) (x : Int) (j : Int) him ik cu ou st rm)])) (congrArg (fun q : Int => ((4, [some (.inr 192), none], .inl q :: [], [A0, A1, A2, A3, A4, A5, (modSeg re k f c n kp l tp le la td kt sh so had gr fi se to (p : Int) t d (m : Int) (x : Int) (j : Int) him ik cu ou st rm)]) : aF)) (hL)) ?_
  refine aGo okX8_statement 3 (f' := (8, [some (.inr 192), some (.inl 107)], [.inl 112, .inl 107], _)) rfl ?_
  refine b_eq (tgt := 43) okX8_statement rfl rfl ⟨by omega, by omega⟩ ⟨by omega, by omega⟩ (fun h8 => absurd h8 (by omega)) (fun h8 => ?_)
  refine aGo okX8_statement 2 (f' := (14, [some (.inr 192), some (.inl 107)], [.inl 97, .inl 107], _)) rfl ?_
  refine b_eq (tgt := 43) okX8_statement rfl rfl ⟨by omega, by omega⟩ ⟨by omega, by omega⟩ (fun h14 => absurd h14 (by omega)) (fun h14 => ?_)
  refine aGo okX8_statement 2 (f' := (20, [some (.inr 192), some (.inl 107)], [.inl 108, .inl 107], _)) rfl ?_
  refine b_eq (tgt := 43) okX8_statement rfl rfl ⟨by omega, by omega⟩ ⟨by omega, by omega⟩ (fun h20 => absurd h20 (by omega)) (fun h20 => ?_)
  refine aGo okX8_statement 2 (f' := (26, [some (.inr 192), some (.inl 107)], [.inl 107, .inl 107], _)) rfl ?_
  refine b_eq (tgt := 43) okX8_statement rfl rfl ⟨by omega, by omega⟩ ⟨by omega, by omega⟩ (fun h26 => ?_) (fun h26 => absurd h26 (by omega))
  refine aGo okX8_statement 5 (f' := (52, [some (.inr 192), some (.inl 107)], [.inl 107, .inl (j : Int), .inr 201], _)) rfl ?_
  refine b_ast (k := 201) (j := j) (a := le) okX8_statement rfl rfl (by omega) (by omega) (by omega) ?_
  refine b_cast (f' := (53, [some (.inr 192), some (.inl 107)], [], [A0, A1, A2, A3, A4, A5, (modSeg re k f c n kp l tp (le.set j 107) la td kt sh so had gr fi se to (p : Int) t d (m : Int) (x : Int) (j : Int) him ik cu ou st rm)])) rfl ?_
  refine aGo okX8_statement 6 (f' := (65, [some (.inr 192), some (.inl 107)], [.inl (x : Int), .inl (j : Int), .inr 202], _)) rfl ?_
  refine b_ast (k := 202) (j := j) (a := la) okX8_statement rfl rfl (by omega) (by omega) (by omega) ?_
  refine b_cast (f' := (66, [some (.inr 192), some (.inl 107)], [], [A0, A1, A2, A3, A4, A5, (modSeg re k f c n kp l tp (le.set j 107) (la.set j (x : Int)) td kt sh so had gr fi se to (p : Int) t d (m : Int) (x : Int) (j : Int) him ik cu ou st rm)])) rfl ?_
  refine aGo okX8_statement 12 (f' := (84, [some (.inr 192), some (.inl 107)], [.inl (4 * (j : Int)), .inl 107, .inr 192], [A0, A1, A2, A3, A4, A5, (modSeg re k f c n kp l tp (le.set j 107) (la.set j (x : Int)) td kt sh so had gr fi se to (p : Int) t d (m : Int) ((x : Int) + 1) (j : Int) him ik cu ou st rm)])) rfl ?_
  refine b_cast (f' := (84, [some (.inr 192), some (.inl 107)], [.inl (((4 * j) : Nat) : Int), .inl 107, .inr 192], [A0, A1, A2, A3, A4, A5, (modSeg re k f c n kp l tp (le.set j 107) (la.set j (x : Int)) td kt sh so had gr fi se to (p : Int) t d (m : Int) ((x : Int) + 1) (j : Int) him ik cu ou st rm)])) (rfl) ?_
  refine b_vE (as := [.inl 107, .inl (((4 * j) : Nat) : Int)]) (rest := []) (k := 192) okX8_statement rfl lkX8_114 caX8_readsAll (Nat.le_of_ble_eq_true rfl) rfl (Nat.le_of_ble_eq_true rfl) rfl rfl rfl (c_ra_3t htp hm9 rtp htd (x := x) (j := j) hj hx (fun e h1 h2 => hg e h1 (by omega))) ?_
  rintro _ _ ⟨rfl, rfl⟩
  refine b0_eq (tgt := 99) okX8_statement rfl rfl ⟨by omega, by omega⟩ (fun h87 => absurd h87 (by omega)) (fun h87 => ?_)
  refine aGo okX8_statement 1 (f' := (91, [some (.inr 192), some (.inl 107)], [.inr 192], _)) rfl ?_
  refine b_vE (as := []) (rest := []) (k := 192) okX8_statement rfl lkX8_93 caX8_next (Nat.le_of_ble_eq_true rfl) rfl (Nat.le_of_ble_eq_true rfl) rfl rfl rfl (c_next_t htp hm9 (y := (x + 6)) hend.1) ?_
  rintro _ _ ⟨rfl, rfl⟩
  refine aGo okX8_statement 1 (f' := (96, [some (.inr 192), some (.inl 107)], [.inl 59, .inl (tp.getD (x + 6) 0)], _)) rfl ?_
  refine b_eq (tgt := 101) okX8_statement rfl rfl ⟨by omega, by omega⟩ ⟨by omega, by omega⟩ (fun h96 => ?_) (fun h96 => ?_)
  · refine aGo okX8_statement 7 (f' := (112, [some (.inr 192), some (.inl 107)], [.inl 1], [A0, A1, A2, A3, A4, A5, (modSeg re k f c n kp l tp (le.set j 107) (la.set j (x : Int)) ((td.set (4 * j) (numL tp (x + 1) 1)).set (4 * j + 1) (numL tp (x + 2) 4)) kt sh so had gr fi se to (p : Int) t d (m : Int) ((((x + 6) : Nat) : Int) + 1) (j : Int) him ik cu ou st rm)])) rfl ?_
    exact b_ret (v := (some (.inl 1))) ⟨rfl, Or.inr ⟨rfl, Or.inr rfl⟩⟩ ⟨rfl, rfl⟩ rfl
  · exfalso; omega
set_option maxRecDepth 100000 in
set_option maxHeartbeats 4000000 in
theorem c_st_3f (htp : tp.length = 96) (hm9 : m ≤ 96) (rtp : rng tp 255) (htd : td.length = 192) (hle : le.length = 48) (hla : la.length = 48) {x j : Nat} (hj : j < 48) (hx : x ≤ 100) (hxm : x < m) (hL : tp.getD x 0 = 107) {i : Nat} (hi1 : 1 ≤ i) (hi2 : i < 7) (hg : ∀ e, 1 ≤ e → e < i → gdA tp m x 3 e) (hb : ¬ gdA tp m x 3 i) : aEv mX8_statement 3 0 0 N [.inr 192] [A0, A1, A2, A3, A4, A5, (modSeg re k f c n kp l tp le la td kt sh so had gr fi se to (p : Int) t d (m : Int) (x : Int) (j : Int) him ik cu ou st rm)] ((fun rv h => rv = some (.inl 0) ∧ ∃ td2 : List Int, td2.length = 192 ∧ h = [A0, A1, A2, A3, A4, A5, (modSeg re k f c n kp l tp (le.set j 107) (la.set j (x : Int)) td2 kt sh so had gr fi se to (p : Int) t d (m : Int) (((x + i) : Nat) : Int) (j : Int) him ik cu ou st rm)])) := by
  have hbe : i = 6 → ¬ (x + 6 < m ∧ tp.getD (x + 6) 0 = 59) := fun z => by subst z; exact gd_noend hb (by decide +kernel)
  have e7 := rtp (x + 6)
  refine aEv_of okX8_statement caX8_statement (Nat.le_of_ble_eq_true rfl) ?_
  refine aGo okX8_statement 1 (f' := (1, [some (.inr 192), none], [.inr 192], _)) rfl ?_
  refine b_vE (as := []) (rest := []) (k := 192) okX8_statement rfl lkX8_93 caX8_next (Nat.le_of_ble_eq_true rfl) rfl (Nat.le_of_ble_eq_true rfl) rfl rfl rfl (c_next_t htp hm9 (y := x) hxm) ?_
  rintro _ _ ⟨rfl, rfl⟩
  refine b_cast (f' := (4, [some (.inr 192), none], [.inl (107)], [A0, A1, A2, A3, A4, A5, (modSeg re k f c n kp l tp le la td kt sh so had gr fi se to (p : Int) t d (m : Int) (x : Int) (j : Int) him ik cu ou st rm)])) (congrArg (fun q : Int => ((4, [some (.inr 192), none], .inl q :: [], [A0, A1, A2, A3, A4, A5, (modSeg re k f c n kp l tp le la td kt sh so had gr fi se to (p : Int) t d (m : Int) (x : Int) (j : Int) him ik cu ou st rm)]) : aF)) (hL)) ?_
  refine aGo okX8_statement 3 (f' := (8, [some (.inr 192), some (.inl 107)], [.inl 112, .inl 107], _)) rfl ?_
  refine b_eq (tgt := 43) okX8_statement rfl rfl ⟨by omega, by omega⟩ ⟨by omega, by omega⟩ (fun h8 => absurd h8 (by omega)) (fun h8 => ?_)
  refine aGo okX8_statement 2 (f' := (14, [some (.inr 192), some (.inl 107)], [.inl 97, .inl 107], _)) rfl ?_
  refine b_eq (tgt := 43) okX8_statement rfl rfl ⟨by omega, by omega⟩ ⟨by omega, by omega⟩ (fun h14 => absurd h14 (by omega)) (fun h14 => ?_)
  refine aGo okX8_statement 2 (f' := (20, [some (.inr 192), some (.inl 107)], [.inl 108, .inl 107], _)) rfl ?_
  refine b_eq (tgt := 43) okX8_statement rfl rfl ⟨by omega, by omega⟩ ⟨by omega, by omega⟩ (fun h20 => absurd h20 (by omega)) (fun h20 => ?_)
  refine aGo okX8_statement 2 (f' := (26, [some (.inr 192), some (.inl 107)], [.inl 107, .inl 107], _)) rfl ?_
  refine b_eq (tgt := 43) okX8_statement rfl rfl ⟨by omega, by omega⟩ ⟨by omega, by omega⟩ (fun h26 => ?_) (fun h26 => absurd h26 (by omega))
  refine aGo okX8_statement 5 (f' := (52, [some (.inr 192), some (.inl 107)], [.inl 107, .inl (j : Int), .inr 201], _)) rfl ?_
  refine b_ast (k := 201) (j := j) (a := le) okX8_statement rfl rfl (by omega) (by omega) (by omega) ?_
  refine b_cast (f' := (53, [some (.inr 192), some (.inl 107)], [], [A0, A1, A2, A3, A4, A5, (modSeg re k f c n kp l tp (le.set j 107) la td kt sh so had gr fi se to (p : Int) t d (m : Int) (x : Int) (j : Int) him ik cu ou st rm)])) rfl ?_
  refine aGo okX8_statement 6 (f' := (65, [some (.inr 192), some (.inl 107)], [.inl (x : Int), .inl (j : Int), .inr 202], _)) rfl ?_
  refine b_ast (k := 202) (j := j) (a := la) okX8_statement rfl rfl (by omega) (by omega) (by omega) ?_
  refine b_cast (f' := (66, [some (.inr 192), some (.inl 107)], [], [A0, A1, A2, A3, A4, A5, (modSeg re k f c n kp l tp (le.set j 107) (la.set j (x : Int)) td kt sh so had gr fi se to (p : Int) t d (m : Int) (x : Int) (j : Int) him ik cu ou st rm)])) rfl ?_
  refine aGo okX8_statement 12 (f' := (84, [some (.inr 192), some (.inl 107)], [.inl (4 * (j : Int)), .inl 107, .inr 192], [A0, A1, A2, A3, A4, A5, (modSeg re k f c n kp l tp (le.set j 107) (la.set j (x : Int)) td kt sh so had gr fi se to (p : Int) t d (m : Int) ((x : Int) + 1) (j : Int) him ik cu ou st rm)])) rfl ?_
  refine b_cast (f' := (84, [some (.inr 192), some (.inl 107)], [.inl (((4 * j) : Nat) : Int), .inl 107, .inr 192], [A0, A1, A2, A3, A4, A5, (modSeg re k f c n kp l tp (le.set j 107) (la.set j (x : Int)) td kt sh so had gr fi se to (p : Int) t d (m : Int) ((x : Int) + 1) (j : Int) him ik cu ou st rm)])) (rfl) ?_
  by_cases hc84 : i = 6
  · refine b_vE (as := [.inl 107, .inl (((4 * j) : Nat) : Int)]) (rest := []) (k := 192) okX8_statement rfl lkX8_114 caX8_readsAll (Nat.le_of_ble_eq_true rfl) rfl (Nat.le_of_ble_eq_true rfl) rfl rfl rfl (c_ra_3t htp hm9 rtp htd (x := x) (j := j) hj hx (fun e h1 h2 => hg e h1 (by omega))) ?_
    rintro _ _ ⟨rfl, rfl⟩
    refine b0_eq (tgt := 99) okX8_statement rfl rfl ⟨by omega, by omega⟩ (fun h87 => absurd h87 (by omega)) (fun h87 => ?_)
    refine aGo okX8_statement 1 (f' := (91, [some (.inr 192), some (.inl 107)], [.inr 192], _)) rfl ?_
    by_cases hc91 : (x + 6) < m
    · refine b_vE (as := []) (rest := []) (k := 192) okX8_statement rfl lkX8_93 caX8_next (Nat.le_of_ble_eq_true rfl) rfl (Nat.le_of_ble_eq_true rfl) rfl rfl rfl (c_next_t htp hm9 (y := (x + 6)) hc91) ?_
      rintro _ _ ⟨rfl, rfl⟩
      refine aGo okX8_statement 1 (f' := (96, [some (.inr 192), some (.inl 107)], [.inl 59, .inl (tp.getD (x + 6) 0)], _)) rfl ?_
      refine b_eq (tgt := 101) okX8_statement rfl rfl ⟨by omega, by omega⟩ ⟨by omega, by omega⟩ (fun h96 => ?_) (fun h96 => ?_)
      · exact absurd ⟨by omega, by omega⟩ (hbe (by omega))
      · refine aGo okX8_statement 1 (f' := (100, [some (.inr 192), some (.inl 107)], [.inl 0], _)) rfl ?_
        obtain rfl : i = 6 := by omega
        exact b_ret (v := (some (.inl 0))) ⟨rfl, Or.inr ⟨rfl, Or.inl rfl⟩⟩ ⟨rfl, _, by simp only [List.length_set]; exact htd, rfl⟩ rfl
    · refine b_vE (as := []) (rest := []) (k := 192) okX8_statement rfl lkX8_93 caX8_next (Nat.le_of_ble_eq_true rfl) rfl (Nat.le_of_ble_eq_true rfl) rfl rfl rfl (c_next_f htp hm9 (y := (x + 6)) (by omega) (by omega)) ?_
      rintro _ _ ⟨rfl, rfl⟩
      refine aGo okX8_statement 1 (f' := (96, [some (.inr 192), some (.inl 107)], [.inl 59, .inl (-1)], _)) rfl ?_
      refine b_eq (tgt := 101) okX8_statement rfl rfl ⟨by omega, by omega⟩ ⟨by omega, by omega⟩ (fun h96 => absurd h96 (by omega)) (fun h96 => ?_)
      refine aGo okX8_statement 1 (f' := (100, [some (.inr 192), some (.inl 107)], [.inl 0], _)) rfl ?_
      obtain rfl : i = 6 := by omega
      exact b_ret (v := (some (.inl 0))) ⟨rfl, Or.inr ⟨rfl, Or.inl rfl⟩⟩ ⟨rfl, _, by simp only [List.length_set]; exact htd, rfl⟩ rfl
  · refine b_vE (as := [.inl 107, .inl (((4 * j) : Nat) : Int)]) (rest := []) (k := 192) okX8_statement rfl lkX8_114 caX8_readsAll (Nat.le_of_ble_eq_true rfl) rfl (Nat.le_of_ble_eq_true rfl) rfl rfl rfl (c_ra_3f htp hm9 rtp htd (x := x) (j := j) hj hx (i := i) (by omega) (by omega) hg hb) ?_
    rintro _ _ ⟨rfl, td2, ltd2, etd2, rfl⟩
    refine b0_eq (tgt := 99) okX8_statement rfl rfl ⟨by omega, by omega⟩ (fun h87 => ?_) (fun h87 => absurd h87 (by omega))
    refine aGo okX8_statement 1 (f' := (100, [some (.inr 192), some (.inl 107)], [.inl 0], _)) rfl ?_
    exact b_ret (v := (some (.inl 0))) ⟨rfl, Or.inr ⟨rfl, Or.inl rfl⟩⟩ ⟨rfl, td2, ltd2, rfl⟩ rfl
set_option maxRecDepth 100000 in
set_option maxHeartbeats 4000000 in
theorem c_st_4t (htp : tp.length = 96) (hm9 : m ≤ 96) (rtp : rng tp 255) (htd : td.length = 192) (hle : le.length = 48) (hla : la.length = 48) {x j : Nat} (hj : j < 48) (hx : x ≤ 100) (hxm : x < m) (hL : tp.getD x 0 = 115) (hg : ∀ e, 1 ≤ e → e < 5 → gdA tp m x 4 e) : aEv mX8_statement 3 0 0 N [.inr 192] [A0, A1, A2, A3, A4, A5, (modSeg re k f c n kp l tp le la td kt sh so had gr fi se to (p : Int) t d (m : Int) (x : Int) (j : Int) him ik cu ou st rm)] ((aQx (some (.inl 1)) [A0, A1, A2, A3, A4, A5, (modSeg re k f c n kp l tp (le.set j 115) (la.set j (x : Int)) (td.set (4 * j) (numL tp (x + 1) 3)) kt sh so had gr fi se to (p : Int) t d (m : Int) (((x + 5) : Nat) : Int) (j : Int) him ik cu ou st rm)])) := by
  have hend := gd_end (hg 4 (by decide) (by decide)) (by decide +kernel)
  have e7 := hend.2
  refine aEv_of okX8_statement caX8_statement (Nat.le_of_ble_eq_true rfl) ?_
  refine aGo okX8_statement 1 (f' := (1, [some (.inr 192), none], [.inr 192], _)) rfl ?_
  refine b_vE (as := []) (rest := []) (k := 192) okX8_statement rfl lkX8_93 caX8_next (Nat.le_of_ble_eq_true rfl) rfl (Nat.le_of_ble_eq_true rfl) rfl rfl rfl (c_next_t htp hm9 (y := x) hxm) ?_
  rintro _ _ ⟨rfl, rfl⟩
  refine b_cast (f' := (4, [some (.inr 192), none], [.inl (115)], [A0, A1, A2, A3, A4, A5, (modSeg re k f c n kp l tp le la td kt sh so had gr fi se to (p : Int) t d (m : Int) (x : Int) (j : Int) him ik cu ou st rm)])) (congrArg (fun q : Int => ((4, [some (.inr 192), none], .inl q :: [], [A0, A1, A2, A3, A4, A5, (modSeg re k f c n kp l tp le la td kt sh so had gr fi se to (p : Int) t d (m : Int) (x : Int) (j : Int) him ik cu ou st rm)]) : aF)) (hL)) ?_
  refine aGo okX8_statement 3 (f' := (8, [some (.inr 192), some (.inl 115)], [.inl 112, .inl 115], _)) rfl ?_
  refine b_eq (tgt := 43) okX8_statement rfl rfl ⟨by omega, by omega⟩ ⟨by omega, by omega⟩ (fun h8 => absurd h8 (by omega)) (fun h8 => ?_)
  refine aGo okX8_statement 2 (f' := (14, [some (.inr 192), some (.inl 115)], [.inl 97, .inl 115], _)) rfl ?_
  refine b_eq (tgt := 43) okX8_statement rfl rfl ⟨by omega, by omega⟩ ⟨by omega, by omega⟩ (fun h14 => absurd h14 (by omega)) (fun h14 => ?_)
  refine aGo okX8_statement 2 (f' := (20, [some (.inr 192), some (.inl 115)], [.inl 108, .inl 115], _)) rfl ?_
  refine b_eq (tgt := 43) okX8_statement rfl rfl ⟨by omega, by omega⟩ ⟨by omega, by omega⟩ (fun h20 => absurd h20 (by omega)) (fun h20 => ?_)
  refine aGo okX8_statement 2 (f' := (26, [some (.inr 192), some (.inl 115)], [.inl 107, .inl 115], _)) rfl ?_
  refine b_eq (tgt := 43) okX8_statement rfl rfl ⟨by omega, by omega⟩ ⟨by omega, by omega⟩ (fun h26 => absurd h26 (by omega)) (fun h26 => ?_)
  refine aGo okX8_statement 2 (f' := (32, [some (.inr 192), some (.inl 115)], [.inl 115, .inl 115], _)) rfl ?_
  refine b_eq (tgt := 43) okX8_statement rfl rfl ⟨by omega, by omega⟩ ⟨by omega, by omega⟩ (fun h32 => ?_) (fun h32 => absurd h32 (by omega))
  refine aGo okX8_statement 5 (f' := (52, [some (.inr 192), some (.inl 115)], [.inl 115, .inl (j : Int), .inr 201], _)) rfl ?_
  refine b_ast (k := 201) (j := j) (a := le) okX8_statement rfl rfl (by omega) (by omega) (by omega) ?_
  refine b_cast (f' := (53, [some (.inr 192), some (.inl 115)], [], [A0, A1, A2, A3, A4, A5, (modSeg re k f c n kp l tp (le.set j 115) la td kt sh so had gr fi se to (p : Int) t d (m : Int) (x : Int) (j : Int) him ik cu ou st rm)])) rfl ?_
  refine aGo okX8_statement 6 (f' := (65, [some (.inr 192), some (.inl 115)], [.inl (x : Int), .inl (j : Int), .inr 202], _)) rfl ?_
  refine b_ast (k := 202) (j := j) (a := la) okX8_statement rfl rfl (by omega) (by omega) (by omega) ?_
  refine b_cast (f' := (66, [some (.inr 192), some (.inl 115)], [], [A0, A1, A2, A3, A4, A5, (modSeg re k f c n kp l tp (le.set j 115) (la.set j (x : Int)) td kt sh so had gr fi se to (p : Int) t d (m : Int) (x : Int) (j : Int) him ik cu ou st rm)])) rfl ?_
  refine aGo okX8_statement 12 (f' := (84, [some (.inr 192), some (.inl 115)], [.inl (4 * (j : Int)), .inl 115, .inr 192], [A0, A1, A2, A3, A4, A5, (modSeg re k f c n kp l tp (le.set j 115) (la.set j (x : Int)) td kt sh so had gr fi se to (p : Int) t d (m : Int) ((x : Int) + 1) (j : Int) him ik cu ou st rm)])) rfl ?_
  refine b_cast (f' := (84, [some (.inr 192), some (.inl 115)], [.inl (((4 * j) : Nat) : Int), .inl 115, .inr 192], [A0, A1, A2, A3, A4, A5, (modSeg re k f c n kp l tp (le.set j 115) (la.set j (x : Int)) td kt sh so had gr fi se to (p : Int) t d (m : Int) ((x : Int) + 1) (j : Int) him ik cu ou st rm)])) (rfl) ?_
  refine b_vE (as := [.inl 115, .inl (((4 * j) : Nat) : Int)]) (rest := []) (k := 192) okX8_statement rfl lkX8_114 caX8_readsAll (Nat.le_of_ble_eq_true rfl) rfl (Nat.le_of_ble_eq_true rfl) rfl rfl rfl (c_ra_4t htp hm9 rtp htd (x := x) (j := j) hj hx (fun e h1 h2 => hg e h1 (by omega))) ?_
  rintro _ _ ⟨rfl, rfl⟩
  refine b0_eq (tgt := 99) okX8_statement rfl rfl ⟨by omega, by omega⟩ (fun h87 => absurd h87 (by omega)) (fun h87 => ?_)
  refine aGo okX8_statement 1 (f' := (91, [some (.inr 192), some (.inl 115)], [.inr 192], _)) rfl ?_
  refine b_vE (as := []) (rest := []) (k := 192) okX8_statement rfl lkX8_93 caX8_next (Nat.le_of_ble_eq_true rfl) rfl (Nat.le_of_ble_eq_true rfl) rfl rfl rfl (c_next_t htp hm9 (y := (x + 4)) hend.1) ?_
  rintro _ _ ⟨rfl, rfl⟩
  refine aGo okX8_statement 1 (f' := (96, [some (.inr 192), some (.inl 115)], [.inl 59, .inl (tp.getD (x + 4) 0)], _)) rfl ?_
  refine b_eq (tgt := 101) okX8_statement rfl rfl ⟨by omega, by omega⟩ ⟨by omega, by omega⟩ (fun h96 => ?_) (fun h96 => ?_)
  · refine aGo okX8_statement 7 (f' := (112, [some (.inr 192), some (.inl 115)], [.inl 1], [A0, A1, A2, A3, A4, A5, (modSeg re k f c n kp l tp (le.set j 115) (la.set j (x : Int)) (td.set (4 * j) (numL tp (x + 1) 3)) kt sh so had gr fi se to (p : Int) t d (m : Int) ((((x + 4) : Nat) : Int) + 1) (j : Int) him ik cu ou st rm)])) rfl ?_
    exact b_ret (v := (some (.inl 1))) ⟨rfl, Or.inr ⟨rfl, Or.inr rfl⟩⟩ ⟨rfl, rfl⟩ rfl
  · exfalso; omega
set_option maxRecDepth 100000 in
set_option maxHeartbeats 4000000 in
theorem c_st_4f (htp : tp.length = 96) (hm9 : m ≤ 96) (rtp : rng tp 255) (htd : td.length = 192) (hle : le.length = 48) (hla : la.length = 48) {x j : Nat} (hj : j < 48) (hx : x ≤ 100) (hxm : x < m) (hL : tp.getD x 0 = 115) {i : Nat} (hi1 : 1 ≤ i) (hi2 : i < 5) (hg : ∀ e, 1 ≤ e → e < i → gdA tp m x 4 e) (hb : ¬ gdA tp m x 4 i) : aEv mX8_statement 3 0 0 N [.inr 192] [A0, A1, A2, A3, A4, A5, (modSeg re k f c n kp l tp le la td kt sh so had gr fi se to (p : Int) t d (m : Int) (x : Int) (j : Int) him ik cu ou st rm)] ((fun rv h => rv = some (.inl 0) ∧ ∃ td2 : List Int, td2.length = 192 ∧ h = [A0, A1, A2, A3, A4, A5, (modSeg re k f c n kp l tp (le.set j 115) (la.set j (x : Int)) td2 kt sh so had gr fi se to (p : Int) t d (m : Int) (((x + i) : Nat) : Int) (j : Int) him ik cu ou st rm)])) := by
  have hbe : i = 4 → ¬ (x + 4 < m ∧ tp.getD (x + 4) 0 = 59) := fun z => by subst z; exact gd_noend hb (by decide +kernel)
  have e7 := rtp (x + 4)
  refine aEv_of okX8_statement caX8_statement (Nat.le_of_ble_eq_true rfl) ?_
  refine aGo okX8_statement 1 (f' := (1, [some (.inr 192), none], [.inr 192], _)) rfl ?_
  refine b_vE (as := []) (rest := []) (k := 192) okX8_statement rfl lkX8_93 caX8_next (Nat.le_of_ble_eq_true rfl) rfl (Nat.le_of_ble_eq_true rfl) rfl rfl rfl (c_next_t htp hm9 (y := x) hxm) ?_
  rintro _ _ ⟨rfl, rfl⟩
  refine b_cast (f' := (4, [some (.inr 192), none], [.inl (115)], [A0, A1, A2, A3, A4, A5, (modSeg re k f c n kp l tp le la td kt sh so had gr fi se to (p : Int) t d (m : Int) (x : Int) (j : Int) him ik cu ou st rm)])) (congrArg (fun q : Int => ((4, [some (.inr 192), none], .inl q :: [], [A0, A1, A2, A3, A4, A5, (modSeg re k f c n kp l tp le la td kt sh so had gr fi se to (p : Int) t d (m : Int) (x : Int) (j : Int) him ik cu ou st rm)]) : aF)) (hL)) ?_
  refine aGo okX8_statement 3 (f' := (8, [some (.inr 192), some (.inl 115)], [.inl 112, .inl 115], _)) rfl ?_
  refine b_eq (tgt := 43) okX8_statement rfl rfl ⟨by omega, by omega⟩ ⟨by omega, by omega⟩ (fun h8 => absurd h8 (by omega)) (fun h8 => ?_)
  refine aGo okX8_statement 2 (f' := (14, [some (.inr 192), some (.inl 115)], [.inl 97, .inl 115], _)) rfl ?_
  refine b_eq (tgt := 43) okX8_statement rfl rfl ⟨by omega, by omega⟩ ⟨by omega, by omega⟩ (fun h14 => absurd h14 (by omega)) (fun h14 => ?_)
  refine aGo okX8_statement 2 (f' := (20, [some (.inr 192), some (.inl 115)], [.inl 108, .inl 115], _)) rfl ?_
  refine b_eq (tgt := 43) okX8_statement rfl rfl ⟨by omega, by omega⟩ ⟨by omega, by omega⟩ (fun h20 => absurd h20 (by omega)) (fun h20 => ?_)
  refine aGo okX8_statement 2 (f' := (26, [some (.inr 192), some (.inl 115)], [.inl 107, .inl 115], _)) rfl ?_
  refine b_eq (tgt := 43) okX8_statement rfl rfl ⟨by omega, by omega⟩ ⟨by omega, by omega⟩ (fun h26 => absurd h26 (by omega)) (fun h26 => ?_)
  refine aGo okX8_statement 2 (f' := (32, [some (.inr 192), some (.inl 115)], [.inl 115, .inl 115], _)) rfl ?_
  refine b_eq (tgt := 43) okX8_statement rfl rfl ⟨by omega, by omega⟩ ⟨by omega, by omega⟩ (fun h32 => ?_) (fun h32 => absurd h32 (by omega))
  refine aGo okX8_statement 5 (f' := (52, [some (.inr 192), some (.inl 115)], [.inl 115, .inl (j : Int), .inr 201], _)) rfl ?_
  refine b_ast (k := 201) (j := j) (a := le) okX8_statement rfl rfl (by omega) (by omega) (by omega) ?_
  refine b_cast (f' := (53, [some (.inr 192), some (.inl 115)], [], [A0, A1, A2, A3, A4, A5, (modSeg re k f c n kp l tp (le.set j 115) la td kt sh so had gr fi se to (p : Int) t d (m : Int) (x : Int) (j : Int) him ik cu ou st rm)])) rfl ?_
  refine aGo okX8_statement 6 (f' := (65, [some (.inr 192), some (.inl 115)], [.inl (x : Int), .inl (j : Int), .inr 202], _)) rfl ?_
  refine b_ast (k := 202) (j := j) (a := la) okX8_statement rfl rfl (by omega) (by omega) (by omega) ?_
  refine b_cast (f' := (66, [some (.inr 192), some (.inl 115)], [], [A0, A1, A2, A3, A4, A5, (modSeg re k f c n kp l tp (le.set j 115) (la.set j (x : Int)) td kt sh so had gr fi se to (p : Int) t d (m : Int) (x : Int) (j : Int) him ik cu ou st rm)])) rfl ?_
  refine aGo okX8_statement 12 (f' := (84, [some (.inr 192), some (.inl 115)], [.inl (4 * (j : Int)), .inl 115, .inr 192], [A0, A1, A2, A3, A4, A5, (modSeg re k f c n kp l tp (le.set j 115) (la.set j (x : Int)) td kt sh so had gr fi se to (p : Int) t d (m : Int) ((x : Int) + 1) (j : Int) him ik cu ou st rm)])) rfl ?_
  refine b_cast (f' := (84, [some (.inr 192), some (.inl 115)], [.inl (((4 * j) : Nat) : Int), .inl 115, .inr 192], [A0, A1, A2, A3, A4, A5, (modSeg re k f c n kp l tp (le.set j 115) (la.set j (x : Int)) td kt sh so had gr fi se to (p : Int) t d (m : Int) ((x : Int) + 1) (j : Int) him ik cu ou st rm)])) (rfl) ?_
  by_cases hc84 : i = 4
  · refine b_vE (as := [.inl 115, .inl (((4 * j) : Nat) : Int)]) (rest := []) (k := 192) okX8_statement rfl lkX8_114 caX8_readsAll (Nat.le_of_ble_eq_true rfl) rfl (Nat.le_of_ble_eq_true rfl) rfl rfl rfl (c_ra_4t htp hm9 rtp htd (x := x) (j := j) hj hx (fun e h1 h2 => hg e h1 (by omega))) ?_
    rintro _ _ ⟨rfl, rfl⟩
    refine b0_eq (tgt := 99) okX8_statement rfl rfl ⟨by omega, by omega⟩ (fun h87 => absurd h87 (by omega)) (fun h87 => ?_)
    refine aGo okX8_statement 1 (f' := (91, [some (.inr 192), some (.inl 115)], [.inr 192], _)) rfl ?_
    by_cases hc91 : (x + 4) < m
    · refine b_vE (as := []) (rest := []) (k := 192) okX8_statement rfl lkX8_93 caX8_next (Nat.le_of_ble_eq_true rfl) rfl (Nat.le_of_ble_eq_true rfl) rfl rfl rfl (c_next_t htp hm9 (y := (x + 4)) hc91) ?_
      rintro _ _ ⟨rfl, rfl⟩
      refine aGo okX8_statement 1 (f' := (96, [some (.inr 192), some (.inl 115)], [.inl 59, .inl (tp.getD (x + 4) 0)], _)) rfl ?_
      refine b_eq (tgt := 101) okX8_statement rfl rfl ⟨by omega, by omega⟩ ⟨by omega, by omega⟩ (fun h96 => ?_) (fun h96 => ?_)
      · exact absurd ⟨by omega, by omega⟩ (hbe (by omega))
      · refine aGo okX8_statement 1 (f' := (100, [some (.inr 192), some (.inl 115)], [.inl 0], _)) rfl ?_
        obtain rfl : i = 4 := by omega
        exact b_ret (v := (some (.inl 0))) ⟨rfl, Or.inr ⟨rfl, Or.inl rfl⟩⟩ ⟨rfl, _, by simp only [List.length_set]; exact htd, rfl⟩ rfl
    · refine b_vE (as := []) (rest := []) (k := 192) okX8_statement rfl lkX8_93 caX8_next (Nat.le_of_ble_eq_true rfl) rfl (Nat.le_of_ble_eq_true rfl) rfl rfl rfl (c_next_f htp hm9 (y := (x + 4)) (by omega) (by omega)) ?_
      rintro _ _ ⟨rfl, rfl⟩
      refine aGo okX8_statement 1 (f' := (96, [some (.inr 192), some (.inl 115)], [.inl 59, .inl (-1)], _)) rfl ?_
      refine b_eq (tgt := 101) okX8_statement rfl rfl ⟨by omega, by omega⟩ ⟨by omega, by omega⟩ (fun h96 => absurd h96 (by omega)) (fun h96 => ?_)
      refine aGo okX8_statement 1 (f' := (100, [some (.inr 192), some (.inl 115)], [.inl 0], _)) rfl ?_
      obtain rfl : i = 4 := by omega
      exact b_ret (v := (some (.inl 0))) ⟨rfl, Or.inr ⟨rfl, Or.inl rfl⟩⟩ ⟨rfl, _, by simp only [List.length_set]; exact htd, rfl⟩ rfl
  · refine b_vE (as := [.inl 115, .inl (((4 * j) : Nat) : Int)]) (rest := []) (k := 192) okX8_statement rfl lkX8_114 caX8_readsAll (Nat.le_of_ble_eq_true rfl) rfl (Nat.le_of_ble_eq_true rfl) rfl rfl rfl (c_ra_4f htp hm9 rtp htd (x := x) (j := j) hj hx (i := i) (by omega) (by omega) hg hb) ?_
    rintro _ _ ⟨rfl, td2, ltd2, etd2, rfl⟩
    refine b0_eq (tgt := 99) okX8_statement rfl rfl ⟨by omega, by omega⟩ (fun h87 => ?_) (fun h87 => absurd h87 (by omega))
    refine aGo okX8_statement 1 (f' := (100, [some (.inr 192), some (.inl 115)], [.inl 0], _)) rfl ?_
    exact b_ret (v := (some (.inl 0))) ⟨rfl, Or.inr ⟨rfl, Or.inl rfl⟩⟩ ⟨rfl, td2, ltd2, rfl⟩ rfl
set_option maxRecDepth 100000 in
set_option maxHeartbeats 4000000 in
theorem c_st_5t (htp : tp.length = 96) (hm9 : m ≤ 96) (rtp : rng tp 255) (htd : td.length = 192) (hle : le.length = 48) (hla : la.length = 48) {x j : Nat} (hj : j < 48) (hx : x ≤ 100) (hxm : x < m) (hL : tp.getD x 0 = 100) (hg : ∀ e, 1 ≤ e → e < 4 → gdA tp m x 5 e) : aEv mX8_statement 3 0 0 N [.inr 192] [A0, A1, A2, A3, A4, A5, (modSeg re k f c n kp l tp le la td kt sh so had gr fi se to (p : Int) t d (m : Int) (x : Int) (j : Int) him ik cu ou st rm)] ((aQx (some (.inl 1)) [A0, A1, A2, A3, A4, A5, (modSeg re k f c n kp l tp (le.set j 100) (la.set j (x : Int)) (td.set (4 * j) (numL tp (x + 1) 2)) kt sh so had gr fi se to (p : Int) t d (m : Int) (((x + 4) : Nat) : Int) (j : Int) him ik cu ou st rm)])) := by
  have hend := gd_end (hg 3 (by decide) (by decide)) (by decide +kernel)
  have e7 := hend.2
  refine aEv_of okX8_statement caX8_statement (Nat.le_of_ble_eq_true rfl) ?_
  refine aGo okX8_statement 1 (f' := (1, [some (.inr 192), none], [.inr 192], _)) rfl ?_
  refine b_vE (as := []) (rest := []) (k := 192) okX8_statement rfl lkX8_93 caX8_next (Nat.le_of_ble_eq_true rfl) rfl (Nat.le_of_ble_eq_true rfl) rfl rfl rfl (c_next_t htp hm9 (y := x) hxm) ?_
  rintro _ _ ⟨rfl, rfl⟩
  refine b_cast (f' := (4, [some (.inr 192), none], [.inl (100)], [A0, A1, A2, A3, A4, A5, (modSeg re k f c n kp l tp le la td kt sh so had gr fi se to (p : Int) t d (m : Int) (x : Int) (j : Int) him ik cu ou st rm)])) (congrArg (fun q : Int => ((4, [some (.inr 192), none], .inl q :: [], [A0, A1, A2, A3, A4, A5, (modSeg re k f c n kp l tp le la td kt sh so had gr fi se to (p : Int) t d (m : Int) (x : Int) (j : Int) him ik cu ou st rm)]) : aF)) (hL)) ?_
  refine aGo okX8_statement 3 (f' := (8, [some (.inr 192), some (.inl 100)], [.inl 112, .inl 100], _)) rfl ?_
  refine b_eq (tgt := 43) okX8_statement rfl rfl ⟨by omega, by omega⟩ ⟨by omega, by omega⟩ (fun h8 => absurd h8 (by omega)) (fun h8 => ?_)
  refine aGo okX8_statement 2 (f' := (14, [some (.inr 192), some (.inl 100)], [.inl 97, .inl 100], _)) rfl ?_
  refine b_eq (tgt := 43) okX8_statement rfl rfl ⟨by omega, by omega⟩ ⟨by omega, by omega⟩ (fun h14 => absurd h14 (by omega)) (fun h14 => ?_)
  refine aGo okX8_statement 2 (f' := (20, [some (.inr 192), some (.inl 100)], [.inl 108, .inl 100], _)) rfl ?_
  refine b_eq (tgt := 43) okX8_statement rfl rfl ⟨by omega, by omega⟩ ⟨by omega, by omega⟩ (fun h20 => absurd h20 (by omega)) (fun h20 => ?_)
  refine aGo okX8_statement 2 (f' := (26, [some (.inr 192), some (.inl 100)], [.inl 107, .inl 100], _)) rfl ?_
  refine b_eq (tgt := 43) okX8_statement rfl rfl ⟨by omega, by omega⟩ ⟨by omega, by omega⟩ (fun h26 => absurd h26 (by omega)) (fun h26 => ?_)
  refine aGo okX8_statement 2 (f' := (32, [some (.inr 192), some (.inl 100)], [.inl 115, .inl 100], _)) rfl ?_
  refine b_eq (tgt := 43) okX8_statement rfl rfl ⟨by omega, by omega⟩ ⟨by omega, by omega⟩ (fun h32 => absurd h32 (by omega)) (fun h32 => ?_)
  refine aGo okX8_statement 2 (f' := (38, [some (.inr 192), some (.inl 100)], [.inl 100, .inl 100], _)) rfl ?_
  refine b_eq (tgt := 43) okX8_statement rfl rfl ⟨by omega, by omega⟩ ⟨by omega, by omega⟩ (fun h38 => ?_) (fun h38 => absurd h38 (by omega))
  refine aGo okX8_statement 5 (f' := (52, [some (.inr 192), some (.inl 100)], [.inl 100, .inl (j : Int), .inr 201], _)) rfl ?_
  refine b_ast (k := 201) (j := j) (a := le) okX8_statement rfl rfl (by omega) (by omega) (by omega) ?_
  refine b_cast (f' := (53, [some (.inr 192), some (.inl 100)], [], [A0, A1, A2, A3, A4, A5, (modSeg re k f c n kp l tp (le.set j 100) la td kt sh so had gr fi se to (p : Int) t d (m : Int) (x : Int) (j : Int) him ik cu ou st rm)])) rfl ?_
  refine aGo okX8_statement 6 (f' := (65, [some (.inr 192), some (.inl 100)], [.inl (x : Int), .inl (j : Int), .inr 202], _)) rfl ?_
  refine b_ast (k := 202) (j := j) (a := la) okX8_statement rfl rfl (by omega) (by omega) (by omega) ?_
  refine b_cast (f' := (66, [some (.inr 192), some (.inl 100)], [], [A0, A1, A2, A3, A4, A5, (modSeg re k f c n kp l tp (le.set j 100) (la.set j (x : Int)) td kt sh so had gr fi se to (p : Int) t d (m : Int) (x : Int) (j : Int) him ik cu ou st rm)])) rfl ?_
  refine aGo okX8_statement 12 (f' := (84, [some (.inr 192), some (.inl 100)], [.inl (4 * (j : Int)), .inl 100, .inr 192], [A0, A1, A2, A3, A4, A5, (modSeg re k f c n kp l tp (le.set j 100) (la.set j (x : Int)) td kt sh so had gr fi se to (p : Int) t d (m : Int) ((x : Int) + 1) (j : Int) him ik cu ou st rm)])) rfl ?_
  refine b_cast (f' := (84, [some (.inr 192), some (.inl 100)], [.inl (((4 * j) : Nat) : Int), .inl 100, .inr 192], [A0, A1, A2, A3, A4, A5, (modSeg re k f c n kp l tp (le.set j 100) (la.set j (x : Int)) td kt sh so had gr fi se to (p : Int) t d (m : Int) ((x : Int) + 1) (j : Int) him ik cu ou st rm)])) (rfl) ?_
  refine b_vE (as := [.inl 100, .inl (((4 * j) : Nat) : Int)]) (rest := []) (k := 192) okX8_statement rfl lkX8_114 caX8_readsAll (Nat.le_of_ble_eq_true rfl) rfl (Nat.le_of_ble_eq_true rfl) rfl rfl rfl (c_ra_5t htp hm9 rtp htd (x := x) (j := j) hj hx (fun e h1 h2 => hg e h1 (by omega))) ?_
  rintro _ _ ⟨rfl, rfl⟩
  refine b0_eq (tgt := 99) okX8_statement rfl rfl ⟨by omega, by omega⟩ (fun h87 => absurd h87 (by omega)) (fun h87 => ?_)
  refine aGo okX8_statement 1 (f' := (91, [some (.inr 192), some (.inl 100)], [.inr 192], _)) rfl ?_
  refine b_vE (as := []) (rest := []) (k := 192) okX8_statement rfl lkX8_93 caX8_next (Nat.le_of_ble_eq_true rfl) rfl (Nat.le_of_ble_eq_true rfl) rfl rfl rfl (c_next_t htp hm9 (y := (x + 3)) hend.1) ?_
  rintro _ _ ⟨rfl, rfl⟩
  refine aGo okX8_statement 1 (f' := (96, [some (.inr 192), some (.inl 100)], [.inl 59, .inl (tp.getD (x + 3) 0)], _)) rfl ?_
  refine b_eq (tgt := 101) okX8_statement rfl rfl ⟨by omega, by omega⟩ ⟨by omega, by omega⟩ (fun h96 => ?_) (fun h96 => ?_)
  · refine aGo okX8_statement 7 (f' := (112, [some (.inr 192), some (.inl 100)], [.inl 1], [A0, A1, A2, A3, A4, A5, (modSeg re k f c n kp l tp (le.set j 100) (la.set j (x : Int)) (td.set (4 * j) (numL tp (x + 1) 2)) kt sh so had gr fi se to (p : Int) t d (m : Int) ((((x + 3) : Nat) : Int) + 1) (j : Int) him ik cu ou st rm)])) rfl ?_
    exact b_ret (v := (some (.inl 1))) ⟨rfl, Or.inr ⟨rfl, Or.inr rfl⟩⟩ ⟨rfl, rfl⟩ rfl
  · exfalso; omega
set_option maxRecDepth 100000 in
set_option maxHeartbeats 4000000 in
theorem c_st_5f (htp : tp.length = 96) (hm9 : m ≤ 96) (rtp : rng tp 255) (htd : td.length = 192) (hle : le.length = 48) (hla : la.length = 48) {x j : Nat} (hj : j < 48) (hx : x ≤ 100) (hxm : x < m) (hL : tp.getD x 0 = 100) {i : Nat} (hi1 : 1 ≤ i) (hi2 : i < 4) (hg : ∀ e, 1 ≤ e → e < i → gdA tp m x 5 e) (hb : ¬ gdA tp m x 5 i) : aEv mX8_statement 3 0 0 N [.inr 192] [A0, A1, A2, A3, A4, A5, (modSeg re k f c n kp l tp le la td kt sh so had gr fi se to (p : Int) t d (m : Int) (x : Int) (j : Int) him ik cu ou st rm)] ((fun rv h => rv = some (.inl 0) ∧ ∃ td2 : List Int, td2.length = 192 ∧ h = [A0, A1, A2, A3, A4, A5, (modSeg re k f c n kp l tp (le.set j 100) (la.set j (x : Int)) td2 kt sh so had gr fi se to (p : Int) t d (m : Int) (((x + i) : Nat) : Int) (j : Int) him ik cu ou st rm)])) := by
  have hbe : i = 3 → ¬ (x + 3 < m ∧ tp.getD (x + 3) 0 = 59) := fun z => by subst z; exact gd_noend hb (by decide +kernel)
  have e7 := rtp (x + 3)
  refine aEv_of okX8_statement caX8_statement (Nat.le_of_ble_eq_true rfl) ?_
  refine aGo okX8_statement 1 (f' := (1, [some (.inr 192), none], [.inr 192], _)) rfl ?_
  refine b_vE (as := []) (rest := []) (k := 192) okX8_statement rfl lkX8_93 caX8_next (Nat.le_of_ble_eq_true rfl) rfl (Nat.le_of_ble_eq_true rfl) rfl rfl rfl (c_next_t htp hm9 (y := x) hxm) ?_
  rintro _ _ ⟨rfl, rfl⟩
  refine b_cast (f' := (4, [some (.inr 192), none], [.inl (100)], [A0, A1, A2, A3, A4, A5, (modSeg re k f c n kp l tp le la td kt sh so had gr fi se to (p : Int) t d (m : Int) (x : Int) (j : Int) him ik cu ou st rm)])) (congrArg (fun q : Int => ((4, [some (.inr 192), none], .inl q :: [], [A0, A1, A2, A3, A4, A5, (modSeg re k f c n kp l tp le la td kt sh so had gr fi se to (p : Int) t d (m : Int) (x : Int) (j : Int) him ik cu ou st rm)]) : aF)) (hL)) ?_
  refine aGo okX8_statement 3 (f' := (8, [some (.inr 192), some (.inl 100)], [.inl 112, .inl 100], _)) rfl ?_
  refine b_eq (tgt := 43) okX8_statement rfl rfl ⟨by omega, by omega⟩ ⟨by omega, by omega⟩ (fun h8 => absurd h8 (by omega)) (fun h8 => ?_)
  refine aGo okX8_statement 2 (f' := (14, [some (.inr 192), some (.inl 100)], [.inl 97, .inl 100], _)) rfl ?_
  refine b_eq (tgt := 43) okX8_statement rfl rfl ⟨by omega, by omega⟩ ⟨by omega, by omega⟩ (fun h14 => absurd h14 (by omega)) (fun h14 => ?_)
  refine aGo okX8_statement 2 (f' := (20, [some (.inr 192), some (.inl 100)], [.inl 108, .inl 100], _)) rfl ?_
  refine b_eq (tgt := 43) okX8_statement rfl rfl ⟨by omega, by omega⟩ ⟨by omega, by omega⟩ (fun h20 => absurd h20 (by omega)) (fun h20 => ?_)
  refine aGo okX8_statement 2 (f' := (26, [some (.inr 192), some (.inl 100)], [.inl 107, .inl 100], _)) rfl ?_
  refine b_eq (tgt := 43) okX8_statement rfl rfl ⟨by omega, by omega⟩ ⟨by omega, by omega⟩ (fun h26 => absurd h26 (by omega)) (fun h26 => ?_)
  refine aGo okX8_statement 2 (f' := (32, [some (.inr 192), some (.inl 100)], [.inl 115, .inl 100], _)) rfl ?_
  refine b_eq (tgt := 43) okX8_statement rfl rfl ⟨by omega, by omega⟩ ⟨by omega, by omega⟩ (fun h32 => absurd h32 (by omega)) (fun h32 => ?_)
  refine aGo okX8_statement 2 (f' := (38, [some (.inr 192), some (.inl 100)], [.inl 100, .inl 100], _)) rfl ?_
  refine b_eq (tgt := 43) okX8_statement rfl rfl ⟨by omega, by omega⟩ ⟨by omega, by omega⟩ (fun h38 => ?_) (fun h38 => absurd h38 (by omega))
  refine aGo okX8_statement 5 (f' := (52, [some (.inr 192), some (.inl 100)], [.inl 100, .inl (j : Int), .inr 201], _)) rfl ?_
  refine b_ast (k := 201) (j := j) (a := le) okX8_statement rfl rfl (by omega) (by omega) (by omega) ?_
  refine b_cast (f' := (53, [some (.inr 192), some (.inl 100)], [], [A0, A1, A2, A3, A4, A5, (modSeg re k f c n kp l tp (le.set j 100) la td kt sh so had gr fi se to (p : Int) t d (m : Int) (x : Int) (j : Int) him ik cu ou st rm)])) rfl ?_
  refine aGo okX8_statement 6 (f' := (65, [some (.inr 192), some (.inl 100)], [.inl (x : Int), .inl (j : Int), .inr 202], _)) rfl ?_
  refine b_ast (k := 202) (j := j) (a := la) okX8_statement rfl rfl (by omega) (by omega) (by omega) ?_
  refine b_cast (f' := (66, [some (.inr 192), some (.inl 100)], [], [A0, A1, A2, A3, A4, A5, (modSeg re k f c n kp l tp (le.set j 100) (la.set j (x : Int)) td kt sh so had gr fi se to (p : Int) t d (m : Int) (x : Int) (j : Int) him ik cu ou st rm)])) rfl ?_
  refine aGo okX8_statement 12 (f' := (84, [some (.inr 192), some (.inl 100)], [.inl (4 * (j : Int)), .inl 100, .inr 192], [A0, A1, A2, A3, A4, A5, (modSeg re k f c n kp l tp (le.set j 100) (la.set j (x : Int)) td kt sh so had gr fi se to (p : Int) t d (m : Int) ((x : Int) + 1) (j : Int) him ik cu ou st rm)])) rfl ?_
  refine b_cast (f' := (84, [some (.inr 192), some (.inl 100)], [.inl (((4 * j) : Nat) : Int), .inl 100, .inr 192], [A0, A1, A2, A3, A4, A5, (modSeg re k f c n kp l tp (le.set j 100) (la.set j (x : Int)) td kt sh so had gr fi se to (p : Int) t d (m : Int) ((x : Int) + 1) (j : Int) him ik cu ou st rm)])) (rfl) ?_
  by_cases hc84 : i = 3
  · refine b_vE (as := [.inl 100, .inl (((4 * j) : Nat) : Int)]) (rest := []) (k := 192) okX8_statement rfl lkX8_114 caX8_readsAll (Nat.le_of_ble_eq_true rfl) rfl (Nat.le_of_ble_eq_true rfl) rfl rfl rfl (c_ra_5t htp hm9 rtp htd (x := x) (j := j) hj hx (fun e h1 h2 => hg e h1 (by omega))) ?_
    rintro _ _ ⟨rfl, rfl⟩
    refine b0_eq (tgt := 99) okX8_statement rfl rfl ⟨by omega, by omega⟩ (fun h87 => absurd h87 (by omega)) (fun h87 => ?_)
    refine aGo okX8_statement 1 (f' := (91, [some (.inr 192), some (.inl 100)], [.inr 192], _)) rfl ?_
    by_cases hc91 : (x + 3) < m
    · refine b_vE (as := []) (rest := []) (k := 192) okX8_statement rfl lkX8_93 caX8_next (Nat.le_of_ble_eq_true rfl) rfl (Nat.le_of_ble_eq_true rfl) rfl rfl rfl (c_next_t htp hm9 (y := (x + 3)) hc91) ?_
      rintro _ _ ⟨rfl, rfl⟩
      refine aGo okX8_statement 1 (f' := (96, [some (.inr 192), some (.inl 100)], [.inl 59, .inl (tp.getD (x + 3) 0)], _)) rfl ?_
      refine b_eq (tgt := 101) okX8_statement rfl rfl ⟨by omega, by omega⟩ ⟨by omega, by omega⟩ (fun h96 => ?_) (fun h96 => ?_)
      · exact absurd ⟨by omega, by omega⟩ (hbe (by omega))
      · refine aGo okX8_statement 1 (f' := (100, [some (.inr 192), some (.inl 100)], [.inl 0], _)) rfl ?_
        obtain rfl : i = 3 := by omega
        exact b_ret (v := (some (.inl 0))) ⟨rfl, Or.inr ⟨rfl, Or.inl rfl⟩⟩ ⟨rfl, _, by simp only [List.length_set]; exact htd, rfl⟩ rfl
    · refine b_vE (as := []) (rest := []) (k := 192) okX8_statement rfl lkX8_93 caX8_next (Nat.le_of_ble_eq_true rfl) rfl (Nat.le_of_ble_eq_true rfl) rfl rfl rfl (c_next_f htp hm9 (y := (x + 3)) (by omega) (by omega)) ?_
      rintro _ _ ⟨rfl, rfl⟩
      refine aGo okX8_statement 1 (f' := (96, [some (.inr 192), some (.inl 100)], [.inl 59, .inl (-1)], _)) rfl ?_
      refine b_eq (tgt := 101) okX8_statement rfl rfl ⟨by omega, by omega⟩ ⟨by omega, by omega⟩ (fun h96 => absurd h96 (by omega)) (fun h96 => ?_)
      refine aGo okX8_statement 1 (f' := (100, [some (.inr 192), some (.inl 100)], [.inl 0], _)) rfl ?_
      obtain rfl : i = 3 := by omega
      exact b_ret (v := (some (.inl 0))) ⟨rfl, Or.inr ⟨rfl, Or.inl rfl⟩⟩ ⟨rfl, _, by simp only [List.length_set]; exact htd, rfl⟩ rfl
  · refine b_vE (as := [.inl 100, .inl (((4 * j) : Nat) : Int)]) (rest := []) (k := 192) okX8_statement rfl lkX8_114 caX8_readsAll (Nat.le_of_ble_eq_true rfl) rfl (Nat.le_of_ble_eq_true rfl) rfl rfl rfl (c_ra_5f htp hm9 rtp htd (x := x) (j := j) hj hx (i := i) (by omega) (by omega) hg hb) ?_
    rintro _ _ ⟨rfl, td2, ltd2, etd2, rfl⟩
    refine b0_eq (tgt := 99) okX8_statement rfl rfl ⟨by omega, by omega⟩ (fun h87 => ?_) (fun h87 => absurd h87 (by omega))
    refine aGo okX8_statement 1 (f' := (100, [some (.inr 192), some (.inl 100)], [.inl 0], _)) rfl ?_
    exact b_ret (v := (some (.inl 0))) ⟨rfl, Or.inr ⟨rfl, Or.inl rfl⟩⟩ ⟨rfl, td2, ltd2, rfl⟩ rfl
set_option maxRecDepth 100000 in
set_option maxHeartbeats 4000000 in
theorem c_st_6 (htp : tp.length = 96) (hm9 : m ≤ 96) (rtp : rng tp 255) {x j : Nat} (hx : x ≤ 100) (h : ¬ (x < m ∧ fmI (tp.getD x 0) < 6)) : aEv mX8_statement 3 0 0 N [.inr 192] [A0, A1, A2, A3, A4, A5, (modSeg re k f c n kp l tp le la td kt sh so had gr fi se to (p : Int) t d (m : Int) (x : Int) (j : Int) him ik cu ou st rm)] (aQx (some (.inl 0)) [A0, A1, A2, A3, A4, A5, (modSeg re k f c n kp l tp le la td kt sh so had gr fi se to (p : Int) t d (m : Int) (x : Int) (j : Int) him ik cu ou st rm)]) := by
  refine aEv_of okX8_statement caX8_statement (Nat.le_of_ble_eq_true rfl) ?_
  have e7 := rtp x
  refine aGo okX8_statement 1 (f' := (1, [some (.inr 192), none], [.inr 192], _)) rfl ?_
  by_cases hc1 : x < m
  · refine b_vE (as := []) (rest := []) (k := 192) okX8_statement rfl lkX8_93 caX8_next (Nat.le_of_ble_eq_true rfl) rfl (Nat.le_of_ble_eq_true rfl) rfl rfl rfl (c_next_t htp hm9 (y := x) hc1) ?_
    rintro _ _ ⟨rfl, rfl⟩
    refine aGo okX8_statement 3 (f' := (8, [some (.inr 192), some (.inl (tp.getD x 0))], [.inl 112, .inl (tp.getD x 0)], _)) rfl ?_
    refine b_eq (tgt := 43) okX8_statement rfl rfl ⟨by omega, by omega⟩ ⟨by omega, by omega⟩ (fun h8 => ?_) (fun h8 => ?_)
    · exact absurd ⟨by omega, fm_lt (by omega)⟩ h
    · refine aGo okX8_statement 2 (f' := (14, [some (.inr 192), some (.inl (tp.getD x 0))], [.inl 97, .inl (tp.getD x 0)], _)) rfl ?_
      refine b_eq (tgt := 43) okX8_statement rfl rfl ⟨by omega, by omega⟩ ⟨by omega, by omega⟩ (fun h14 => ?_) (fun h14 => ?_)
      · exact absurd ⟨by omega, fm_lt (by omega)⟩ h
      · refine aGo okX8_statement 2 (f' := (20, [some (.inr 192), some (.inl (tp.getD x 0))], [.inl 108, .inl (tp.getD x 0)], _)) rfl ?_
        refine b_eq (tgt := 43) okX8_statement rfl rfl ⟨by omega, by omega⟩ ⟨by omega, by omega⟩ (fun h20 => ?_) (fun h20 => ?_)
        · exact absurd ⟨by omega, fm_lt (by omega)⟩ h
        · refine aGo okX8_statement 2 (f' := (26, [some (.inr 192), some (.inl (tp.getD x 0))], [.inl 107, .inl (tp.getD x 0)], _)) rfl ?_
          refine b_eq (tgt := 43) okX8_statement rfl rfl ⟨by omega, by omega⟩ ⟨by omega, by omega⟩ (fun h26 => ?_) (fun h26 => ?_)
          · exact absurd ⟨by omega, fm_lt (by omega)⟩ h
          · refine aGo okX8_statement 2 (f' := (32, [some (.inr 192), some (.inl (tp.getD x 0))], [.inl 115, .inl (tp.getD x 0)], _)) rfl ?_
            refine b_eq (tgt := 43) okX8_statement rfl rfl ⟨by omega, by omega⟩ ⟨by omega, by omega⟩ (fun h32 => ?_) (fun h32 => ?_)
            · exact absurd ⟨by omega, fm_lt (by omega)⟩ h
            · refine aGo okX8_statement 2 (f' := (38, [some (.inr 192), some (.inl (tp.getD x 0))], [.inl 100, .inl (tp.getD x 0)], _)) rfl ?_
              refine b_eq (tgt := 43) okX8_statement rfl rfl ⟨by omega, by omega⟩ ⟨by omega, by omega⟩ (fun h38 => ?_) (fun h38 => ?_)
              · exact absurd ⟨by omega, fm_lt (by omega)⟩ h
              · refine aGo okX8_statement 1 (f' := (42, [some (.inr 192), some (.inl (tp.getD x 0))], [.inl 0], _)) rfl ?_
                exact b_ret (v := (some (.inl 0))) ⟨rfl, Or.inr ⟨rfl, Or.inl rfl⟩⟩ ⟨rfl, rfl⟩ rfl
  · refine b_vE (as := []) (rest := []) (k := 192) okX8_statement rfl lkX8_93 caX8_next (Nat.le_of_ble_eq_true rfl) rfl (Nat.le_of_ble_eq_true rfl) rfl rfl rfl (c_next_f htp hm9 (y := x) (by omega) (by omega)) ?_
    rintro _ _ ⟨rfl, rfl⟩
    refine aGo okX8_statement 3 (f' := (8, [some (.inr 192), some (.inl (-1))], [.inl 112, .inl (-1)], _)) rfl ?_
    refine b_eq (tgt := 43) okX8_statement rfl rfl ⟨by omega, by omega⟩ ⟨by omega, by omega⟩ (fun h8 => absurd h8 (by omega)) (fun h8 => ?_)
    refine aGo okX8_statement 2 (f' := (14, [some (.inr 192), some (.inl (-1))], [.inl 97, .inl (-1)], _)) rfl ?_
    refine b_eq (tgt := 43) okX8_statement rfl rfl ⟨by omega, by omega⟩ ⟨by omega, by omega⟩ (fun h14 => absurd h14 (by omega)) (fun h14 => ?_)
    refine aGo okX8_statement 2 (f' := (20, [some (.inr 192), some (.inl (-1))], [.inl 108, .inl (-1)], _)) rfl ?_
    refine b_eq (tgt := 43) okX8_statement rfl rfl ⟨by omega, by omega⟩ ⟨by omega, by omega⟩ (fun h20 => absurd h20 (by omega)) (fun h20 => ?_)
    refine aGo okX8_statement 2 (f' := (26, [some (.inr 192), some (.inl (-1))], [.inl 107, .inl (-1)], _)) rfl ?_
    refine b_eq (tgt := 43) okX8_statement rfl rfl ⟨by omega, by omega⟩ ⟨by omega, by omega⟩ (fun h26 => absurd h26 (by omega)) (fun h26 => ?_)
    refine aGo okX8_statement 2 (f' := (32, [some (.inr 192), some (.inl (-1))], [.inl 115, .inl (-1)], _)) rfl ?_
    refine b_eq (tgt := 43) okX8_statement rfl rfl ⟨by omega, by omega⟩ ⟨by omega, by omega⟩ (fun h32 => absurd h32 (by omega)) (fun h32 => ?_)
    refine aGo okX8_statement 2 (f' := (38, [some (.inr 192), some (.inl (-1))], [.inl 100, .inl (-1)], _)) rfl ?_
    refine b_eq (tgt := 43) okX8_statement rfl rfl ⟨by omega, by omega⟩ ⟨by omega, by omega⟩ (fun h38 => absurd h38 (by omega)) (fun h38 => ?_)
    refine aGo okX8_statement 1 (f' := (42, [some (.inr 192), some (.inl (-1))], [.inl 0], _)) rfl ?_
    exact b_ret (v := (some (.inl 0))) ⟨rfl, Or.inr ⟨rfl, Or.inl rfl⟩⟩ ⟨rfl, rfl⟩ rfl
end AMI
