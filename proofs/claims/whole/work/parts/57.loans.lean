/-! loans, of the reference; laid by gen_loans.py -/
/-- g is the most groups of y, if y is within O and of sum 0 -/
def SPC (V : Nat → Int) (p O y g : Nat) : Prop := sb y O = true → ntS V y p = 0 → grp V p g y ∧ ∀ k, grp V p k y → k ≤ g
theorem nt_owe {V : Nat → Int} {p O : Nat} (hp : p ≤ 6) (hb : ∀ q, q < 6 → (O.testBit q = true ↔ q < p ∧ V q ≠ 0)) : ntS V O p = sumN p V := sumN_congr fun q hq => by
  by_cases h : O.testBit q = true
  · show (if O.testBit q = true then V q else 0) = V q; rw [if_pos h]
  · show (if O.testBit q = true then V q else 0) = V q
    rw [if_neg h]
    rcases Classical.em (V q = 0) with z | z
    · exact z.symm
    · exact absurd ((hb q (by omega)).mpr ⟨hq, z⟩) h
theorem SPC_most {V : Nat → Int} {p O v b : Nat} {gr1 : List Int} (hp : p ≤ 6) (hv : v < 64) (hs : sb v O = true) (h0 : ntS V v p = 0) (hx : ∀ y, y < v → ∃ g : Nat, gr1.getD y 0 = (g : Int) ∧ g ≤ y ∧ SPC V p O y g) (hg : grp V p b v) (hd : ∀ z, z < 64 → sb z v = true → z ≠ 0 → ntS V z p = 0 → ∀ g : Nat, gr1.getD (v - z) 0 = (g : Int) → g + 1 ≤ b) : SPC V p O v b := by
  intro _ _
  refine ⟨hg, fun k hk => ?_⟩
  cases k with
  | zero => omega
  | succ k =>
    obtain ⟨T, t1, t2, t3, t4, t5⟩ := hk
    have l1 := (sb_sub v hv T t1 t2).1
    obtain ⟨g, g1, g2, g3⟩ := hx (v - T) (by omega)
    have h5 := (g3 (sb_trans (sb_minus hv t1 t2) hs) (by rw [nt_sub hp hv t1 t2, h0, t4]; rfl)).2 k t5
    have h6 := hd T t1 t2 t3 t4 g g1
    omega
section AML
variable {A0 A1 A2 A3 A4 A5 : List (Option aE)} {re k f c n kp l tp le la td kt sh so had gr fi se to : List Int} {p g : Nat} {t d tl at_ sn him ik cu ou st rm : Int} {N : Nat}
theorem lose4of5 (a0 a1 a2 a3 a4 : Option aV) : ∀ (i : Nat) (v : aV), [a0, a1, a2, a3, none][i]? = some (some v) → [a0, a1, a2, a3, a4][i]? = some (some v) := by
  intro i v h
  match i, h with
  | 0, h => exact h
  | 1, h => exact h
  | 2, h => exact h
  | 3, h => exact h
  | 4, h => simp at h
  | i + 5, h => simp at h
set_option maxRecDepth 100000 in
set_option maxHeartbeats 4000000 in
theorem c_mFewest (hb : bOK p k f c n kp l t d) (hp6 : p ≤ 6) (hgr : gr.length = 64) : aEv mX8_fewestLoans 4 0 0 N [.inr 192] [A0, A1, A2, A3, A4, A5, (modSeg re k f c n kp l tp le la td kt sh so had gr fi se to (p : Int) t d tl at_ sn him ik cu 0 st rm)] ((fun rv h => rv = some (.inl ((p : Int) - dpF p (net p l) (2 ^ p - 1) (2 ^ p - 1))) ∧ ∃ gr2 : List Int, gr2.length = 64 ∧ h = [A0, A1, A2, A3, A4, A5, (modSeg re k f c n kp l tp le la td kt sh so had gr2 fi se to (p : Int) t d tl at_ sn him ik cu 0 st rm)])) := by
  obtain ⟨hp7, hk, hf, hc, hn, hkp, hl, rk, rf, rc, rn, rkp, rl, ht0, ht1, hd0, hd1⟩ := id hb
  refine aEv_of okX8_fewestLoans caX8_fewestLoans (Nat.le_of_ble_eq_true rfl) ?_
  have lp : ∀ (j v : Nat), v + j = p → AW mX8_fewestLoans 4 0 0 N none (fun rv h => rv = some (.inl ((p : Int) - dpF p (net p l) (2 ^ p - 1) (2 ^ p - 1))) ∧ ∃ gr2 : List Int, gr2.length = 64 ∧ h = [A0, A1, A2, A3, A4, A5, (modSeg re k f c n kp l tp le la td kt sh so had gr2 fi se to (p : Int) t d tl at_ sn him ik cu 0 st rm)]) (6, [some (.inr 192), some (.inl (bitsN v (fun q => decide (net p l q ≠ 0)))), some (.inl (cntN v (fun q => decide (net p l q ≠ 0)))), some (.inl (v : Int)), none], [], [A0, A1, A2, A3, A4, A5, (modSeg re k f c n kp l tp le la td kt sh so had gr fi se to (p : Int) t d tl at_ sn him ik cu 0 st rm)]) := by
    intro j
    induction j with
    | zero =>
      intro v  hij 
      obtain rfl : p = v := by omega
      refine aGo okX8_fewestLoans 3 (f' := (11, [some (.inr 192), some (.inl (bitsN p (fun q => decide (net p l q ≠ 0)))), some (.inl (cntN p (fun q => decide (net p l q ≠ 0)))), some (.inl (p : Int)), none], [.inl (p : Int), .inl (p : Int)], _)) rfl ?_
      refine b_ge (tgt := 54) okX8_fewestLoans rfl rfl ⟨by omega, by omega⟩ ⟨by omega, by omega⟩ (fun h11 => ?_) (fun h11 => absurd h11 (by omega))
      refine aGo okX8_fewestLoans 2 (f' := (56, [some (.inr 192), some (.inl (bitsN p (fun q => decide (net p l q ≠ 0)))), some (.inl (cntN p (fun q => decide (net p l q ≠ 0)))), some (.inl 0), none], [], _)) rfl ?_
      obtain ⟨O, hO, hOe, hOb0⟩ := bits6 (fun q => decide (net p l q ≠ 0)) p hp6
      have hOb : ∀ q, q < 6 → (O.testBit q = true ↔ q < p ∧ net p l q ≠ 0) := fun q hq => by rw [hOb0 q hq, decide_eq_true_eq]
      have lq : ∀ (j2 v : Nat) (gr1 : List Int), v + j2 = 64 → (gr1.length = 64) → (∀ y, y < v → ∃ g : Nat, gr1.getD y 0 = (g : Int) ∧ g ≤ y ∧ SPC (net p l) p O y g) → AW mX8_fewestLoans 4 0 0 N none (fun rv h => rv = some (.inl ((p : Int) - dpF p (net p l) (2 ^ p - 1) (2 ^ p - 1))) ∧ ∃ gr2 : List Int, gr2.length = 64 ∧ h = [A0, A1, A2, A3, A4, A5, (modSeg re k f c n kp l tp le la td kt sh so had gr2 fi se to (p : Int) t d tl at_ sn him ik cu 0 st rm)]) (56, [some (.inr 192), some (.inl (O : Int)), some (.inl (cntN p (fun q => decide (net p l q ≠ 0)))), some (.inl (v : Int)), none], [], [A0, A1, A2, A3, A4, A5, (modSeg re k f c n kp l tp le la td kt sh so had gr1 fi se to (p : Int) t d tl at_ sn him ik cu 0 st rm)]) := by
        intro j2
        induction j2 with
        | zero =>
          intro v gr1 hij2 x1 x2
          obtain rfl : 64 = v := by omega
          obtain ⟨gO, eO, -, pO⟩ := x2 O hO
          have qO := pO (sb_refl O) (by rw [nt_owe hp6 hOb]; exact net_sum p l)
          refine aGo okX8_fewestLoans 2 (f' := (59, [some (.inr 192), some (.inl (O : Int)), some (.inl (cntN p (fun q => decide (net p l q ≠ 0)))), some (.inl (64 : Int)), none], [.inl 64, .inl (64 : Int)], _)) rfl ?_
          refine b_ge (tgt := 163) okX8_fewestLoans rfl rfl ⟨by omega, by omega⟩ ⟨by omega, by omega⟩ (fun h59 => ?_) (fun h59 => absurd h59 (by omega))
          refine aGo okX8_fewestLoans 4 (f' := (169, [some (.inr 192), some (.inl (O : Int)), some (.inl (cntN p (fun q => decide (net p l q ≠ 0)))), some (.inl (64 : Int)), none], [.inl (O : Int), .inr 208, .inl (cntN p (fun q => decide (net p l q ≠ 0)))], _)) rfl ?_
          refine b_ald (k := 208) (j := O) (a := gr1) okX8_fewestLoans rfl rfl (by omega) (by omega) (by omega) ?_
          refine aGo okX8_fewestLoans 1 (f' := (171, [some (.inr 192), some (.inl (O : Int)), some (.inl (cntN p (fun q => decide (net p l q ≠ 0)))), some (.inl (64 : Int)), none], [.inl ((cntN p (fun q => decide (net p l q ≠ 0))) - (gr1.getD O 0))], _)) rfl ?_
          exact b_ret (v := (some (.inl ((cntN p (fun q => decide (net p l q ≠ 0))) - (gr1.getD O 0))))) ⟨rfl, Or.inl rfl⟩ ⟨congrArg (fun q : Int => (some (.inl q) : Option aV)) (by have e5 := grp_all (V := net p l) hp6 hO hOb (g := gO) (qO.1) (qO.2); unfold dpD at e5; omega), gr1, x1, rfl⟩ rfl
        | succ j2 ih2 =>
          intro v gr1 hij2 x1 x2
          have e1 := (sm_in v (by omega) O hO).2
          refine aGo okX8_fewestLoans 2 (f' := (59, [some (.inr 192), some (.inl (O : Int)), some (.inl (cntN p (fun q => decide (net p l q ≠ 0)))), some (.inl (v : Int)), none], [.inl 64, .inl (v : Int)], _)) rfl ?_
          refine b_ge (tgt := 163) okX8_fewestLoans rfl rfl ⟨by omega, by omega⟩ ⟨by omega, by omega⟩ (fun h59 => absurd h59 (by omega)) (fun h59 => ?_)
          refine aGo okX8_fewestLoans 4 (f' := (68, [some (.inr 192), some (.inl (O : Int)), some (.inl (cntN p (fun q => decide (net p l q ≠ 0)))), some (.inl (v : Int)), none], [.inl 0, .inl (v : Int), .inr 208], _)) rfl ?_
          refine b_ast (k := 208) (j := v) (a := gr1) okX8_fewestLoans rfl rfl (by omega) (by omega) (by omega) ?_
          refine b_cast (f' := (69, [some (.inr 192), some (.inl (O : Int)), some (.inl (cntN p (fun q => decide (net p l q ≠ 0)))), some (.inl (v : Int)), none], [], [A0, A1, A2, A3, A4, A5, (modSeg re k f c n kp l tp le la td kt sh so had (gr1.set v 0) fi se to (p : Int) t d tl at_ sn him ik cu 0 st rm)])) rfl ?_
          refine aGo okX8_fewestLoans 5 (f' := (74, [some (.inr 192), some (.inl (O : Int)), some (.inl (cntN p (fun q => decide (net p l q ≠ 0)))), some (.inl (v : Int)), none], [.inl (aAnd (v : Int) (aXor (O : Int) (-1)))], _)) rfl ?_
          refine b0_ne (tgt := 157) okX8_fewestLoans rfl rfl ⟨by omega, by omega⟩ (fun h74 => ?_) (fun h74 => ?_)
          · refine aGo okX8_fewestLoans 2 (f' := (56, [some (.inr 192), some (.inl (O : Int)), some (.inl (cntN p (fun q => decide (net p l q ≠ 0)))), some (.inl ((v : Int) + 1)), none], [], _)) rfl ?_
            refine b_lose (ls' := [some (.inr 192), some (.inl (O : Int)), some (.inl (cntN p (fun q => decide (net p l q ≠ 0)))), some (.inl ((v : Int) + 1)), none]) (fun _ _ z => z) ?_
            refine ih2 (v + 1) (gr1.set v 0) (by omega) (by rw [List.length_set]; exact x1) (fun y hy => ?_)
            by_cases hyv : y = v
            · subst hyv
              refine ⟨0, by rw [getD_set_self (by omega)]; rfl, by omega, fun k1 k2 => ?_⟩
              exact absurd k1 (by have := (sm_in y (by omega) O hO).1; rw [decide_eq_false h74] at this; rw [← this]; decide)
            · rw [getD_set_ne hyv]; exact x2 y (by omega)
          · have hvO : sb v O = true := by have := (sm_in v (by omega) O hO).1; rw [decide_eq_true h74] at this; exact this.symm
            refine aGo okX8_fewestLoans 2 (f' := (79, [some (.inr 192), some (.inl (O : Int)), some (.inl (cntN p (fun q => decide (net p l q ≠ 0)))), some (.inl (v : Int)), none], [.inl (v : Int), .inr 192], _)) rfl ?_
            refine b_vE (as := [.inl (v : Int)]) (rest := []) (k := 192) okX8_fewestLoans rfl lkX8_250 caX8_netsOf (Nat.le_of_ble_eq_true rfl) rfl (Nat.le_of_ble_eq_true rfl) rfl rfl rfl (c_netsOf hp6 hp7 hl (x := v) (by omega)) ?_
            rintro _ _ ⟨rfl, rfl⟩
            have env := ntS_le (V := (net p l)) (x := v) (m := p) hp7 (fun q => net_le hp7 rl q)
            refine b0_eq (tgt := 88) okX8_fewestLoans rfl rfl ⟨by omega, by omega⟩ (fun h82 => ?_) (fun h82 => ?_)
            · have hv0 : ntS (net p l) v p = 0 := h82
              refine aGo okX8_fewestLoans 2 (f' := (91, [some (.inr 192), some (.inl (O : Int)), some (.inl (cntN p (fun q => decide (net p l q ≠ 0)))), some (.inl (v : Int)), some (.inl (v : Int))], [], _)) rfl ?_
              have lr : ∀ (n3 w : Nat) (gr2 : List Int) (b : Nat), w ≤ n3 → w ≤ v → sb w v = true → gr2.length = 64 → (∀ y, y ≠ v → gr2.getD y 0 = gr1.getD y 0) → gr2.getD v 0 = (b : Int) → b ≤ v → grp (net p l) p b v → (∀ z, z < 64 → sb z v = true → z ≠ 0 → ntS (net p l) z p = 0 → w < z → ∀ g : Nat, gr1.getD (v - z) 0 = (g : Int) → g + 1 ≤ b) → AW mX8_fewestLoans 4 0 0 N none (fun rv h => rv = some (.inl ((p : Int) - dpF p (net p l) (2 ^ p - 1) (2 ^ p - 1))) ∧ ∃ gr2 : List Int, gr2.length = 64 ∧ h = [A0, A1, A2, A3, A4, A5, (modSeg re k f c n kp l tp le la td kt sh so had gr2 fi se to (p : Int) t d tl at_ sn him ik cu 0 st rm)]) (91, [some (.inr 192), some (.inl (O : Int)), some (.inl (cntN p (fun q => decide (net p l q ≠ 0)))), some (.inl (v : Int)), some (.inl (w : Int))], [], [A0, A1, A2, A3, A4, A5, (modSeg re k f c n kp l tp le la td kt sh so had gr2 fi se to (p : Int) t d tl at_ sn him ik cu 0 st rm)]) := by
                intro n3
                induction n3 with
                | zero =>
                  intro w gr2 b hn3 hwle0 hwv y1 y2 y3 y4 y5 y6
                  refine aGo okX8_fewestLoans 1 (f' := (93, [some (.inr 192), some (.inl (O : Int)), some (.inl (cntN p (fun q => decide (net p l q ≠ 0)))), some (.inl (v : Int)), some (.inl (w : Int))], [.inl (w : Int)], _)) rfl ?_
                  refine b0_le (tgt := 157) okX8_fewestLoans rfl rfl ⟨by omega, by omega⟩ (fun h93 => ?_) (fun h93 => absurd h93 (by omega))
                  refine aGo okX8_fewestLoans 2 (f' := (56, [some (.inr 192), some (.inl (O : Int)), some (.inl (cntN p (fun q => decide (net p l q ≠ 0)))), some (.inl ((v : Int) + 1)), some (.inl (w : Int))], [], _)) rfl ?_
                  refine b_lose (ls' := [some (.inr 192), some (.inl (O : Int)), some (.inl (cntN p (fun q => decide (net p l q ≠ 0)))), some (.inl ((v : Int) + 1)), none]) (lose4of5 _ _ _ _ _) ?_
                  have hw0 : w = 0 := by omega
                  refine ih2 (v + 1) gr2 (by omega) y1 (fun y hy => ?_)
                  by_cases hyv : y = v
                  · subst hyv
                    exact ⟨b, y3, y4, SPC_most hp6 (by omega) hvO hv0 x2 y5 (fun z z1 z2 z3 z4 g hg => y6 z z1 z2 z3 z4 (by omega) g hg)⟩
                  · rw [y2 y hyv]; exact x2 y (by omega)
                | succ n3 ih3 =>
                  intro w gr2 b hn3 hwle0 hwv y1 y2 y3 y4 y5 y6
                  refine aGo okX8_fewestLoans 1 (f' := (93, [some (.inr 192), some (.inl (O : Int)), some (.inl (cntN p (fun q => decide (net p l q ≠ 0)))), some (.inl (v : Int)), some (.inl (w : Int))], [.inl (w : Int)], _)) rfl ?_
                  refine b0_le (tgt := 157) okX8_fewestLoans rfl rfl ⟨by omega, by omega⟩ (fun h93 => ?_) (fun h93 => ?_)
                  · refine aGo okX8_fewestLoans 2 (f' := (56, [some (.inr 192), some (.inl (O : Int)), some (.inl (cntN p (fun q => decide (net p l q ≠ 0)))), some (.inl ((v : Int) + 1)), some (.inl (w : Int))], [], _)) rfl ?_
                    refine b_lose (ls' := [some (.inr 192), some (.inl (O : Int)), some (.inl (cntN p (fun q => decide (net p l q ≠ 0)))), some (.inl ((v : Int) + 1)), none]) (lose4of5 _ _ _ _ _) ?_
                    have hw0 : w = 0 := by omega
                    refine ih2 (v + 1) gr2 (by omega) y1 (fun y hy => ?_)
                    by_cases hyv : y = v
                    · subst hyv
                      exact ⟨b, y3, y4, SPC_most hp6 (by omega) hvO hv0 x2 y5 (fun z z1 z2 z3 z4 g hg => y6 z z1 z2 z3 z4 (by omega) g hg)⟩
                    · rw [y2 y hyv]; exact x2 y (by omega)
                  · have hsm := sm_next v (by omega) w (by omega) hwv (by omega)
                    have hsn := sm_not v (by omega) w (by omega) hwv
                    have hwle := (sb_sub v (by omega) w (by omega) hwv).1
                    obtain ⟨g9, q1, q2, q3⟩ := x2 (v - w) (by omega)
                    have e9 : gr2.getD (v - w) 0 = (g9 : Int) := by rw [y2 (v - w) (by omega)]; exact q1
                    refine aGo okX8_fewestLoans 2 (f' := (99, [some (.inr 192), some (.inl (O : Int)), some (.inl (cntN p (fun q => decide (net p l q ≠ 0)))), some (.inl (v : Int)), some (.inl (w : Int))], [.inl (w : Int), .inr 192], _)) rfl ?_
                    refine b_vE (as := [.inl (w : Int)]) (rest := []) (k := 192) okX8_fewestLoans rfl lkX8_250 caX8_netsOf (Nat.le_of_ble_eq_true rfl) rfl (Nat.le_of_ble_eq_true rfl) rfl rfl rfl (c_netsOf hp6 hp7 hl (x := w) (by omega)) ?_
                    rintro _ _ ⟨rfl, rfl⟩
                    have enw := ntS_le (V := (net p l)) (x := w) (m := p) hp7 (fun q => net_le hp7 rl q)
                    refine b0_ne (tgt := 146) okX8_fewestLoans rfl rfl ⟨by omega, by omega⟩ (fun h102 => ?_) (fun h102 => ?_)
                    · refine aGo okX8_fewestLoans 5 (f' := (152, [some (.inr 192), some (.inl (O : Int)), some (.inl (cntN p (fun q => decide (net p l q ≠ 0)))), some (.inl (v : Int)), some (.inl (w : Int))], [.inl (aAnd ((w : Int) - 1) (v : Int))], _)) rfl ?_
                      refine b_cast (f' := (152, [some (.inr 192), some (.inl (O : Int)), some (.inl (cntN p (fun q => decide (net p l q ≠ 0)))), some (.inl (v : Int)), some (.inl (w : Int))], [.inl ((((w - 1) &&& v) : Nat) : Int)], [A0, A1, A2, A3, A4, A5, (modSeg re k f c n kp l tp le la td kt sh so had gr2 fi se to (p : Int) t d tl at_ sn him ik cu 0 st rm)])) (congrArg (fun q : Int => ((152, [some (.inr 192), some (.inl (O : Int)), some (.inl (cntN p (fun q => decide (net p l q ≠ 0)))), some (.inl (v : Int)), some (.inl (w : Int))], .inl q :: [], [A0, A1, A2, A3, A4, A5, (modSeg re k f c n kp l tp le la td kt sh so had gr2 fi se to (p : Int) t d tl at_ sn him ik cu 0 st rm)]) : aF)) (hsm.1)) ?_
                      refine aGo okX8_fewestLoans 2 (f' := (91, [some (.inr 192), some (.inl (O : Int)), some (.inl (cntN p (fun q => decide (net p l q ≠ 0)))), some (.inl (v : Int)), some (.inl (((w - 1) &&& v) : Int))], [], _)) rfl ?_
                      refine ih3 ((w - 1) &&& v) gr2 b (by omega) (by omega) hsm.2.1 y1 y2 y3 y4 y5 (fun z z1 z2 z3 z4 z5 g hg => ?_)
                      by_cases zw : w < z
                      · exact y6 z z1 z2 z3 z4 zw g hg
                      · by_cases ze : z = w
                        · subst ze
                          first | exact absurd z4 (by omega) | (have e8 : g = g9 := (by have := hg.symm.trans q1; omega); omega)
                        · have := sm_skip (by omega) (by omega) hwv (by omega) z1 z2 (show z < w by omega); omega
                    · refine aGo okX8_fewestLoans 7 (f' := (115, [some (.inr 192), some (.inl (O : Int)), some (.inl (cntN p (fun q => decide (net p l q ≠ 0)))), some (.inl (v : Int)), some (.inl (w : Int))], [.inl (aAnd (v : Int) (aXor (w : Int) (-1))), .inr 208], _)) rfl ?_
                      refine b_cast (f' := (115, [some (.inr 192), some (.inl (O : Int)), some (.inl (cntN p (fun q => decide (net p l q ≠ 0)))), some (.inl (v : Int)), some (.inl (w : Int))], [.inl (((v - w) : Nat) : Int), .inr 208], [A0, A1, A2, A3, A4, A5, (modSeg re k f c n kp l tp le la td kt sh so had gr2 fi se to (p : Int) t d tl at_ sn him ik cu 0 st rm)])) (congrArg (fun q : Int => ((115, [some (.inr 192), some (.inl (O : Int)), some (.inl (cntN p (fun q => decide (net p l q ≠ 0)))), some (.inl (v : Int)), some (.inl (w : Int))], .inl q :: [.inr 208], [A0, A1, A2, A3, A4, A5, (modSeg re k f c n kp l tp le la td kt sh so had gr2 fi se to (p : Int) t d tl at_ sn him ik cu 0 st rm)]) : aF)) (hsn)) ?_
                      refine b_ald (k := 208) (j := (v - w)) (a := gr2) okX8_fewestLoans rfl rfl (by omega) (by omega) (by omega) ?_
                      refine b_cast (f' := (116, [some (.inr 192), some (.inl (O : Int)), some (.inl (cntN p (fun q => decide (net p l q ≠ 0)))), some (.inl (v : Int)), some (.inl (w : Int))], [.inl (g9 : Int)], [A0, A1, A2, A3, A4, A5, (modSeg re k f c n kp l tp le la td kt sh so had gr2 fi se to (p : Int) t d tl at_ sn him ik cu 0 st rm)])) (congrArg (fun q : Int => ((116, [some (.inr 192), some (.inl (O : Int)), some (.inl (cntN p (fun q => decide (net p l q ≠ 0)))), some (.inl (v : Int)), some (.inl (w : Int))], .inl q :: [], [A0, A1, A2, A3, A4, A5, (modSeg re k f c n kp l tp le la td kt sh so had gr2 fi se to (p : Int) t d tl at_ sn him ik cu 0 st rm)]) : aF)) (e9)) ?_
                      refine aGo okX8_fewestLoans 5 (f' := (123, [some (.inr 192), some (.inl (O : Int)), some (.inl (cntN p (fun q => decide (net p l q ≠ 0)))), some (.inl (v : Int)), some (.inl (w : Int))], [.inl (v : Int), .inr 208, .inl ((g9 : Int) + 1)], _)) rfl ?_
                      refine b_ald (k := 208) (j := v) (a := gr2) okX8_fewestLoans rfl rfl (by omega) (by omega) (by omega) ?_
                      refine b_cast (f' := (124, [some (.inr 192), some (.inl (O : Int)), some (.inl (cntN p (fun q => decide (net p l q ≠ 0)))), some (.inl (v : Int)), some (.inl (w : Int))], [.inl (b : Int), .inl ((g9 : Int) + 1)], [A0, A1, A2, A3, A4, A5, (modSeg re k f c n kp l tp le la td kt sh so had gr2 fi se to (p : Int) t d tl at_ sn him ik cu 0 st rm)])) (congrArg (fun q : Int => ((124, [some (.inr 192), some (.inl (O : Int)), some (.inl (cntN p (fun q => decide (net p l q ≠ 0)))), some (.inl (v : Int)), some (.inl (w : Int))], .inl q :: [.inl ((g9 : Int) + 1)], [A0, A1, A2, A3, A4, A5, (modSeg re k f c n kp l tp le la td kt sh so had gr2 fi se to (p : Int) t d tl at_ sn him ik cu 0 st rm)]) : aF)) (y3)) ?_
                      refine b_le (tgt := 146) okX8_fewestLoans rfl rfl ⟨by omega, by omega⟩ ⟨by omega, by omega⟩ (fun h124 => ?_) (fun h124 => ?_)
                      · refine aGo okX8_fewestLoans 5 (f' := (152, [some (.inr 192), some (.inl (O : Int)), some (.inl (cntN p (fun q => decide (net p l q ≠ 0)))), some (.inl (v : Int)), some (.inl (w : Int))], [.inl (aAnd ((w : Int) - 1) (v : Int))], _)) rfl ?_
                        refine b_cast (f' := (152, [some (.inr 192), some (.inl (O : Int)), some (.inl (cntN p (fun q => decide (net p l q ≠ 0)))), some (.inl (v : Int)), some (.inl (w : Int))], [.inl ((((w - 1) &&& v) : Nat) : Int)], [A0, A1, A2, A3, A4, A5, (modSeg re k f c n kp l tp le la td kt sh so had gr2 fi se to (p : Int) t d tl at_ sn him ik cu 0 st rm)])) (congrArg (fun q : Int => ((152, [some (.inr 192), some (.inl (O : Int)), some (.inl (cntN p (fun q => decide (net p l q ≠ 0)))), some (.inl (v : Int)), some (.inl (w : Int))], .inl q :: [], [A0, A1, A2, A3, A4, A5, (modSeg re k f c n kp l tp le la td kt sh so had gr2 fi se to (p : Int) t d tl at_ sn him ik cu 0 st rm)]) : aF)) (hsm.1)) ?_
                        refine aGo okX8_fewestLoans 2 (f' := (91, [some (.inr 192), some (.inl (O : Int)), some (.inl (cntN p (fun q => decide (net p l q ≠ 0)))), some (.inl (v : Int)), some (.inl (((w - 1) &&& v) : Int))], [], _)) rfl ?_
                        refine ih3 ((w - 1) &&& v) gr2 b (by omega) (by omega) hsm.2.1 y1 y2 y3 y4 y5 (fun z z1 z2 z3 z4 z5 g hg => ?_)
                        by_cases zw : w < z
                        · exact y6 z z1 z2 z3 z4 zw g hg
                        · by_cases ze : z = w
                          · subst ze
                            first | exact absurd z4 (by omega) | (have e8 : g = g9 := (by have := hg.symm.trans q1; omega); omega)
                          · have := sm_skip (by omega) (by omega) hwv (by omega) z1 z2 (show z < w by omega); omega
                      · refine aGo okX8_fewestLoans 10 (f' := (142, [some (.inr 192), some (.inl (O : Int)), some (.inl (cntN p (fun q => decide (net p l q ≠ 0)))), some (.inl (v : Int)), some (.inl (w : Int))], [.inl (aAnd (v : Int) (aXor (w : Int) (-1))), .inr 208, .inl (v : Int), .inr 208], _)) rfl ?_
                        refine b_cast (f' := (142, [some (.inr 192), some (.inl (O : Int)), some (.inl (cntN p (fun q => decide (net p l q ≠ 0)))), some (.inl (v : Int)), some (.inl (w : Int))], [.inl (((v - w) : Nat) : Int), .inr 208, .inl (v : Int), .inr 208], [A0, A1, A2, A3, A4, A5, (modSeg re k f c n kp l tp le la td kt sh so had gr2 fi se to (p : Int) t d tl at_ sn him ik cu 0 st rm)])) (congrArg (fun q : Int => ((142, [some (.inr 192), some (.inl (O : Int)), some (.inl (cntN p (fun q => decide (net p l q ≠ 0)))), some (.inl (v : Int)), some (.inl (w : Int))], .inl q :: [.inr 208, .inl (v : Int), .inr 208], [A0, A1, A2, A3, A4, A5, (modSeg re k f c n kp l tp le la td kt sh so had gr2 fi se to (p : Int) t d tl at_ sn him ik cu 0 st rm)]) : aF)) (hsn)) ?_
                        refine b_ald (k := 208) (j := (v - w)) (a := gr2) okX8_fewestLoans rfl rfl (by omega) (by omega) (by omega) ?_
                        refine b_cast (f' := (143, [some (.inr 192), some (.inl (O : Int)), some (.inl (cntN p (fun q => decide (net p l q ≠ 0)))), some (.inl (v : Int)), some (.inl (w : Int))], [.inl (g9 : Int), .inl (v : Int), .inr 208], [A0, A1, A2, A3, A4, A5, (modSeg re k f c n kp l tp le la td kt sh so had gr2 fi se to (p : Int) t d tl at_ sn him ik cu 0 st rm)])) (congrArg (fun q : Int => ((143, [some (.inr 192), some (.inl (O : Int)), some (.inl (cntN p (fun q => decide (net p l q ≠ 0)))), some (.inl (v : Int)), some (.inl (w : Int))], .inl q :: [.inl (v : Int), .inr 208], [A0, A1, A2, A3, A4, A5, (modSeg re k f c n kp l tp le la td kt sh so had gr2 fi se to (p : Int) t d tl at_ sn him ik cu 0 st rm)]) : aF)) (e9)) ?_
                        refine aGo okX8_fewestLoans 2 (f' := (145, [some (.inr 192), some (.inl (O : Int)), some (.inl (cntN p (fun q => decide (net p l q ≠ 0)))), some (.inl (v : Int)), some (.inl (w : Int))], [.inl ((g9 : Int) + 1), .inl (v : Int), .inr 208], _)) rfl ?_
                        refine b_ast (k := 208) (j := v) (a := gr2) okX8_fewestLoans rfl rfl (by omega) (by omega) (by omega) ?_
                        refine b_cast (f' := (146, [some (.inr 192), some (.inl (O : Int)), some (.inl (cntN p (fun q => decide (net p l q ≠ 0)))), some (.inl (v : Int)), some (.inl (w : Int))], [], [A0, A1, A2, A3, A4, A5, (modSeg re k f c n kp l tp le la td kt sh so had (gr2.set v ((g9 : Int) + 1)) fi se to (p : Int) t d tl at_ sn him ik cu 0 st rm)])) rfl ?_
                        refine aGo okX8_fewestLoans 5 (f' := (152, [some (.inr 192), some (.inl (O : Int)), some (.inl (cntN p (fun q => decide (net p l q ≠ 0)))), some (.inl (v : Int)), some (.inl (w : Int))], [.inl (aAnd ((w : Int) - 1) (v : Int))], _)) rfl ?_
                        refine b_cast (f' := (152, [some (.inr 192), some (.inl (O : Int)), some (.inl (cntN p (fun q => decide (net p l q ≠ 0)))), some (.inl (v : Int)), some (.inl (w : Int))], [.inl ((((w - 1) &&& v) : Nat) : Int)], [A0, A1, A2, A3, A4, A5, (modSeg re k f c n kp l tp le la td kt sh so had (gr2.set v ((g9 : Int) + 1)) fi se to (p : Int) t d tl at_ sn him ik cu 0 st rm)])) (congrArg (fun q : Int => ((152, [some (.inr 192), some (.inl (O : Int)), some (.inl (cntN p (fun q => decide (net p l q ≠ 0)))), some (.inl (v : Int)), some (.inl (w : Int))], .inl q :: [], [A0, A1, A2, A3, A4, A5, (modSeg re k f c n kp l tp le la td kt sh so had (gr2.set v ((g9 : Int) + 1)) fi se to (p : Int) t d tl at_ sn him ik cu 0 st rm)]) : aF)) (hsm.1)) ?_
                        refine aGo okX8_fewestLoans 2 (f' := (91, [some (.inr 192), some (.inl (O : Int)), some (.inl (cntN p (fun q => decide (net p l q ≠ 0)))), some (.inl (v : Int)), some (.inl (((w - 1) &&& v) : Int))], [], _)) rfl ?_
                        refine ih3 ((w - 1) &&& v) (gr2.set v ((g9 : Int) + 1)) (g9 + 1) (by omega) (by omega) hsm.2.1 (by rw [List.length_set]; exact y1) (fun y hy => by rw [getD_set_ne hy]; exact y2 y hy) (by rw [getD_set_self (by omega)]; rfl) (by omega) ⟨w, by omega, hwv, by omega, h102, (q3 (sb_trans (sb_minus (by omega) (by omega) hwv) hvO) (by rw [nt_sub hp6 (by omega) (by omega) hwv, hv0, h102]; rfl)).1⟩ (fun z z1 z2 z3 z4 z5 g hg => ?_)
                        by_cases zw : w < z
                        · have := y6 z z1 z2 z3 z4 zw g hg; omega
                        · by_cases ze : z = w
                          · subst ze
                            have : g = g9 := by have := hg.symm.trans q1; omega
                            omega
                          · have := sm_skip (by omega) (by omega) hwv (by omega) z1 z2 (show z < w by omega); omega
              exact lr v v (gr1.set v 0) 0 (Nat.le_refl v) (Nat.le_refl v) (sb_refl v) (by rw [List.length_set]; exact x1) (fun y hy => getD_set_ne hy _) (by rw [getD_set_self (by omega)]; rfl) (Nat.zero_le v) trivial (fun z z1 z2 z3 z4 z5 g hg => by have := (sb_sub v (by omega) z z1 z2).1; omega)
            · refine aGo okX8_fewestLoans 3 (f' := (56, [some (.inr 192), some (.inl (O : Int)), some (.inl (cntN p (fun q => decide (net p l q ≠ 0)))), some (.inl ((v : Int) + 1)), none], [], _)) rfl ?_
              refine b_lose (ls' := [some (.inr 192), some (.inl (O : Int)), some (.inl (cntN p (fun q => decide (net p l q ≠ 0)))), some (.inl ((v : Int) + 1)), none]) (fun _ _ z => z) ?_
              refine ih2 (v + 1) (gr1.set v 0) (by omega) (by rw [List.length_set]; exact x1) (fun y hy => ?_)
              by_cases hyv : y = v
              · subst hyv
                refine ⟨0, by rw [getD_set_self (by omega)]; rfl, by omega, fun k1 k2 => ?_⟩
                exact absurd k2 h82
              · rw [getD_set_ne hyv]; exact x2 y (by omega)
      refine b_cast (f' := (56, [some (.inr 192), some (.inl (O : Int)), some (.inl (cntN p (fun q => decide (net p l q ≠ 0)))), some (.inl 0), none], [], [A0, A1, A2, A3, A4, A5, (modSeg re k f c n kp l tp le la td kt sh so had gr fi se to (p : Int) t d tl at_ sn him ik cu 0 st rm)])) (congrArg (fun q : Int => ((56, [some (.inr 192), some (.inl q), some (.inl (cntN p (fun q => decide (net p l q ≠ 0)))), some (.inl 0), none], [], [A0, A1, A2, A3, A4, A5, (modSeg re k f c n kp l tp le la td kt sh so had gr fi se to (p : Int) t d tl at_ sn him ik cu 0 st rm)]) : aF)) (hOe)) ?_
      exact lq 64 0 gr (by omega) hgr (fun y hy => by omega)
    | succ j ih =>
      intro v  hij 
      have e1 := net_le hp7 rl v
      have e6 := bits_le (p := v) (by omega) (fun q => decide (net p l q ≠ 0))
      refine aGo okX8_fewestLoans 3 (f' := (11, [some (.inr 192), some (.inl (bitsN v (fun q => decide (net p l q ≠ 0)))), some (.inl (cntN v (fun q => decide (net p l q ≠ 0)))), some (.inl (v : Int)), none], [.inl (p : Int), .inl (v : Int)], _)) rfl ?_
      refine b_ge (tgt := 54) okX8_fewestLoans rfl rfl ⟨by omega, by omega⟩ ⟨by omega, by omega⟩ (fun h11 => absurd h11 (by omega)) (fun h11 => ?_)
      refine aGo okX8_fewestLoans 3 (f' := (17, [some (.inr 192), some (.inl (bitsN v (fun q => decide (net p l q ≠ 0)))), some (.inl (cntN v (fun q => decide (net p l q ≠ 0)))), some (.inl (v : Int)), none], [.inl (v : Int), .inr 192, .inl (bitsN v (fun q => decide (net p l q ≠ 0)))], _)) rfl ?_
      refine b_vV (as := [.inl (v : Int)]) (rest := [.inl (bitsN v (fun q => decide (net p l q ≠ 0)))]) (k := 192) (.inl (net p l v)) okX8_fewestLoans rfl lkX8_199 caX8_netOf (Nat.le_of_ble_eq_true rfl) rfl (Nat.le_of_ble_eq_true rfl) rfl rfl rfl (c_mNet0 hp7 hl (i := v) (by omega)) ?_
      refine b0_eq (tgt := 29) okX8_fewestLoans rfl rfl ⟨by omega, by omega⟩ (fun h20 => ?_) (fun h20 => ?_)
      · refine aGo okX8_fewestLoans 6 (f' := (35, [some (.inr 192), some (.inl (aOr (bitsN v (fun q => decide (net p l q ≠ 0))) 0)), some (.inl (cntN v (fun q => decide (net p l q ≠ 0)))), some (.inl (v : Int)), none], [.inl (v : Int), .inr 192, .inl (cntN v (fun q => decide (net p l q ≠ 0)))], _)) rfl ?_
        refine b_vV (as := [.inl (v : Int)]) (rest := [.inl (cntN v (fun q => decide (net p l q ≠ 0)))]) (k := 192) (.inl (net p l v)) okX8_fewestLoans rfl lkX8_199 caX8_netOf (Nat.le_of_ble_eq_true rfl) rfl (Nat.le_of_ble_eq_true rfl) rfl rfl rfl (c_mNet0 hp7 hl (i := v) (by omega)) ?_
        refine b0_eq (tgt := 45) okX8_fewestLoans rfl rfl ⟨by omega, by omega⟩ (fun h38 => ?_) (fun h38 => absurd h38 (by omega))
        refine aGo okX8_fewestLoans 5 (f' := (6, [some (.inr 192), some (.inl (aOr (bitsN v (fun q => decide (net p l q ≠ 0))) 0)), some (.inl ((cntN v (fun q => decide (net p l q ≠ 0))) + 0)), some (.inl ((v : Int) + 1)), none], [], _)) rfl ?_
        refine b_cast (f' := (6, [some (.inr 192), some (.inl (bitsN (v + 1) (fun q => decide (net p l q ≠ 0)))), some (.inl ((cntN v (fun q => decide (net p l q ≠ 0))) + 0)), some (.inl ((v : Int) + 1)), none], [], [A0, A1, A2, A3, A4, A5, (modSeg re k f c n kp l tp le la td kt sh so had gr fi se to (p : Int) t d tl at_ sn him ik cu 0 st rm)])) (congrArg (fun q : Int => ((6, [some (.inr 192), some (.inl q), some (.inl ((cntN v (fun q => decide (net p l q ≠ 0))) + 0)), some (.inl ((v : Int) + 1)), none], [], [A0, A1, A2, A3, A4, A5, (modSeg re k f c n kp l tp le la td kt sh so had gr fi se to (p : Int) t d tl at_ sn him ik cu 0 st rm)]) : aF)) (((aOr_0 ⟨by omega, by omega⟩).trans (bitsN_f (P := (fun q => decide (net p l q ≠ 0))) (decide_eq_false (by omega))).symm))) ?_
        refine b_cast (f' := (6, [some (.inr 192), some (.inl (bitsN (v + 1) (fun q => decide (net p l q ≠ 0)))), some (.inl (cntN (v + 1) (fun q => decide (net p l q ≠ 0)))), some (.inl ((v : Int) + 1)), none], [], [A0, A1, A2, A3, A4, A5, (modSeg re k f c n kp l tp le la td kt sh so had gr fi se to (p : Int) t d tl at_ sn him ik cu 0 st rm)])) (congrArg (fun q : Int => ((6, [some (.inr 192), some (.inl (bitsN (v + 1) (fun q => decide (net p l q ≠ 0)))), some (.inl q), some (.inl ((v : Int) + 1)), none], [], [A0, A1, A2, A3, A4, A5, (modSeg re k f c n kp l tp le la td kt sh so had gr fi se to (p : Int) t d tl at_ sn him ik cu 0 st rm)]) : aF)) ((cntN_f (P := (fun q => decide (net p l q ≠ 0))) (decide_eq_false (by omega))).symm)) ?_
        exact ih (v + 1) (by omega)
      · refine aGo okX8_fewestLoans 9 (f' := (35, [some (.inr 192), some (.inl (aOr (bitsN v (fun q => decide (net p l q ≠ 0))) (aShl 1 (v : Int)))), some (.inl (cntN v (fun q => decide (net p l q ≠ 0)))), some (.inl (v : Int)), none], [.inl (v : Int), .inr 192, .inl (cntN v (fun q => decide (net p l q ≠ 0)))], _)) rfl ?_
        refine b_vV (as := [.inl (v : Int)]) (rest := [.inl (cntN v (fun q => decide (net p l q ≠ 0)))]) (k := 192) (.inl (net p l v)) okX8_fewestLoans rfl lkX8_199 caX8_netOf (Nat.le_of_ble_eq_true rfl) rfl (Nat.le_of_ble_eq_true rfl) rfl rfl rfl (c_mNet0 hp7 hl (i := v) (by omega)) ?_
        refine b0_eq (tgt := 45) okX8_fewestLoans rfl rfl ⟨by omega, by omega⟩ (fun h38 => absurd h38 (by omega)) (fun h38 => ?_)
        refine aGo okX8_fewestLoans 6 (f' := (6, [some (.inr 192), some (.inl (aOr (bitsN v (fun q => decide (net p l q ≠ 0))) (aShl 1 (v : Int)))), some (.inl ((cntN v (fun q => decide (net p l q ≠ 0))) + 1)), some (.inl ((v : Int) + 1)), none], [], _)) rfl ?_
        refine b_cast (f' := (6, [some (.inr 192), some (.inl (bitsN (v + 1) (fun q => decide (net p l q ≠ 0)))), some (.inl ((cntN v (fun q => decide (net p l q ≠ 0))) + 1)), some (.inl ((v : Int) + 1)), none], [], [A0, A1, A2, A3, A4, A5, (modSeg re k f c n kp l tp le la td kt sh so had gr fi se to (p : Int) t d tl at_ sn him ik cu 0 st rm)])) (congrArg (fun q : Int => ((6, [some (.inr 192), some (.inl q), some (.inl ((cntN v (fun q => decide (net p l q ≠ 0))) + 1)), some (.inl ((v : Int) + 1)), none], [], [A0, A1, A2, A3, A4, A5, (modSeg re k f c n kp l tp le la td kt sh so had gr fi se to (p : Int) t d tl at_ sn him ik cu 0 st rm)]) : aF)) ((bitsN_t (P := (fun q => decide (net p l q ≠ 0))) (decide_eq_true (by omega))).symm)) ?_
        refine b_cast (f' := (6, [some (.inr 192), some (.inl (bitsN (v + 1) (fun q => decide (net p l q ≠ 0)))), some (.inl (cntN (v + 1) (fun q => decide (net p l q ≠ 0)))), some (.inl ((v : Int) + 1)), none], [], [A0, A1, A2, A3, A4, A5, (modSeg re k f c n kp l tp le la td kt sh so had gr fi se to (p : Int) t d tl at_ sn him ik cu 0 st rm)])) (congrArg (fun q : Int => ((6, [some (.inr 192), some (.inl (bitsN (v + 1) (fun q => decide (net p l q ≠ 0)))), some (.inl q), some (.inl ((v : Int) + 1)), none], [], [A0, A1, A2, A3, A4, A5, (modSeg re k f c n kp l tp le la td kt sh so had gr fi se to (p : Int) t d tl at_ sn him ik cu 0 st rm)]) : aF)) ((cntN_t (P := (fun q => decide (net p l q ≠ 0))) (decide_eq_true (by omega))).symm)) ?_
        exact ih (v + 1) (by omega)
  refine aGo okX8_fewestLoans 6 (f' := (6, [some (.inr 192), some (.inl 0), some (.inl 0), some (.inl 0), none], [], _)) rfl ?_
  exact lp p 0 (by omega)
end AML
set_option maxRecDepth 100000 in
set_option maxHeartbeats 4000000 in
theorem mk_loans {imt : Int} {tc : Nat} {k f c n kp l : List Int} {p : Nat} {t d : Int} {to re : List Int} {tl : Nat} {tp : List Int} {I : moT} {A0 A1 A2 A3 A4 A5 : List (Option aE)} {h : aH} {N : Nat} (hS : mSt imt tc k f c n kp l p t d to re tl tp I A0 A1 A2 A3 A4 A5 h) {x : Int} (hx : 0 ≤ x ∧ x ≤ 1) : aEv mX8_loans 5 0 0 N [.inr 192, .inl x] h (fun rv h2 => rv = some (.inl (if x = 0 then sumN p (fun i => loansN p l i p) else (p : Int) - dpF p (net p l) (2 ^ p - 1) (2 ^ p - 1))) ∧ mSt imt tc k f c n kp l p t d to re tl tp I A0 A1 A2 A3 A4 A5 h2) := by
  obtain ⟨hp6, hd9, hax, hb, le, la, td, kt, sh, so, had, gr, fi, se, at_, sn, ik, cu, st, hml, him, rfl⟩ := hS
  obtain ⟨htp, rtp, htl9, hto, rto, htc, hre⟩ := id hax
  obtain ⟨hle, hla, htd, hkt, hsh, hso, hha, hgr, hfi, hse⟩ := id hml
  obtain ⟨hp7, hk, hf, hc, hn, hkp, hl, rk, rf, rc, rn, rkp, rl, ht0, ht1, hd0, hd1⟩ := id hb
  refine aEv_of okX8_loans caX8_loans (Nat.le_of_ble_eq_true rfl) ?_
  refine aGo okX8_loans 3 (f' := (3, [some (.inr 192), some (.inl x), none, none], [.inl 1, .inl 0, .inl x], _)) rfl ?_
  refine b_vS (as := [.inl x, .inl 0, .inl 1]) (rest := []) (.inl 1) okX8_loans rfl lkX8_97 caX8_isIn (Nat.le_of_ble_eq_true rfl) rfl (Nat.le_of_ble_eq_true rfl) rfl (c_isIn_t ⟨by omega, by omega⟩ ⟨by omega, by omega⟩ ⟨by omega, by omega⟩ ⟨by omega, by omega⟩) ?_
  refine b0_ne (tgt := 16) okX8_loans rfl rfl ⟨by omega, by omega⟩ (fun h6 => ?_) (fun h6 => absurd h6 (by omega))
  refine aGo okX8_loans 4 (f' := (20, [some (.inr 192), some (.inl x), some (.inl 0), some (.inl 0)], [], _)) rfl ?_
  have lp : ∀ (j v : Nat), v + j = 49 → AW mX8_loans 5 0 0 N none (fun rv h2 => rv = some (.inl (if x = 0 then sumN p (fun i => loansN p l i p) else (p : Int) - dpF p (net p l) (2 ^ p - 1) (2 ^ p - 1))) ∧ mSt imt tc k f c n kp l p t d to re tl tp I A0 A1 A2 A3 A4 A5 h2) (20, [some (.inr 192), some (.inl x), some (.inl (sumN v (fun k => if k / 7 < p ∧ k % 7 < p ∧ 0 < l.getD k 0 then (1 : Int) else 0))), some (.inl (v : Int))], [], [A0, A1, A2, A3, A4, A5, (modSeg re k f c n kp l tp le la td kt sh so had gr fi se to (p : Int) t d (tl : Int) at_ sn imt ik cu 0 st (tc : Int))]) := by
    intro j
    induction j with
    | zero =>
      intro v  hij 
      obtain rfl : 49 = v := by omega
      refine aGo okX8_loans 2 (f' := (23, [some (.inr 192), some (.inl x), some (.inl (sumN 49 (fun k => if k / 7 < p ∧ k % 7 < p ∧ 0 < l.getD k 0 then (1 : Int) else 0))), some (.inl (49 : Int))], [.inl 49, .inl (49 : Int)], _)) rfl ?_
      refine b_ge (tgt := 71) okX8_loans rfl rfl ⟨by omega, by omega⟩ ⟨by omega, by omega⟩ (fun h23 => ?_) (fun h23 => absurd h23 (by omega))
      refine aGo okX8_loans 1 (f' := (72, [some (.inr 192), some (.inl x), some (.inl (sumN 49 (fun k => if k / 7 < p ∧ k % 7 < p ∧ 0 < l.getD k 0 then (1 : Int) else 0))), some (.inl (49 : Int))], [.inl x], _)) rfl ?_
      refine b0_ne (tgt := 79) okX8_loans rfl rfl ⟨by omega, by omega⟩ (fun h72 => ?_) (fun h72 => ?_)
      · refine aGo okX8_loans 1 (f' := (80, [some (.inr 192), some (.inl x), some (.inl (sumN 49 (fun k => if k / 7 < p ∧ k % 7 < p ∧ 0 < l.getD k 0 then (1 : Int) else 0))), some (.inl (49 : Int))], [.inr 192], _)) rfl ?_
        refine b_vE (as := []) (rest := []) (k := 192) okX8_loans rfl lkX8_253 caX8_fewestLoans (Nat.le_of_ble_eq_true rfl) rfl (Nat.le_of_ble_eq_true rfl) rfl rfl rfl (c_mFewest hb hp6 hgr) ?_
        rintro _ _ ⟨rfl, gr2, lgr2, rfl⟩
        exact b_ret (v := (some (.inl ((p : Int) - dpF p (net p l) (2 ^ p - 1) (2 ^ p - 1))))) ⟨rfl, Or.inl rfl⟩ ⟨congrArg (fun q : Int => (some (.inl q) : Option aV)) ((if_neg (by omega)).symm), mSt_of hp6 hd9 hax (hb) ⟨hle, hla, htd, hkt, hsh, hso, hha, lgr2, hfi, hse⟩ (him)⟩ rfl
      · refine aGo okX8_loans 2 (f' := (83, [some (.inr 192), some (.inl x), some (.inl (sumN 49 (fun k => if k / 7 < p ∧ k % 7 < p ∧ 0 < l.getD k 0 then (1 : Int) else 0))), some (.inl (49 : Int))], [.inl (sumN 49 (fun k => if k / 7 < p ∧ k % 7 < p ∧ 0 < l.getD k 0 then (1 : Int) else 0))], _)) rfl ?_
        exact b_ret (v := (some (.inl (sumN 49 (fun k => if k / 7 < p ∧ k % 7 < p ∧ 0 < l.getD k 0 then (1 : Int) else 0))))) ⟨rfl, Or.inl rfl⟩ ⟨congrArg (fun q : Int => (some (.inl q) : Option aV)) ((loans_sum hp7).trans (if_pos (by omega)).symm), mSt_of hp6 hd9 hax (hb) hml (him)⟩ rfl
    | succ j ih =>
      intro v  hij 
      have e1 := rl v
      refine aGo okX8_loans 2 (f' := (23, [some (.inr 192), some (.inl x), some (.inl (sumN v (fun k => if k / 7 < p ∧ k % 7 < p ∧ 0 < l.getD k 0 then (1 : Int) else 0))), some (.inl (v : Int))], [.inl 49, .inl (v : Int)], _)) rfl ?_
      refine b_ge (tgt := 71) okX8_loans rfl rfl ⟨by omega, by omega⟩ ⟨by omega, by omega⟩ (fun h23 => absurd h23 (by omega)) (fun h23 => ?_)
      refine aGo okX8_loans 3 (f' := (30, [some (.inr 192), some (.inl x), some (.inl (sumN v (fun k => if k / 7 < p ∧ k % 7 < p ∧ 0 < l.getD k 0 then (1 : Int) else 0))), some (.inl (v : Int))], [.inl 7, .inl (v : Int), .inl (sumN v (fun k => if k / 7 < p ∧ k % 7 < p ∧ 0 < l.getD k 0 then (1 : Int) else 0))], _)) rfl ?_
      refine b_div okX8_loans rfl ⟨by omega, by omega⟩ ⟨by omega, by omega⟩ ?_
      refine aGo okX8_loans 2 (f' := (35, [some (.inr 192), some (.inl x), some (.inl (sumN v (fun k => if k / 7 < p ∧ k % 7 < p ∧ 0 < l.getD k 0 then (1 : Int) else 0))), some (.inl (v : Int))], [.inl (p : Int), .inl ((v : Int) / 7), .inl (sumN v (fun k => if k / 7 < p ∧ k % 7 < p ∧ 0 < l.getD k 0 then (1 : Int) else 0))], _)) rfl ?_
      refine b_ge (tgt := 62) okX8_loans rfl rfl ⟨by omega, by omega⟩ ⟨by omega, by omega⟩ (fun h35 => ?_) (fun h35 => ?_)
      · refine aGo okX8_loans 5 (f' := (20, [some (.inr 192), some (.inl x), some (.inl ((sumN v (fun k => if k / 7 < p ∧ k % 7 < p ∧ 0 < l.getD k 0 then (1 : Int) else 0)) + 0)), some (.inl ((v : Int) + 1))], [], _)) rfl ?_
        refine b_cast (f' := (20, [some (.inr 192), some (.inl x), some (.inl (sumN (v + 1) (fun k => if k / 7 < p ∧ k % 7 < p ∧ 0 < l.getD k 0 then (1 : Int) else 0))), some (.inl ((v : Int) + 1))], [], [A0, A1, A2, A3, A4, A5, (modSeg re k f c n kp l tp le la td kt sh so had gr fi se to (p : Int) t d (tl : Int) at_ sn imt ik cu 0 st (tc : Int))])) (congrArg (fun q : Int => ((20, [some (.inr 192), some (.inl x), some (.inl q), some (.inl ((v : Int) + 1))], [], [A0, A1, A2, A3, A4, A5, (modSeg re k f c n kp l tp le la td kt sh so had gr fi se to (p : Int) t d (tl : Int) at_ sn imt ik cu 0 st (tc : Int))]) : aF)) ((by show _ = sumN v (fun k => if k / 7 < p ∧ k % 7 < p ∧ 0 < l.getD k 0 then (1 : Int) else 0) + (if v / 7 < p ∧ v % 7 < p ∧ 0 < l.getD v 0 then (1 : Int) else 0); rw [if_neg (by omega)]))) ?_
        exact ih (v + 1) (by omega)
      · refine aGo okX8_loans 2 (f' := (41, [some (.inr 192), some (.inl x), some (.inl (sumN v (fun k => if k / 7 < p ∧ k % 7 < p ∧ 0 < l.getD k 0 then (1 : Int) else 0))), some (.inl (v : Int))], [.inl 7, .inl (v : Int), .inl (sumN v (fun k => if k / 7 < p ∧ k % 7 < p ∧ 0 < l.getD k 0 then (1 : Int) else 0))], _)) rfl ?_
        refine b_rem okX8_loans rfl ⟨by omega, by omega⟩ ⟨by omega, by omega⟩ ?_
        refine aGo okX8_loans 2 (f' := (46, [some (.inr 192), some (.inl x), some (.inl (sumN v (fun k => if k / 7 < p ∧ k % 7 < p ∧ 0 < l.getD k 0 then (1 : Int) else 0))), some (.inl (v : Int))], [.inl (p : Int), .inl ((v : Int) % 7), .inl (sumN v (fun k => if k / 7 < p ∧ k % 7 < p ∧ 0 < l.getD k 0 then (1 : Int) else 0))], _)) rfl ?_
        refine b_ge (tgt := 62) okX8_loans rfl rfl ⟨by omega, by omega⟩ ⟨by omega, by omega⟩ (fun h46 => ?_) (fun h46 => ?_)
        · refine aGo okX8_loans 5 (f' := (20, [some (.inr 192), some (.inl x), some (.inl ((sumN v (fun k => if k / 7 < p ∧ k % 7 < p ∧ 0 < l.getD k 0 then (1 : Int) else 0)) + 0)), some (.inl ((v : Int) + 1))], [], _)) rfl ?_
          refine b_cast (f' := (20, [some (.inr 192), some (.inl x), some (.inl (sumN (v + 1) (fun k => if k / 7 < p ∧ k % 7 < p ∧ 0 < l.getD k 0 then (1 : Int) else 0))), some (.inl ((v : Int) + 1))], [], [A0, A1, A2, A3, A4, A5, (modSeg re k f c n kp l tp le la td kt sh so had gr fi se to (p : Int) t d (tl : Int) at_ sn imt ik cu 0 st (tc : Int))])) (congrArg (fun q : Int => ((20, [some (.inr 192), some (.inl x), some (.inl q), some (.inl ((v : Int) + 1))], [], [A0, A1, A2, A3, A4, A5, (modSeg re k f c n kp l tp le la td kt sh so had gr fi se to (p : Int) t d (tl : Int) at_ sn imt ik cu 0 st (tc : Int))]) : aF)) ((by show _ = sumN v (fun k => if k / 7 < p ∧ k % 7 < p ∧ 0 < l.getD k 0 then (1 : Int) else 0) + (if v / 7 < p ∧ v % 7 < p ∧ 0 < l.getD v 0 then (1 : Int) else 0); rw [if_neg (by omega)]))) ?_
          exact ih (v + 1) (by omega)
        · refine aGo okX8_loans 3 (f' := (54, [some (.inr 192), some (.inl x), some (.inl (sumN v (fun k => if k / 7 < p ∧ k % 7 < p ∧ 0 < l.getD k 0 then (1 : Int) else 0))), some (.inl (v : Int))], [.inl (v : Int), .inr 199, .inl (sumN v (fun k => if k / 7 < p ∧ k % 7 < p ∧ 0 < l.getD k 0 then (1 : Int) else 0))], _)) rfl ?_
          refine b_ald (k := 199) (j := v) (a := l) okX8_loans rfl rfl (by omega) (by omega) (by omega) ?_
          refine b0_le (tgt := 62) okX8_loans rfl rfl ⟨by omega, by omega⟩ (fun h55 => ?_) (fun h55 => ?_)
          · refine aGo okX8_loans 5 (f' := (20, [some (.inr 192), some (.inl x), some (.inl ((sumN v (fun k => if k / 7 < p ∧ k % 7 < p ∧ 0 < l.getD k 0 then (1 : Int) else 0)) + 0)), some (.inl ((v : Int) + 1))], [], _)) rfl ?_
            refine b_cast (f' := (20, [some (.inr 192), some (.inl x), some (.inl (sumN (v + 1) (fun k => if k / 7 < p ∧ k % 7 < p ∧ 0 < l.getD k 0 then (1 : Int) else 0))), some (.inl ((v : Int) + 1))], [], [A0, A1, A2, A3, A4, A5, (modSeg re k f c n kp l tp le la td kt sh so had gr fi se to (p : Int) t d (tl : Int) at_ sn imt ik cu 0 st (tc : Int))])) (congrArg (fun q : Int => ((20, [some (.inr 192), some (.inl x), some (.inl q), some (.inl ((v : Int) + 1))], [], [A0, A1, A2, A3, A4, A5, (modSeg re k f c n kp l tp le la td kt sh so had gr fi se to (p : Int) t d (tl : Int) at_ sn imt ik cu 0 st (tc : Int))]) : aF)) ((by show _ = sumN v (fun k => if k / 7 < p ∧ k % 7 < p ∧ 0 < l.getD k 0 then (1 : Int) else 0) + (if v / 7 < p ∧ v % 7 < p ∧ 0 < l.getD v 0 then (1 : Int) else 0); rw [if_neg (by omega)]))) ?_
            exact ih (v + 1) (by omega)
          · refine aGo okX8_loans 6 (f' := (20, [some (.inr 192), some (.inl x), some (.inl ((sumN v (fun k => if k / 7 < p ∧ k % 7 < p ∧ 0 < l.getD k 0 then (1 : Int) else 0)) + 1)), some (.inl ((v : Int) + 1))], [], _)) rfl ?_
            refine b_cast (f' := (20, [some (.inr 192), some (.inl x), some (.inl (sumN (v + 1) (fun k => if k / 7 < p ∧ k % 7 < p ∧ 0 < l.getD k 0 then (1 : Int) else 0))), some (.inl ((v : Int) + 1))], [], [A0, A1, A2, A3, A4, A5, (modSeg re k f c n kp l tp le la td kt sh so had gr fi se to (p : Int) t d (tl : Int) at_ sn imt ik cu 0 st (tc : Int))])) (congrArg (fun q : Int => ((20, [some (.inr 192), some (.inl x), some (.inl q), some (.inl ((v : Int) + 1))], [], [A0, A1, A2, A3, A4, A5, (modSeg re k f c n kp l tp le la td kt sh so had gr fi se to (p : Int) t d (tl : Int) at_ sn imt ik cu 0 st (tc : Int))]) : aF)) ((by show _ = sumN v (fun k => if k / 7 < p ∧ k % 7 < p ∧ 0 < l.getD k 0 then (1 : Int) else 0) + (if v / 7 < p ∧ v % 7 < p ∧ 0 < l.getD v 0 then (1 : Int) else 0); rw [if_pos (by omega)]))) ?_
            exact ih (v + 1) (by omega)
  exact lp 49 0 (by omega)
