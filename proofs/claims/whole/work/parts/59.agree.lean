/-! Class and model answer alike; laid by gen_agree.py -/
/-- the class and the model stand at the same state -/
def LI (h : aH) : Prop := ∃ (imt : Int) (tc : Nat) (k f c n kp l : List Int) (p : Nat) (t d : Int) (to re : List Int) (tl : Nat) (tp : List Int) (I : moT) (A0 A1 A2 A3 A4 A5 C6 : List (Option aE)), cSt imt tc k f c n kp l p t d to re tl tp I C6 h ∧ mSt imt tc k f c n kp l p t d to re tl tp I A0 A1 A2 A3 A4 A5 h
def AGR (Mc Mm : aM) (dc dm N : Nat) (as : List aV) (h : aH) : Prop := ∃ (V : Int) (Q1 : aH → Prop), aEv Mc dc 0 0 N (.inr 0 :: as) h (fun rv h2 => rv = some (.inl V) ∧ Q1 h2) ∧ (∃ fs, aGet h 0 = some (.inr (7, fs))) ∧ ∀ h2, Q1 h2 → (∃ fs, aGet h2 192 = some (.inr (8, fs))) ∧ aEv Mm dm 0 0 N (.inr 192 :: as) h2 (fun rv h3 => rv = some (.inl V) ∧ LI h3)
theorem cSt_at {imt : Int} {tc : Nat} {k f c n kp l : List Int} {p : Nat} {t d : Int} {to re : List Int} {tl : Nat} {tp : List Int} {I : moT} {C6 : List (Option aE)} {h : aH} (hS : cSt imt tc k f c n kp l p t d to re tl tp I C6 h) : ∃ fs, aGet h 0 = some (.inr (7, fs)) := by
  obtain ⟨_, _, _, nt, w, sh, wa, B, z, fs, ss, sp, la, gr, B4, _, _, _, _, _, rfl⟩ := hS
  exact ⟨_, rfl⟩
theorem mSt_at {imt : Int} {tc : Nat} {k f c n kp l : List Int} {p : Nat} {t d : Int} {to re : List Int} {tl : Nat} {tp : List Int} {I : moT} {A0 A1 A2 A3 A4 A5 : List (Option aE)} {h : aH} (hS : mSt imt tc k f c n kp l p t d to re tl tp I A0 A1 A2 A3 A4 A5 h) : ∃ fs, aGet h 192 = some (.inr (8, fs)) := by
  obtain ⟨_, _, _, _, le, la, td, kt, sh, so, had, gr, fi, se, at_, sn, ik, cu, st, _, _, rfl⟩ := hS
  exact ⟨_, rfl⟩
/-- the model's state, over what the class has done -/
theorem m_move {imt : Int} {tc : Nat} {k f c n kp l : List Int} {p : Nat} {t d : Int} {to re : List Int} {tl : Nat} {tp : List Int} {I : moT} {C6 : List (Option aE)} {h h2 : aH} {A0 A1 A2 A3 A4 A5 : List (Option aE)}
    {imt' imt2 : Int} {tc' tc2 : Nat} {k' f' c' n' kp' l' k2 f2 c2 n2 kp2 l2 : List Int} {p' p2 : Nat} {t' d' t2 d2 : Int} {to' re' to2 re2 : List Int} {tl' tl2 : Nat} {tp' tp2 : List Int} {I' I2 : moT}
    (hc : cSt imt' tc' k' f' c' n' kp' l' p' t' d' to' re' tl' tp' I' C6 h) (hm : mSt imt tc k f c n kp l p t d to re tl tp I A0 A1 A2 A3 A4 A5 h) (hc2 : cSt imt2 tc2 k2 f2 c2 n2 kp2 l2 p2 t2 d2 to2 re2 tl2 tp2 I2 C6 h2) : ∃ B0 B1 B2 B3 B4 B5, mSt imt tc k f c n kp l p t d to re tl tp I B0 B1 B2 B3 B4 B5 h2 := by
  obtain ⟨_, _, _, _, _, _, _, _, _, _, _, _, _, _, _, _, _, _, _, _, e1⟩ := hc
  obtain ⟨m1, m2, m3, m4, le, la, td, kt, sh, so, had, gr, fi, se, at_, sn, ik, cu, st, m5, m6, e2⟩ := hm
  obtain ⟨_, _, _, _, _, _, _, _, _, _, _, _, _, _, _, _, _, _, _, _, e3⟩ := hc2
  have e4 : C6 = modSeg re k f c n kp l tp le la td kt sh so had gr fi se to (p : Int) t d (tl : Int) at_ sn imt ik cu 0 st (tc : Int) := by
    have := e1.symm.trans e2
    simp only [List.cons.injEq] at this
    exact this.2.2.2.2.2.2.1
  rw [e4] at e3
  exact ⟨_, _, _, _, _, _, m1, m2, m3, m4, le, la, td, kt, sh, so, had, gr, fi, se, at_, sn, ik, cu, st, m5, m6, e3⟩
/-- the class's state, over what the model has done -/
theorem c_move {imt : Int} {tc : Nat} {k f c n kp l : List Int} {p : Nat} {t d : Int} {to re : List Int} {tl : Nat} {tp : List Int} {I : moT} {C6 : List (Option aE)} {h h2 : aH} {A0 A1 A2 A3 A4 A5 : List (Option aE)}
    {imt' imt2 : Int} {tc' tc2 : Nat} {k' f' c' n' kp' l' k2 f2 c2 n2 kp2 l2 : List Int} {p' p2 : Nat} {t' d' t2 d2 : Int} {to' re' to2 re2 : List Int} {tl' tl2 : Nat} {tp' tp2 : List Int} {I' I2 : moT}
    (hc : cSt imt tc k f c n kp l p t d to re tl tp I C6 h) (hm : mSt imt' tc' k' f' c' n' kp' l' p' t' d' to' re' tl' tp' I' A0 A1 A2 A3 A4 A5 h) (hm2 : mSt imt2 tc2 k2 f2 c2 n2 kp2 l2 p2 t2 d2 to2 re2 tl2 tp2 I2 A0 A1 A2 A3 A4 A5 h2) : ∃ C, cSt imt tc k f c n kp l p t d to re tl tp I C h2 := by
  obtain ⟨m1, m2, m3, nt, w, sh, wa, B, z, fs, ss, sp, la, gr, B4, m4, m5, m6, m7, m8, e1⟩ := hc
  obtain ⟨_, _, _, _, _, _, _, _, _, _, _, _, _, _, _, _, _, _, _, _, _, e2⟩ := hm
  obtain ⟨_, _, _, _, _, _, _, _, _, _, _, _, _, _, _, _, _, _, _, _, _, e3⟩ := hm2
  have e4 := e1.symm.trans e2
  simp only [List.cons.injEq] at e4
  obtain ⟨q0, q1, q2, q3, q4, q5, -⟩ := e4
  rw [← q0, ← q1, ← q2, ← q3, ← q4, ← q5] at e3
  exact ⟨_, m1, m2, m3, nt, w, sh, wa, B, z, fs, ss, sp, la, gr, B4, m4, m5, m6, m7, m8, e3⟩
theorem ag_of {Mc Mm : aM} {dc dm N : Nat} {as : List aV} {V : Int} {imt : Int} {tc : Nat} {k f c n kp l : List Int} {p : Nat} {t d : Int} {to re : List Int} {tl : Nat} {tp : List Int} {I : moT} {C6 : List (Option aE)} {h : aH} {A0 A1 A2 A3 A4 A5 : List (Option aE)}
    {imt2 : Int} {tc2 : Nat} {k2 f2 c2 n2 kp2 l2 : List Int} {p2 : Nat} {t2 d2 : Int} {to2 re2 : List Int} {tl2 : Nat} {tp2 : List Int} {I2 : moT}
    (hc : cSt imt tc k f c n kp l p t d to re tl tp I C6 h) (hm : mSt imt tc k f c n kp l p t d to re tl tp I A0 A1 A2 A3 A4 A5 h)
    (e1 : aEv Mc dc 0 0 N (.inr 0 :: as) h (fun rv h2 => rv = some (.inl V) ∧ cSt imt2 tc2 k2 f2 c2 n2 kp2 l2 p2 t2 d2 to2 re2 tl2 tp2 I2 C6 h2))
    (e2 : ∀ B0 B1 B2 B3 B4 B5 h2, mSt imt tc k f c n kp l p t d to re tl tp I B0 B1 B2 B3 B4 B5 h2 → aEv Mm dm 0 0 N (.inr 192 :: as) h2 (fun rv h3 => rv = some (.inl V) ∧ mSt imt2 tc2 k2 f2 c2 n2 kp2 l2 p2 t2 d2 to2 re2 tl2 tp2 I2 B0 B1 B2 B3 B4 B5 h3)) : AGR Mc Mm dc dm N as h := by
  refine ⟨V, _, e1, cSt_at hc, fun h2 hc2 => ?_⟩
  obtain ⟨B0, B1, B2, B3, B4, B5, hm2⟩ := m_move hc hm hc2
  refine ⟨mSt_at hm2, aEv_mono (e2 B0 B1 B2 B3 B4 B5 h2 hm2) (fun v h3 z => ⟨z.1, ?_⟩)⟩
  obtain ⟨C, hc3⟩ := c_move hc2 hm2 z.2
  exact ⟨_, _, _, _, _, _, _, _, _, _, _, _, _, _, _, _, _, _, _, _, _, _, _, hc3, z.2⟩
theorem aI_of (z : Int32) : aI z.toInt := ⟨Int32.le_toInt z, by have := Int32.toInt_lt z; omega⟩
theorem ag_letter (N : Nat) (qx : Int32) (h : aH) (hL : LI h) : AGR mX7_letter mX8_letter 2 1 N [.inl qx.toInt] h := by
  obtain ⟨imt, tc, k, f, c, n, kp, l, p, t, d, to, re, tl, tp, I, A0, A1, A2, A3, A4, A5, C6, hc, hm⟩ := hL
  have hx := aI_of qx
  generalize qx.toInt = x at hx ⊢
  by_cases hw0 : (wy_letter tl x) = 0
  · have hw1 := hw0
    unfold wy_letter at hw1
    have a0 : ¬ (x < 0) := fun q => by rw [if_pos q] at hw1; exact absurd hw1 (by decide)
    rw [if_neg a0] at hw1
    have a1 : ¬ (255 < x ∨ 96 ≤ (tl : Int)) := fun q => by rw [if_pos q] at hw1; exact absurd hw1 (by decide)
    rw [if_neg a1] at hw1
    exact ag_of hc hm (k_letter hc (by omega) (by omega)) (fun _ _ _ _ _ _ _ hm2 => mk_letter hm2 (by omega) (by omega))
  · exact ag_of hc hm (r_letter hc hx hw0) (fun _ _ _ _ _ _ _ hm2 => mr_letter hm2 hx hw0)
theorem ag_moor (N : Nat) (h : aH) (hL : LI h) : AGR mX7_moor mX8_moor 10 9 N [] h := by
  obtain ⟨imt, tc, k, f, c, n, kp, l, p, t, d, to, re, tl, tp, I, A0, A1, A2, A3, A4, A5, C6, hc, hm⟩ := hL
  exact ag_of hc hm (k_moor hc) (fun _ _ _ _ _ _ _ hm2 => mk_moor hm2)
theorem ag_person (N : Nat) (qx : Int32) (qy : Int32) (h : aH) (hL : LI h) : AGR mX7_person mX8_person 2 6 N [.inl qx.toInt, .inl qy.toInt] h := by
  obtain ⟨imt, tc, k, f, c, n, kp, l, p, t, d, to, re, tl, tp, I, A0, A1, A2, A3, A4, A5, C6, hc, hm⟩ := hL
  have hx := aI_of qx
  generalize qx.toInt = x at hx ⊢
  have hy := aI_of qy
  generalize qy.toInt = y at hy ⊢
  by_cases hw0 : (wy_person p x y) = 0
  · have hw1 := hw0
    unfold wy_person at hw1
    have a0 : ¬ (¬ (0 ≤ x ∧ x < (p : Int))) := fun q => by rw [if_pos q] at hw1; exact absurd hw1 (by decide)
    rw [if_neg a0] at hw1
    have a1 : ¬ (¬ (0 ≤ y ∧ y ≤ 6)) := fun q => by rw [if_pos q] at hw1; exact absurd hw1 (by decide)
    rw [if_neg a1] at hw1
    obtain ⟨i9, ei9⟩ : ∃ i9 : Nat, x = (i9 : Int) := ⟨x.toNat, by omega⟩
    subst ei9
    exact ag_of hc hm (k_person hc (by omega) (by omega)) (fun _ _ _ _ _ _ _ hm2 => mk_person hm2 (by omega) (by omega))
  · exact ag_of hc hm (r_person hc hx hy hw0) (fun _ _ _ _ _ _ _ hm2 => mr_person hm2 hx hy hw0)
theorem ag_owns (N : Nat) (qx : Int32) (h : aH) (hL : LI h) : AGR mX7_owns mX8_owns 3 6 N [.inl qx.toInt] h := by
  obtain ⟨imt, tc, k, f, c, n, kp, l, p, t, d, to, re, tl, tp, I, A0, A1, A2, A3, A4, A5, C6, hc, hm⟩ := hL
  have hx := aI_of qx
  generalize qx.toInt = x at hx ⊢
  by_cases hw0 : (wy_owns p x) = 0
  · have hw1 := hw0
    unfold wy_owns at hw1
    have a0 : ¬ (¬ (0 ≤ x ∧ x < (p : Int))) := fun q => by rw [if_pos q] at hw1; exact absurd hw1 (by decide)
    rw [if_neg a0] at hw1
    obtain ⟨i9, ei9⟩ : ∃ i9 : Nat, x = (i9 : Int) := ⟨x.toNat, by omega⟩
    subst ei9
    exact ag_of hc hm (k_owns hc (by omega)) (fun _ _ _ _ _ _ _ hm2 => mk_owns hm2 (by omega))
  · exact ag_of hc hm (r_owns hc hx hw0) (fun _ _ _ _ _ _ _ hm2 => mr_owns hm2 hx hw0)
theorem ag_loan (N : Nat) (qx : Int32) (qy : Int32) (h : aH) (hL : LI h) : AGR mX7_loan mX8_loan 2 2 N [.inl qx.toInt, .inl qy.toInt] h := by
  obtain ⟨imt, tc, k, f, c, n, kp, l, p, t, d, to, re, tl, tp, I, A0, A1, A2, A3, A4, A5, C6, hc, hm⟩ := hL
  have hx := aI_of qx
  generalize qx.toInt = x at hx ⊢
  have hy := aI_of qy
  generalize qy.toInt = y at hy ⊢
  by_cases hw0 : (wy_loan p x y) = 0
  · have hw1 := hw0
    unfold wy_loan at hw1
    have a0 : ¬ (¬ (0 ≤ x ∧ x < (p : Int) ∧ 0 ≤ y ∧ y < (p : Int) ∧ x ≠ y)) := fun q => by rw [if_pos q] at hw1; exact absurd hw1 (by decide)
    rw [if_neg a0] at hw1
    obtain ⟨i9, ei9⟩ : ∃ i9 : Nat, x = (i9 : Int) := ⟨x.toNat, by omega⟩
    subst ei9
    obtain ⟨j9, ej9⟩ : ∃ j9 : Nat, y = (j9 : Int) := ⟨y.toNat, by omega⟩
    subst ej9
    exact ag_of hc hm (k_loan hc (by omega) (by omega) (by omega)) (fun _ _ _ _ _ _ _ hm2 => mk_loan hm2 (by omega) (by omega) (by omega))
  · exact ag_of hc hm (r_loan hc hx hy hw0) (fun _ _ _ _ _ _ _ hm2 => mr_loan hm2 hx hy hw0)
theorem ag_go (N : Nat) (qx : Int32) (qy : Int32) (h : aH) (hL : LI h) : AGR mX7_go mX8_go 5 1 N [.inl qx.toInt, .inl qy.toInt] h := by
  obtain ⟨imt, tc, k, f, c, n, kp, l, p, t, d, to, re, tl, tp, I, A0, A1, A2, A3, A4, A5, C6, hc, hm⟩ := hL
  have hx := aI_of qx
  generalize qx.toInt = x at hx ⊢
  have hy := aI_of qy
  generalize qy.toInt = y at hy ⊢
  by_cases hw0 : (wy_go p x y) = 0
  · have hw1 := hw0
    unfold wy_go at hw1
    have a0 : ¬ (¬ (0 ≤ x ∧ x < (p : Int) ∧ 0 ≤ y ∧ y ≤ 35)) := fun q => by rw [if_pos q] at hw1; exact absurd hw1 (by decide)
    rw [if_neg a0] at hw1
    obtain ⟨i9, ei9⟩ : ∃ i9 : Nat, x = (i9 : Int) := ⟨x.toNat, by omega⟩
    subst ei9
    exact ag_of hc hm (k_go hc (by omega) (by omega)) (fun _ _ _ _ _ _ _ hm2 => mk_go hm2 (by omega) (by omega))
  · exact ag_of hc hm (r_go hc hx hy hw0) (fun _ _ _ _ _ _ _ hm2 => mr_go hm2 hx hy hw0)
theorem ag_lend (N : Nat) (qx : Int32) (qy : Int32) (qz : Int32) (h : aH) (hL : LI h) : AGR mX7_lend mX8_lend 4 2 N [.inl qx.toInt, .inl qy.toInt, .inl qz.toInt] h := by
  obtain ⟨imt, tc, k, f, c, n, kp, l, p, t, d, to, re, tl, tp, I, A0, A1, A2, A3, A4, A5, C6, hc, hm⟩ := hL
  have hx := aI_of qx
  generalize qx.toInt = x at hx ⊢
  have hy := aI_of qy
  generalize qy.toInt = y at hy ⊢
  have hz := aI_of qz
  generalize qz.toInt = z at hz ⊢
  by_cases hw0 : (wy_lend p x y z) = 0
  · have hw1 := hw0
    unfold wy_lend at hw1
    have a0 : ¬ (¬ (0 ≤ x ∧ x < (p : Int) ∧ 0 ≤ y ∧ y < (p : Int) ∧ x ≠ y)) := fun q => by rw [if_pos q] at hw1; exact absurd hw1 (by decide)
    rw [if_neg a0] at hw1
    have a1 : ¬ (z < 0) := fun q => by rw [if_pos q] at hw1; exact absurd hw1 (by decide)
    rw [if_neg a1] at hw1
    have a2 : ¬ (99 < z) := fun q => by rw [if_pos q] at hw1; exact absurd hw1 (by decide)
    rw [if_neg a2] at hw1
    obtain ⟨i9, ei9⟩ : ∃ i9 : Nat, x = (i9 : Int) := ⟨x.toNat, by omega⟩
    subst ei9
    obtain ⟨j9, ej9⟩ : ∃ j9 : Nat, y = (j9 : Int) := ⟨y.toNat, by omega⟩
    subst ej9
    exact ag_of hc hm (k_lend hc (by omega) (by omega) (by omega) (by omega)) (fun _ _ _ _ _ _ _ hm2 => mk_lend hm2 (by omega) (by omega) (by omega) (by omega))
  · exact ag_of hc hm (r_lend hc hx hy hz hw0) (fun _ _ _ _ _ _ _ hm2 => mr_lend hm2 hx hy hz hw0)
theorem ag_keep (N : Nat) (qx : Int32) (qy : Int32) (h : aH) (hL : LI h) : AGR mX7_keep mX8_keep 2 1 N [.inl qx.toInt, .inl qy.toInt] h := by
  obtain ⟨imt, tc, k, f, c, n, kp, l, p, t, d, to, re, tl, tp, I, A0, A1, A2, A3, A4, A5, C6, hc, hm⟩ := hL
  have hx := aI_of qx
  generalize qx.toInt = x at hx ⊢
  have hy := aI_of qy
  generalize qy.toInt = y at hy ⊢
  by_cases hw0 : (wy_keep p x y) = 0
  · have hw1 := hw0
    unfold wy_keep at hw1
    have a0 : ¬ (¬ (0 ≤ x ∧ x < (p : Int))) := fun q => by rw [if_pos q] at hw1; exact absurd hw1 (by decide)
    rw [if_neg a0] at hw1
    have a1 : ¬ (y < 0) := fun q => by rw [if_pos q] at hw1; exact absurd hw1 (by decide)
    rw [if_neg a1] at hw1
    have a2 : ¬ (9999 < y) := fun q => by rw [if_pos q] at hw1; exact absurd hw1 (by decide)
    rw [if_neg a2] at hw1
    obtain ⟨i9, ei9⟩ : ∃ i9 : Nat, x = (i9 : Int) := ⟨x.toNat, by omega⟩
    subst ei9
    exact ag_of hc hm (k_keep hc (by omega) (by omega)) (fun _ _ _ _ _ _ _ hm2 => mk_keep hm2 (by omega) (by omega))
  · exact ag_of hc hm (r_keep hc hx hy hw0) (fun _ _ _ _ _ _ _ hm2 => mr_keep hm2 hx hy hw0)
theorem ag_need (N : Nat) (qx : Int32) (qy : Int32) (h : aH) (hL : LI h) : AGR mX7_need mX8_need 2 1 N [.inl qx.toInt, .inl qy.toInt] h := by
  obtain ⟨imt, tc, k, f, c, n, kp, l, p, t, d, to, re, tl, tp, I, A0, A1, A2, A3, A4, A5, C6, hc, hm⟩ := hL
  have hx := aI_of qx
  generalize qx.toInt = x at hx ⊢
  have hy := aI_of qy
  generalize qy.toInt = y at hy ⊢
  by_cases hw0 : (wy_need p x y) = 0
  · have hw1 := hw0
    unfold wy_need at hw1
    have a0 : ¬ (¬ (0 ≤ x ∧ x < (p : Int))) := fun q => by rw [if_pos q] at hw1; exact absurd hw1 (by decide)
    rw [if_neg a0] at hw1
    have a1 : ¬ (y < 0) := fun q => by rw [if_pos q] at hw1; exact absurd hw1 (by decide)
    rw [if_neg a1] at hw1
    have a2 : ¬ (99 < y) := fun q => by rw [if_pos q] at hw1; exact absurd hw1 (by decide)
    rw [if_neg a2] at hw1
    obtain ⟨i9, ei9⟩ : ∃ i9 : Nat, x = (i9 : Int) := ⟨x.toNat, by omega⟩
    subst ei9
    exact ag_of hc hm (k_need hc (by omega) (by omega)) (fun _ _ _ _ _ _ _ hm2 => mk_need hm2 (by omega) (by omega))
  · exact ag_of hc hm (r_need hc hx hy hw0) (fun _ _ _ _ _ _ _ hm2 => mr_need hm2 hx hy hw0)
theorem ag_sum (N : Nat) (qx : Int32) (h : aH) (hL : LI h) : AGR mX7_sum mX8_sum 3 1 N [.inl qx.toInt] h := by
  obtain ⟨imt, tc, k, f, c, n, kp, l, p, t, d, to, re, tl, tp, I, A0, A1, A2, A3, A4, A5, C6, hc, hm⟩ := hL
  have hx := aI_of qx
  generalize qx.toInt = x at hx ⊢
  by_cases hw0 : (wy_sum x) = 0
  · have hw1 := hw0
    unfold wy_sum at hw1
    have a0 : ¬ (x < 0) := fun q => by rw [if_pos q] at hw1; exact absurd hw1 (by decide)
    rw [if_neg a0] at hw1
    have a1 : ¬ (999 < x) := fun q => by rw [if_pos q] at hw1; exact absurd hw1 (by decide)
    rw [if_neg a1] at hw1
    exact ag_of hc hm (k_sum hc (by omega)) (fun _ _ _ _ _ _ _ hm2 => mk_sum hm2 (by omega))
  · exact ag_of hc hm (r_sum hc hx hw0) (fun _ _ _ _ _ _ _ hm2 => mr_sum hm2 hx hw0)
theorem ag_days (N : Nat) (qx : Int32) (h : aH) (hL : LI h) : AGR mX7_days mX8_days 3 7 N [.inl qx.toInt] h := by
  obtain ⟨imt, tc, k, f, c, n, kp, l, p, t, d, to, re, tl, tp, I, A0, A1, A2, A3, A4, A5, C6, hc, hm⟩ := hL
  have hx := aI_of qx
  generalize qx.toInt = x at hx ⊢
  by_cases hw0 : (wy_days d x) = 0
  · have hw1 := hw0
    unfold wy_days at hw1
    have a0 : ¬ (x < 1) := fun q => by rw [if_pos q] at hw1; exact absurd hw1 (by decide)
    rw [if_neg a0] at hw1
    have a1 : ¬ (60 < x ∨ 999 < d + x) := fun q => by rw [if_pos q] at hw1; exact absurd hw1 (by decide)
    rw [if_neg a1] at hw1
    obtain ⟨m9, em9⟩ : ∃ m9 : Nat, x = (m9 : Int) := ⟨x.toNat, by omega⟩
    subst em9
    exact ag_of hc hm (k_days hc (by omega) (by omega)) (fun _ _ _ _ _ _ _ hm2 => mk_days hm2 (by omega) (by omega))
  · exact ag_of hc hm (r_days hc hx hw0) (fun _ _ _ _ _ _ _ hm2 => mr_days hm2 hx hw0)
theorem ag_behind (N : Nat) (qx : Int32) (qy : Int32) (qz : Int32) (h : aH) (hL : LI h) : AGR mX7_behind mX8_behind 4 7 N [.inl qx.toInt, .inl qy.toInt, .inl qz.toInt] h := by
  obtain ⟨imt, tc, k, f, c, n, kp, l, p, t, d, to, re, tl, tp, I, A0, A1, A2, A3, A4, A5, C6, hc, hm⟩ := hL
  have hx := aI_of qx
  generalize qx.toInt = x at hx ⊢
  have hy := aI_of qy
  generalize qy.toInt = y at hy ⊢
  have hz := aI_of qz
  generalize qz.toInt = z at hz ⊢
  by_cases hw0 : (wy_behind p x y z) = 0
  · have hw1 := hw0
    unfold wy_behind at hw1
    have a0 : ¬ (¬ (0 ≤ x ∧ x < (p : Int))) := fun q => by rw [if_pos q] at hw1; exact absurd hw1 (by decide)
    rw [if_neg a0] at hw1
    have a1 : ¬ (y < 0) := fun q => by rw [if_pos q] at hw1; exact absurd hw1 (by decide)
    rw [if_neg a1] at hw1
    have a2 : ¬ (99 < y) := fun q => by rw [if_pos q] at hw1; exact absurd hw1 (by decide)
    rw [if_neg a2] at hw1
    have a3 : ¬ (¬ (0 ≤ z ∧ z ≤ 1)) := fun q => by rw [if_pos q] at hw1; exact absurd hw1 (by decide)
    rw [if_neg a3] at hw1
    obtain ⟨i9, ei9⟩ : ∃ i9 : Nat, x = (i9 : Int) := ⟨x.toNat, by omega⟩
    subst ei9
    obtain ⟨m9, em9⟩ : ∃ m9 : Nat, y = (m9 : Int) := ⟨y.toNat, by omega⟩
    subst em9
    exact ag_of hc hm (k_behind hc (by omega) (by omega) (by omega)) (fun _ _ _ _ _ _ _ hm2 => mk_behind hm2 (by omega) (by omega) (by omega))
  · exact ag_of hc hm (r_behind hc hx hy hz hw0) (fun _ _ _ _ _ _ _ hm2 => mr_behind hm2 hx hy hz hw0)
theorem ag_firstShort (N : Nat) (qx : Int32) (h : aH) (hL : LI h) : AGR mX7_firstShort mX8_firstShort 4 8 N [.inl qx.toInt] h := by
  obtain ⟨imt, tc, k, f, c, n, kp, l, p, t, d, to, re, tl, tp, I, A0, A1, A2, A3, A4, A5, C6, hc, hm⟩ := hL
  have hx := aI_of qx
  generalize qx.toInt = x at hx ⊢
  by_cases hw0 : (wy_firstShort x) = 0
  · have hw1 := hw0
    unfold wy_firstShort at hw1
    have a0 : ¬ (¬ (0 ≤ x ∧ x ≤ 1)) := fun q => by rw [if_pos q] at hw1; exact absurd hw1 (by decide)
    rw [if_neg a0] at hw1
    exact ag_of hc hm (k_firstShort hc (by omega)) (fun _ _ _ _ _ _ _ hm2 => mk_firstShort hm2 (by omega))
  · exact ag_of hc hm (r_firstShort hc hx hw0) (fun _ _ _ _ _ _ _ hm2 => mr_firstShort hm2 hx hw0)
theorem ag_lasts (N : Nat) (qx : Int32) (h : aH) (hL : LI h) : AGR mX7_lasts mX8_lasts 4 8 N [.inl qx.toInt] h := by
  obtain ⟨imt, tc, k, f, c, n, kp, l, p, t, d, to, re, tl, tp, I, A0, A1, A2, A3, A4, A5, C6, hc, hm⟩ := hL
  have hx := aI_of qx
  generalize qx.toInt = x at hx ⊢
  by_cases hw0 : (wy_lasts p x) = 0
  · have hw1 := hw0
    unfold wy_lasts at hw1
    have a0 : ¬ (¬ (0 ≤ x ∧ x < (p : Int))) := fun q => by rw [if_pos q] at hw1; exact absurd hw1 (by decide)
    rw [if_neg a0] at hw1
    obtain ⟨i9, ei9⟩ : ∃ i9 : Nat, x = (i9 : Int) := ⟨x.toNat, by omega⟩
    subst ei9
    exact ag_of hc hm (k_lasts hc (by omega)) (fun _ _ _ _ _ _ _ hm2 => mk_lasts hm2 (by omega))
  · exact ag_of hc hm (r_lasts hc hx hw0) (fun _ _ _ _ _ _ _ hm2 => mr_lasts hm2 hx hw0)
theorem ag_bestCell (N : Nat) (qx : Int32) (qy : Int32) (h : aH) (hL : LI h) : AGR mX7_bestCell mX8_bestCell 6 6 N [.inl qx.toInt, .inl qy.toInt] h := by
  obtain ⟨imt, tc, k, f, c, n, kp, l, p, t, d, to, re, tl, tp, I, A0, A1, A2, A3, A4, A5, C6, hc, hm⟩ := hL
  have hx := aI_of qx
  generalize qx.toInt = x at hx ⊢
  have hy := aI_of qy
  generalize qy.toInt = y at hy ⊢
  by_cases hw0 : (wy_bestCell p x y) = 0
  · have hw1 := hw0
    unfold wy_bestCell at hw1
    have a0 : ¬ (¬ (0 ≤ x ∧ x < (p : Int))) := fun q => by rw [if_pos q] at hw1; exact absurd hw1 (by decide)
    rw [if_neg a0] at hw1
    have a1 : ¬ (¬ (0 ≤ y ∧ y ≤ 2)) := fun q => by rw [if_pos q] at hw1; exact absurd hw1 (by decide)
    rw [if_neg a1] at hw1
    obtain ⟨i9, ei9⟩ : ∃ i9 : Nat, x = (i9 : Int) := ⟨x.toNat, by omega⟩
    subst ei9
    exact ag_of hc hm (k_bestCell hc (by omega) (by omega)) (fun _ _ _ _ _ _ _ hm2 => mk_bestCell hm2 (by omega) (by omega))
  · exact ag_of hc hm (r_bestCell hc hx hy hw0) (fun _ _ _ _ _ _ _ hm2 => mr_bestCell hm2 hx hy hw0)
theorem ag_takes (N : Nat) (qx : Int32) (qy : Int32) (h : aH) (hL : LI h) : AGR mX7_takes mX8_takes 6 7 N [.inl qx.toInt, .inl qy.toInt] h := by
  obtain ⟨imt, tc, k, f, c, n, kp, l, p, t, d, to, re, tl, tp, I, A0, A1, A2, A3, A4, A5, C6, hc, hm⟩ := hL
  have hx := aI_of qx
  generalize qx.toInt = x at hx ⊢
  have hy := aI_of qy
  generalize qy.toInt = y at hy ⊢
  by_cases hw0 : (wy_takes p x y) = 0
  · have hw1 := hw0
    unfold wy_takes at hw1
    have a0 : ¬ (¬ (0 ≤ x ∧ x < (p : Int) ∧ 0 ≤ y ∧ y < (p : Int) ∧ x ≠ y)) := fun q => by rw [if_pos q] at hw1; exact absurd hw1 (by decide)
    rw [if_neg a0] at hw1
    obtain ⟨i9, ei9⟩ : ∃ i9 : Nat, x = (i9 : Int) := ⟨x.toNat, by omega⟩
    subst ei9
    obtain ⟨j9, ej9⟩ : ∃ j9 : Nat, y = (j9 : Int) := ⟨y.toNat, by omega⟩
    subst ej9
    exact ag_of hc hm (k_takes hc (by omega) (by omega) (by omega)) (fun _ _ _ _ _ _ _ hm2 => mk_takes hm2 (by omega) (by omega) (by omega))
  · exact ag_of hc hm (r_takes hc hx hy hw0) (fun _ _ _ _ _ _ _ hm2 => mr_takes hm2 hx hy hw0)
theorem ag_worst (N : Nat) (qx : Int32) (h : aH) (hL : LI h) : AGR mX7_worst mX8_worst 7 7 N [.inl qx.toInt] h := by
  obtain ⟨imt, tc, k, f, c, n, kp, l, p, t, d, to, re, tl, tp, I, A0, A1, A2, A3, A4, A5, C6, hc, hm⟩ := hL
  have hx := aI_of qx
  generalize qx.toInt = x at hx ⊢
  by_cases hw0 : (wy_worst p x) = 0
  · have hw1 := hw0
    unfold wy_worst at hw1
    have a0 : ¬ (¬ (0 ≤ x ∧ x < (p : Int))) := fun q => by rw [if_pos q] at hw1; exact absurd hw1 (by decide)
    rw [if_neg a0] at hw1
    obtain ⟨i9, ei9⟩ : ∃ i9 : Nat, x = (i9 : Int) := ⟨x.toNat, by omega⟩
    subst ei9
    exact ag_of hc hm (k_worst hc (by omega)) (fun _ _ _ _ _ _ _ hm2 => mk_worst hm2 (by omega))
  · exact ag_of hc hm (r_worst hc hx hw0) (fun _ _ _ _ _ _ _ hm2 => mr_worst hm2 hx hw0)
theorem ag_newcomer (N : Nat) (qx : Int32) (qy : Int32) (h : aH) (hL : LI h) : AGR mX7_newcomer mX8_newcomer 6 6 N [.inl qx.toInt, .inl qy.toInt] h := by
  obtain ⟨imt, tc, k, f, c, n, kp, l, p, t, d, to, re, tl, tp, I, A0, A1, A2, A3, A4, A5, C6, hc, hm⟩ := hL
  have hx := aI_of qx
  generalize qx.toInt = x at hx ⊢
  have hy := aI_of qy
  generalize qy.toInt = y at hy ⊢
  by_cases hw0 : (wy_newcomer x y) = 0
  · have hw1 := hw0
    unfold wy_newcomer at hw1
    have a0 : ¬ (¬ (0 ≤ x ∧ x ≤ 35)) := fun q => by rw [if_pos q] at hw1; exact absurd hw1 (by decide)
    rw [if_neg a0] at hw1
    have a1 : ¬ (¬ (0 ≤ y ∧ y ≤ 1)) := fun q => by rw [if_pos q] at hw1; exact absurd hw1 (by decide)
    rw [if_neg a1] at hw1
    exact ag_of hc hm (k_newcomer hc (by omega) (by omega)) (fun _ _ _ _ _ _ _ hm2 => mk_newcomer hm2 (by omega) (by omega))
  · exact ag_of hc hm (r_newcomer hc hx hy hw0) (fun _ _ _ _ _ _ _ hm2 => mr_newcomer hm2 hx hy hw0)
theorem ag_leaves (N : Nat) (qx : Int32) (h : aH) (hL : LI h) : AGR mX7_leaves mX8_leaves 7 7 N [.inl qx.toInt] h := by
  obtain ⟨imt, tc, k, f, c, n, kp, l, p, t, d, to, re, tl, tp, I, A0, A1, A2, A3, A4, A5, C6, hc, hm⟩ := hL
  have hx := aI_of qx
  generalize qx.toInt = x at hx ⊢
  by_cases hw0 : (wy_leaves x) = 0
  · have hw1 := hw0
    unfold wy_leaves at hw1
    have a0 : ¬ (¬ (0 ≤ x ∧ x ≤ 1)) := fun q => by rw [if_pos q] at hw1; exact absurd hw1 (by decide)
    rw [if_neg a0] at hw1
    exact ag_of hc hm (k_leaves hc (by omega)) (fun _ _ _ _ _ _ _ hm2 => mk_leaves hm2 (by omega))
  · exact ag_of hc hm (r_leaves hc hx hw0) (fun _ _ _ _ _ _ _ hm2 => mr_leaves hm2 hx hw0)
theorem ag_enough (N : Nat) (h : aH) (hL : LI h) : AGR mX7_enough mX8_enough 3 6 N [] h := by
  obtain ⟨imt, tc, k, f, c, n, kp, l, p, t, d, to, re, tl, tp, I, A0, A1, A2, A3, A4, A5, C6, hc, hm⟩ := hL
  exact ag_of hc hm (k_enough hc) (fun _ _ _ _ _ _ _ hm2 => mk_enough hm2)
theorem ag_help (N : Nat) (qx : Int32) (qy : Int32) (h : aH) (hL : LI h) : AGR mX7_help mX8_help 6 7 N [.inl qx.toInt, .inl qy.toInt] h := by
  obtain ⟨imt, tc, k, f, c, n, kp, l, p, t, d, to, re, tl, tp, I, A0, A1, A2, A3, A4, A5, C6, hc, hm⟩ := hL
  have hx := aI_of qx
  generalize qx.toInt = x at hx ⊢
  have hy := aI_of qy
  generalize qy.toInt = y at hy ⊢
  by_cases hw0 : (wy_help x y) = 0
  · have hw1 := hw0
    unfold wy_help at hw1
    have a0 : ¬ (x < 0) := fun q => by rw [if_pos q] at hw1; exact absurd hw1 (by decide)
    rw [if_neg a0] at hw1
    have a1 : ¬ (10 < x) := fun q => by rw [if_pos q] at hw1; exact absurd hw1 (by decide)
    rw [if_neg a1] at hw1
    have a2 : ¬ (¬ (0 ≤ y ∧ y ≤ 1)) := fun q => by rw [if_pos q] at hw1; exact absurd hw1 (by decide)
    rw [if_neg a2] at hw1
    exact ag_of hc hm (k_help hc (by omega) (by omega)) (fun _ _ _ _ _ _ _ hm2 => mk_help hm2 (by omega) (by omega))
  · exact ag_of hc hm (r_help hc hx hy hw0) (fun _ _ _ _ _ _ _ hm2 => mr_help hm2 hx hy hw0)
theorem ag_net (N : Nat) (qx : Int32) (h : aH) (hL : LI h) : AGR mX7_net mX8_net 3 3 N [.inl qx.toInt] h := by
  obtain ⟨imt, tc, k, f, c, n, kp, l, p, t, d, to, re, tl, tp, I, A0, A1, A2, A3, A4, A5, C6, hc, hm⟩ := hL
  have hx := aI_of qx
  generalize qx.toInt = x at hx ⊢
  by_cases hw0 : (wy_net p x) = 0
  · have hw1 := hw0
    unfold wy_net at hw1
    have a0 : ¬ (¬ (0 ≤ x ∧ x < (p : Int))) := fun q => by rw [if_pos q] at hw1; exact absurd hw1 (by decide)
    rw [if_neg a0] at hw1
    obtain ⟨i9, ei9⟩ : ∃ i9 : Nat, x = (i9 : Int) := ⟨x.toNat, by omega⟩
    subst ei9
    exact ag_of hc hm (k_net hc (by omega)) (fun _ _ _ _ _ _ _ hm2 => mk_net hm2 (by omega))
  · exact ag_of hc hm (r_net hc hx hw0) (fun _ _ _ _ _ _ _ hm2 => mr_net hm2 hx hw0)
theorem ag_loans (N : Nat) (qx : Int32) (h : aH) (hL : LI h) : AGR mX7_loans mX8_loans 3 5 N [.inl qx.toInt] h := by
  obtain ⟨imt, tc, k, f, c, n, kp, l, p, t, d, to, re, tl, tp, I, A0, A1, A2, A3, A4, A5, C6, hc, hm⟩ := hL
  have hx := aI_of qx
  generalize qx.toInt = x at hx ⊢
  by_cases hw0 : (wy_loans x) = 0
  · have hw1 := hw0
    unfold wy_loans at hw1
    have a0 : ¬ (¬ (0 ≤ x ∧ x ≤ 1)) := fun q => by rw [if_pos q] at hw1; exact absurd hw1 (by decide)
    rw [if_neg a0] at hw1
    exact ag_of hc hm (k_loans hc (by omega)) (fun _ _ _ _ _ _ _ hm2 => mk_loans hm2 (by omega))
  · exact ag_of hc hm (r_loans hc hx hw0) (fun _ _ _ _ _ _ _ hm2 => mr_loans hm2 hx hw0)
theorem ag_survey (N : Nat) (qx : Int32) (h : aH) (hL : LI h) : AGR mX7_survey mX8_survey 6 7 N [.inl qx.toInt] h := by
  obtain ⟨imt, tc, k, f, c, n, kp, l, p, t, d, to, re, tl, tp, I, A0, A1, A2, A3, A4, A5, C6, hc, hm⟩ := hL
  have hx := aI_of qx
  generalize qx.toInt = x at hx ⊢
  by_cases hw0 : (wy_survey x) = 0
  · have hw1 := hw0
    unfold wy_survey at hw1
    have a0 : ¬ (¬ (0 ≤ x ∧ x ≤ 35)) := fun q => by rw [if_pos q] at hw1; exact absurd hw1 (by decide)
    rw [if_neg a0] at hw1
    exact ag_of hc hm (k_survey hc (by omega)) (fun _ _ _ _ _ _ _ hm2 => mk_survey hm2 (by omega))
  · exact ag_of hc hm (r_survey hc hx hw0) (fun _ _ _ _ _ _ _ hm2 => mr_survey hm2 hx hw0)
theorem ag_bestSurvey (N : Nat) (h : aH) (hL : LI h) : AGR mX7_bestSurvey mX8_bestSurvey 7 7 N [] h := by
  obtain ⟨imt, tc, k, f, c, n, kp, l, p, t, d, to, re, tl, tp, I, A0, A1, A2, A3, A4, A5, C6, hc, hm⟩ := hL
  exact ag_of hc hm (k_bestSurvey hc) (fun _ _ _ _ _ _ _ hm2 => mk_bestSurvey hm2)
theorem ag_quarrel (N : Nat) (qx : Int32) (qy : Int32) (qz : Int32) (qu : Int32) (h : aH) (hL : LI h) : AGR mX7_quarrel mX8_quarrel 6 7 N [.inl qx.toInt, .inl qy.toInt, .inl qz.toInt, .inl qu.toInt] h := by
  obtain ⟨imt, tc, k, f, c, n, kp, l, p, t, d, to, re, tl, tp, I, A0, A1, A2, A3, A4, A5, C6, hc, hm⟩ := hL
  have hx := aI_of qx
  generalize qx.toInt = x at hx ⊢
  have hy := aI_of qy
  generalize qy.toInt = y at hy ⊢
  have hz := aI_of qz
  generalize qz.toInt = z at hz ⊢
  have hu := aI_of qu
  generalize qu.toInt = u at hu ⊢
  by_cases hw0 : (wy_quarrel p x y z u) = 0
  · have hw1 := hw0
    unfold wy_quarrel at hw1
    have a0 : ¬ (¬ (0 ≤ x ∧ x < (p : Int) ∧ 0 ≤ y ∧ y < (p : Int) ∧ x ≠ y)) := fun q => by rw [if_pos q] at hw1; exact absurd hw1 (by decide)
    rw [if_neg a0] at hw1
    have a1 : ¬ (z < 1) := fun q => by rw [if_pos q] at hw1; exact absurd hw1 (by decide)
    rw [if_neg a1] at hw1
    have a2 : ¬ (10 < z) := fun q => by rw [if_pos q] at hw1; exact absurd hw1 (by decide)
    rw [if_neg a2] at hw1
    have a3 : ¬ (¬ (0 ≤ u ∧ u ≤ 1)) := fun q => by rw [if_pos q] at hw1; exact absurd hw1 (by decide)
    rw [if_neg a3] at hw1
    obtain ⟨i9, ei9⟩ : ∃ i9 : Nat, x = (i9 : Int) := ⟨x.toNat, by omega⟩
    subst ei9
    obtain ⟨j9, ej9⟩ : ∃ j9 : Nat, y = (j9 : Int) := ⟨y.toNat, by omega⟩
    subst ej9
    exact ag_of hc hm (k_quarrel hc (by omega) (by omega) (by omega) (by omega) (by omega)) (fun _ _ _ _ _ _ _ hm2 => mk_quarrel hm2 (by omega) (by omega) (by omega) (by omega) (by omega))
  · exact ag_of hc hm (r_quarrel hc hx hy hz hu hw0) (fun _ _ _ _ _ _ _ hm2 => mr_quarrel hm2 hx hy hz hu hw0)
theorem ag_two (N : Nat) (qx : Int32) (qy : Int32) (h : aH) (hL : LI h) : AGR mX7_two mX8_two 7 7 N [.inl qx.toInt, .inl qy.toInt] h := by
  obtain ⟨imt, tc, k, f, c, n, kp, l, p, t, d, to, re, tl, tp, I, A0, A1, A2, A3, A4, A5, C6, hc, hm⟩ := hL
  have hx := aI_of qx
  generalize qx.toInt = x at hx ⊢
  have hy := aI_of qy
  generalize qy.toInt = y at hy ⊢
  by_cases hw0 : (wy_two p x y) = 0
  · have hw1 := hw0
    unfold wy_two at hw1
    have a0 : ¬ (¬ (0 ≤ x ∧ x < (p : Int) ∧ 0 ≤ y ∧ y < (p : Int) ∧ x ≠ y)) := fun q => by rw [if_pos q] at hw1; exact absurd hw1 (by decide)
    rw [if_neg a0] at hw1
    obtain ⟨i9, ei9⟩ : ∃ i9 : Nat, x = (i9 : Int) := ⟨x.toNat, by omega⟩
    subst ei9
    obtain ⟨j9, ej9⟩ : ∃ j9 : Nat, y = (j9 : Int) := ⟨y.toNat, by omega⟩
    subst ej9
    exact ag_of hc hm (k_two hc (by omega) (by omega) (by omega)) (fun _ _ _ _ _ _ _ hm2 => mk_two hm2 (by omega) (by omega) (by omega))
  · exact ag_of hc hm (r_two hc hx hy hw0) (fun _ _ _ _ _ _ _ hm2 => mr_two hm2 hx hy hw0)
theorem ag_crowd (N : Nat) (qx : Int32) (h : aH) (hL : LI h) : AGR mX7_crowd mX8_crowd 5 2 N [.inl qx.toInt] h := by
  obtain ⟨imt, tc, k, f, c, n, kp, l, p, t, d, to, re, tl, tp, I, A0, A1, A2, A3, A4, A5, C6, hc, hm⟩ := hL
  have hx := aI_of qx
  generalize qx.toInt = x at hx ⊢
  by_cases hw0 : (wy_crowd x) = 0
  · have hw1 := hw0
    unfold wy_crowd at hw1
    have a0 : ¬ (¬ (0 ≤ x ∧ x ≤ 2)) := fun q => by rw [if_pos q] at hw1; exact absurd hw1 (by decide)
    rw [if_neg a0] at hw1
    exact ag_of hc hm (k_crowd hc (by omega)) (fun _ _ _ _ _ _ _ hm2 => mk_crowd hm2 (by omega))
  · exact ag_of hc hm (r_crowd hc hx hw0) (fun _ _ _ _ _ _ _ hm2 => mr_crowd hm2 hx hw0)
theorem ag_raise (N : Nat) (h : aH) (hL : LI h) : AGR mX7_raise mX8_raise 4 7 N [] h := by
  obtain ⟨imt, tc, k, f, c, n, kp, l, p, t, d, to, re, tl, tp, I, A0, A1, A2, A3, A4, A5, C6, hc, hm⟩ := hL
  exact ag_of hc hm (k_raise hc) (fun _ _ _ _ _ _ _ hm2 => mk_raise hm2)
theorem ag_easter (N : Nat) (qx : Int32) (qy : Int32) (qz : Int32) (h : aH) (hL : LI h) : AGR mX7_easter mX8_easter 6 7 N [.inl qx.toInt, .inl qy.toInt, .inl qz.toInt] h := by
  obtain ⟨imt, tc, k, f, c, n, kp, l, p, t, d, to, re, tl, tp, I, A0, A1, A2, A3, A4, A5, C6, hc, hm⟩ := hL
  have hx := aI_of qx
  generalize qx.toInt = x at hx ⊢
  have hy := aI_of qy
  generalize qy.toInt = y at hy ⊢
  have hz := aI_of qz
  generalize qz.toInt = z at hz ⊢
  by_cases hw0 : (wy_easter p x y z) = 0
  · have hw1 := hw0
    unfold wy_easter at hw1
    have a0 : ¬ (¬ (0 ≤ x ∧ x < (p : Int) ∧ 0 ≤ y ∧ y < (p : Int) ∧ x ≠ y)) := fun q => by rw [if_pos q] at hw1; exact absurd hw1 (by decide)
    rw [if_neg a0] at hw1
    have a1 : ¬ (z < 0) := fun q => by rw [if_pos q] at hw1; exact absurd hw1 (by decide)
    rw [if_neg a1] at hw1
    have a2 : ¬ (99 < z) := fun q => by rw [if_pos q] at hw1; exact absurd hw1 (by decide)
    rw [if_neg a2] at hw1
    obtain ⟨i9, ei9⟩ : ∃ i9 : Nat, x = (i9 : Int) := ⟨x.toNat, by omega⟩
    subst ei9
    obtain ⟨j9, ej9⟩ : ∃ j9 : Nat, y = (j9 : Int) := ⟨y.toNat, by omega⟩
    subst ej9
    obtain ⟨m9, em9⟩ : ∃ m9 : Nat, z = (m9 : Int) := ⟨z.toNat, by omega⟩
    subst em9
    exact ag_of hc hm (k_easter hc (by omega) (by omega) (by omega) (by omega)) (fun _ _ _ _ _ _ _ hm2 => mk_easter hm2 (by omega) (by omega) (by omega) (by omega))
  · exact ag_of hc hm (r_easter hc hx hy hz hw0) (fun _ _ _ _ _ _ _ hm2 => mr_easter hm2 hx hy hz hw0)
theorem ag_whatIs (N : Nat) (qx : Int32) (qy : Int32) (h : aH) (hL : LI h) : AGR mX7_whatIs mX8_whatIs 6 8 N [.inl qx.toInt, .inl qy.toInt] h := by
  obtain ⟨imt, tc, k, f, c, n, kp, l, p, t, d, to, re, tl, tp, I, A0, A1, A2, A3, A4, A5, C6, hc, hm⟩ := hL
  have hx := aI_of qx
  generalize qx.toInt = x at hx ⊢
  have hy := aI_of qy
  generalize qy.toInt = y at hy ⊢
  by_cases hw0 : (wy_whatIs tc p x y) = 0
  · have hw1 := hw0
    unfold wy_whatIs at hw1
    have a0 : ¬ (¬ (0 ≤ x ∧ x < (p : Int))) := fun q => by rw [if_pos q] at hw1; exact absurd hw1 (by decide)
    rw [if_neg a0] at hw1
    have a1 : ¬ (¬ (0 ≤ y ∧ y ≤ 1)) := fun q => by rw [if_pos q] at hw1; exact absurd hw1 (by decide)
    rw [if_neg a1] at hw1
    have a2 : ¬ ((tc : Int) ≠ (p : Int)) := fun q => by rw [if_pos q] at hw1; exact absurd hw1 (by decide)
    rw [if_neg a2] at hw1
    obtain ⟨i9, ei9⟩ : ∃ i9 : Nat, x = (i9 : Int) := ⟨x.toNat, by omega⟩
    subst ei9
    exact ag_of hc hm (k_whatIs hc (by omega) (by omega) (by omega)) (fun _ _ _ _ _ _ _ hm2 => mk_whatIs hm2 (by omega) (by omega) (by omega))
  · exact ag_of hc hm (r_whatIs hc hx hy hw0) (fun _ _ _ _ _ _ _ hm2 => mr_whatIs hm2 hx hy hw0)
theorem ag_row (N : Nat) (qx : Int32) (h : aH) (hL : LI h) : AGR mX7_row mX8_row 2 1 N [.inl qx.toInt] h := by
  obtain ⟨imt, tc, k, f, c, n, kp, l, p, t, d, to, re, tl, tp, I, A0, A1, A2, A3, A4, A5, C6, hc, hm⟩ := hL
  have hx := aI_of qx
  generalize qx.toInt = x at hx ⊢
  by_cases hw0 : (wy_row tc x) = 0
  · have hw1 := hw0
    unfold wy_row at hw1
    have a0 : ¬ (x < 0) := fun q => by rw [if_pos q] at hw1; exact absurd hw1 (by decide)
    rw [if_neg a0] at hw1
    have a1 : ¬ (99 < x ∨ 12 ≤ (tc : Int)) := fun q => by rw [if_pos q] at hw1; exact absurd hw1 (by decide)
    rw [if_neg a1] at hw1
    exact ag_of hc hm (k_row hc (by omega) (by omega)) (fun _ _ _ _ _ _ _ hm2 => mk_row hm2 (by omega) (by omega))
  · exact ag_of hc hm (r_row hc hx hw0) (fun _ _ _ _ _ _ _ hm2 => mr_row hm2 hx hw0)
theorem ag_judge (N : Nat) (qx : Int32) (h : aH) (hL : LI h) : AGR mX7_judge mX8_judge 4 7 N [.inl qx.toInt] h := by
  obtain ⟨imt, tc, k, f, c, n, kp, l, p, t, d, to, re, tl, tp, I, A0, A1, A2, A3, A4, A5, C6, hc, hm⟩ := hL
  have hx := aI_of qx
  generalize qx.toInt = x at hx ⊢
  by_cases hw0 : (wy_judge p x) = 0
  · have hw1 := hw0
    unfold wy_judge at hw1
    have a0 : ¬ (¬ (0 ≤ x ∧ x < (p : Int))) := fun q => by rw [if_pos q] at hw1; exact absurd hw1 (by decide)
    rw [if_neg a0] at hw1
    obtain ⟨i9, ei9⟩ : ∃ i9 : Nat, x = (i9 : Int) := ⟨x.toNat, by omega⟩
    subst ei9
    exact ag_of hc hm (k_judge hc (by omega)) (fun _ _ _ _ _ _ _ hm2 => mk_judge hm2 (by omega))
  · exact ag_of hc hm (r_judge hc hx hw0) (fun _ _ _ _ _ _ _ hm2 => mr_judge hm2 hx hw0)
theorem ag_clear (N : Nat) (h : aH) (hL : LI h) : AGR mX7_clear mX8_clear 0 0 N [] h := by
  obtain ⟨imt, tc, k, f, c, n, kp, l, p, t, d, to, re, tl, tp, I, A0, A1, A2, A3, A4, A5, C6, hc, hm⟩ := hL
  exact ag_of hc hm (k_clear hc) (fun _ _ _ _ _ _ _ hm2 => mk_clear hm2)
theorem ag_lots (N : Nat) (qx : Int32) (qy : Int32) (qz : Int32) (h : aH) (hL : LI h) : AGR mX7_lots mX8_lots 7 6 N [.inl qx.toInt, .inl qy.toInt, .inl qz.toInt] h := by
  obtain ⟨imt, tc, k, f, c, n, kp, l, p, t, d, to, re, tl, tp, I, A0, A1, A2, A3, A4, A5, C6, hc, hm⟩ := hL
  have hx := aI_of qx
  generalize qx.toInt = x at hx ⊢
  have hy := aI_of qy
  generalize qy.toInt = y at hy ⊢
  have hz := aI_of qz
  generalize qz.toInt = z at hz ⊢
  by_cases hw0 : (wy_lots p x y z) = 0
  · have hw1 := hw0
    unfold wy_lots at hw1
    have a0 : ¬ (x < 1) := fun q => by rw [if_pos q] at hw1; exact absurd hw1 (by decide)
    rw [if_neg a0] at hw1
    have a1 : ¬ (20 < x) := fun q => by rw [if_pos q] at hw1; exact absurd hw1 (by decide)
    rw [if_neg a1] at hw1
    have a2 : ¬ (¬ (0 ≤ z ∧ z ≤ 1)) := fun q => by rw [if_pos q] at hw1; exact absurd hw1 (by decide)
    rw [if_neg a2] at hw1
    have a3 : ¬ ((p : Int) < 1) := fun q => by rw [if_pos q] at hw1; exact absurd hw1 (by decide)
    rw [if_neg a3] at hw1
    obtain ⟨m9, em9⟩ : ∃ m9 : Nat, x = (m9 : Int) := ⟨x.toNat, by omega⟩
    subst em9
    exact ag_of hc hm (k_lots hc (by omega) (by omega) (by omega)) (fun _ _ _ _ _ _ _ hm2 => mk_lots hm2 (by omega) (by omega) (by omega))
  · exact ag_of hc hm (r_lots hc hx hy hz hw0) (fun _ _ _ _ _ _ _ hm2 => mr_lots hm2 hx hy hz hw0)
theorem ag_image (N : Nat) (h : aH) (hL : LI h) : AGR mX7_image mX8_image 3 2 N [] h := by
  obtain ⟨imt, tc, k, f, c, n, kp, l, p, t, d, to, re, tl, tp, I, A0, A1, A2, A3, A4, A5, C6, hc, hm⟩ := hL
  exact ag_of hc hm (k_image hc) (fun _ _ _ _ _ _ _ hm2 => mk_image hm2)
theorem ag_on (N : Nat) (h : aH) (hL : LI h) : AGR mX7_on mX8_on 3 2 N [] h := by
  obtain ⟨imt, tc, k, f, c, n, kp, l, p, t, d, to, re, tl, tp, I, A0, A1, A2, A3, A4, A5, C6, hc, hm⟩ := hL
  by_cases hw0 : (wy_on imt) = 0
  · have hw1 := hw0
    unfold wy_on at hw1
    have a0 : ¬ (imt = 0) := fun q => by rw [if_pos q] at hw1; exact absurd hw1 (by decide)
    rw [if_neg a0] at hw1
    exact ag_of hc hm (k_on hc (by omega)) (fun _ _ _ _ _ _ _ hm2 => mk_on hm2 (by omega))
  · exact ag_of hc hm (r_on hc hw0) (fun _ _ _ _ _ _ _ hm2 => mr_on hm2 hw0)
theorem ag_count (N : Nat) (qx : Int32) (h : aH) (hL : LI h) : AGR mX7_count mX8_count 3 5 N [.inl qx.toInt] h := by
  obtain ⟨imt, tc, k, f, c, n, kp, l, p, t, d, to, re, tl, tp, I, A0, A1, A2, A3, A4, A5, C6, hc, hm⟩ := hL
  have hx := aI_of qx
  generalize qx.toInt = x at hx ⊢
  exact ag_of hc hm (k_count hc hx) (fun _ _ _ _ _ _ _ hm2 => mk_count hm2 hx)
