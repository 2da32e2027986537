/-! moor(), of the reference: what is read comes; laid by gen_moorm2.py -/
theorem first_bad {P : Nat → Prop} : ∀ n, (∃ e, 1 ≤ e ∧ e < n ∧ ¬ P e) → ∃ e, 1 ≤ e ∧ e < n ∧ ¬ P e ∧ ∀ q, 1 ≤ q → q < e → P q := by
  intro n
  induction n with
  | zero => rintro ⟨e, h1, h2, -⟩; omega
  | succ n ih =>
    rintro ⟨e, h1, h2, h3⟩
    rcases Classical.em (∃ e, 1 ≤ e ∧ e < n ∧ ¬ P e) with z | z
    · obtain ⟨e2, g1, g2, g3, g4⟩ := ih z
      exact ⟨e2, g1, by omega, g3, g4⟩
    · have he : e = n := by
        rcases Nat.lt_or_ge e n with y | y
        · exact absurd ⟨e, h1, y, h3⟩ z
        · omega
      subst he
      exact ⟨e, h1, by omega, h3, fun q q1 q2 => Classical.not_not.mp (fun y => z ⟨q, q1, q2, y⟩)⟩
theorem tx_two : ∀ f : Nat, f < 6 → 2 ≤ aTxLen.getD f 0 ∧ 4 ≤ aTxLen.getD f 0 := by decide
theorem wf_gd {tp : List Int} {m x : Nat} (h : wfS tp m x) : ∀ e, 1 ≤ e → e < aTxLen.getD (fmI (tp.getD x 0)) 0 → gdA tp m x (fmI (tp.getD x 0)) e := fun e h1 h2 => ⟨by have := h.2.1; omega, h.2.2 e h1 h2⟩
theorem gd_wf {tp : List Int} {m x : Nat} (hf : fmI (tp.getD x 0) < 6) (h : ∀ e, 1 ≤ e → e < aTxLen.getD (fmI (tp.getD x 0)) 0 → gdA tp m x (fmI (tp.getD x 0)) e) : wfS tp m x := by
  have h2 := (tx_two _ hf).1
  have h3 := (h (aTxLen.getD (fmI (tp.getD x 0)) 0 - 1) (by omega) (by omega)).1
  exact ⟨hf, by omega, fun i h4 h5 => (h i h4 h5).2⟩
theorem fwF_bad {tp : List Int} {m s x i : Nat} (hx : x < m) (hf : fmI (tp.getD x 0) < 6) (h1 : 1 ≤ i) (h2 : i < aTxLen.getD (fmI (tp.getD x 0)) 0) (hg : ∀ q, 1 ≤ q → q < i → gdA tp m x (fmI (tp.getD x 0)) q) (hb : ¬ gdA tp m x (fmI (tp.getD x 0)) i) : fwF tp m (s + 1) x = ((x + i : Nat) : Int) := by
  have e := innF_bad (tp := tp) (m := m) (x := x) (f := fmI (tp.getD x 0)) (aTxLen.getD (fmI (tp.getD x 0)) 0 - 1) 1 i h1 (by omega) hg hb
  exact fwF_in (by omega) rfl (by omega) rfl e (by omega)
theorem fwF_good {tp : List Int} {m s x : Nat} (h : wfS tp m x) : fwF tp m (s + 1) x = fwF tp m s (x + aTxLen.getD (fmI (tp.getD x 0)) 0) := by
  have h2 := (tx_two _ h.1).1
  have hx := h.2.1
  have hf := h.1
  exact fwF_on (by omega) rfl (by omega) rfl (innF_good _ _ (fun q q1 q2 => wf_gd h q q1 (by omega)))
/-- where the statements begin -/
def psF (tp : List Int) : Nat → Nat
  | 0 => 0
  | j + 1 => psF tp j + aTxLen.getD (fmI (tp.getD (psF tp j) 0)) 0
def bOKs (s : moT) : Prop := s.2.2.2.2.2.2.1 ≤ 6 ∧ s.2.2.2.2.2.2.2.2 ≤ 999 ∧ bOK s.2.2.2.2.2.2.1 s.1 s.2.1 s.2.2.1 s.2.2.2.1 s.2.2.2.2.1 s.2.2.2.2.2.1 s.2.2.2.2.2.2.2.1 s.2.2.2.2.2.2.2.2
theorem bOK_add {p : Nat} {k f c n kp l : List Int} {t d : Int} (h : bOK p k f c n kp l t d) (hp : p ≤ 6) {x1 x2 x3 x4 : Int} (g1 : 0 ≤ x1 ∧ x1 ≤ 5) (g2 : 0 ≤ x2 ∧ x2 ≤ 9) (g3 : 0 ≤ x3 ∧ x3 ≤ 35) (g4 : 0 ≤ x4 ∧ x4 ≤ 99) : bOK (p + 1) (k.set p x1) (f.set p x2) (c.set p x3) (n.set p x4) (kp.set p 0) (addL p l 7) t d := by
  obtain ⟨hp7, hk, hf, hc, hn, hkp, hl, rk, rf, rc, rn, rkp, rl, ht0, ht1, hd0, hd1⟩ := h
  exact ⟨by omega, by rw [List.length_set]; exact hk, by rw [List.length_set]; exact hf, by rw [List.length_set]; exact hc, by rw [List.length_set]; exact hn, by rw [List.length_set]; exact hkp, by rw [addL_len]; exact hl, rng_set rk g1.1 g1.2, rng_set rf g2.1 g2.2, rng_set rc g3.1 g3.2, rng_set rn g4.1 g4.2, rng_set rkp (by decide) (by decide), addL_rng (by decide) rl, ht0, ht1, hd0, hd1⟩
section AMJ
variable {A0 A1 A2 A3 A4 A5 : List (Option aE)} {re k f c n kp l tp le la td kt sh so had gr fi se to : List Int} {p g : Nat} {t d tl at_ sn him ik cu ou st rm : Int} {N : Nat}
variable {m : Nat}
theorem c_stm_t (htp : tp.length = 96) (hm9 : m ≤ 96) (rtp : rng tp 255) (htd : td.length = 192) (hle : le.length = 48) (hla : la.length = 48) {x j : Nat} (hj : j < 48) (hx : x ≤ 100) (h : wfS tp m x) : aEv mX8_statement 3 0 0 N [.inr 192] [A0, A1, A2, A3, A4, A5, (modSeg re k f c n kp l tp le la td kt sh so had gr fi se to (p : Int) t d (m : Int) (x : Int) (j : Int) him ik cu ou st rm)] (fun rv h2 => rv = some (.inl 1) ∧ ∃ le2 la2 td2 : List Int, le2.length = 48 ∧ la2.length = 48 ∧ td2.length = 192 ∧ (∀ e, le2.getD e 0 = if e = j then tp.getD x 0 else le.getD e 0) ∧ (∀ e, la2.getD e 0 = if e = j then (x : Int) else la.getD e 0) ∧ tdOK tp td2 j x ∧ (∀ e, e < 4 * j → td2.getD e 0 = td.getD e 0) ∧ h2 = [A0, A1, A2, A3, A4, A5, (modSeg re k f c n kp l tp le2 la2 td2 kt sh so had gr fi se to (p : Int) t d (m : Int) ((x + aTxLen.getD (fmI (tp.getD x 0)) 0) : Int) (j : Int) him ik cu ou st rm)]) := by
  have hxm : x < m := by have h1 := h.2.1; have h2 := (tx_two _ h.1).1; omega
  rcases fmI_code h.1 with hL | hL | hL | hL | hL | hL
  · have hfm : fmI (tp.getD x 0) = 0 := by rw [hL]; rfl
    have hg := wf_gd h
    rw [hfm] at hg
    refine aEv_mono (c_st_0t htp hm9 rtp htd hle hla hj hx hxm hL (fun e h1 h2 => hg e h1 h2)) ?_
    rintro v h2 ⟨e1, e2⟩
    refine ⟨e1, le.set j 112, la.set j (x : Int), ((((td.set (4 * j) (kdF (tp.getD (x + 1) 0))).set (4 * j + 1) (numL tp (x + 2) 1)).set (4 * j + 2) (numL tp (x + 3) 2)).set (4 * j + 3) (numL tp (x + 5) 2)), by rw [List.length_set]; exact hle, by rw [List.length_set]; exact hla, by simp only [List.length_set]; exact htd, by rw [hL]; exact fun e => getD_set (by omega) _ e, fun e => getD_set (by omega) _ e, ⟨fun _ => ⟨by rw [getD_set_ne (by omega), getD_set_ne (by omega), getD_set_ne (by omega), getD_set_self (by first | omega | (simp only [List.length_set]; omega))], by rw [getD_set_ne (by omega), getD_set_ne (by omega), getD_set_self (by first | omega | (simp only [List.length_set]; omega))], by rw [getD_set_ne (by omega), getD_set_self (by first | omega | (simp only [List.length_set]; omega))], by rw [getD_set_self (by first | omega | (simp only [List.length_set]; omega))]⟩, fun z => absurd (hfm.symm.trans z) (by decide), fun z => absurd (hfm.symm.trans z) (by decide), fun z => absurd (hfm.symm.trans z) (by decide), fun z => absurd (hfm.symm.trans z) (by decide), fun z => absurd (hfm.symm.trans z) (by decide)⟩, fun e he => by rw [getD_set_ne (by omega), getD_set_ne (by omega), getD_set_ne (by omega), getD_set_ne (by omega)], ?_⟩
    rw [hfm]; exact e2
  · have hfm : fmI (tp.getD x 0) = 1 := by rw [hL]; rfl
    have hg := wf_gd h
    rw [hfm] at hg
    refine aEv_mono (c_st_1t htp hm9 rtp htd hle hla hj hx hxm hL (fun e h1 h2 => hg e h1 h2)) ?_
    rintro v h2 ⟨e1, e2⟩
    refine ⟨e1, le.set j 97, la.set j (x : Int), ((td.set (4 * j) (numL tp (x + 1) 1)).set (4 * j + 1) (numL tp (x + 2) 2)), by rw [List.length_set]; exact hle, by rw [List.length_set]; exact hla, by simp only [List.length_set]; exact htd, by rw [hL]; exact fun e => getD_set (by omega) _ e, fun e => getD_set (by omega) _ e, ⟨fun z => absurd (hfm.symm.trans z) (by decide), fun _ => ⟨by rw [getD_set_ne (by omega), getD_set_self (by first | omega | (simp only [List.length_set]; omega))], by rw [getD_set_self (by first | omega | (simp only [List.length_set]; omega))]⟩, fun z => absurd (hfm.symm.trans z) (by decide), fun z => absurd (hfm.symm.trans z) (by decide), fun z => absurd (hfm.symm.trans z) (by decide), fun z => absurd (hfm.symm.trans z) (by decide)⟩, fun e he => by rw [getD_set_ne (by omega), getD_set_ne (by omega)], ?_⟩
    rw [hfm]; exact e2
  · have hfm : fmI (tp.getD x 0) = 2 := by rw [hL]; rfl
    have hg := wf_gd h
    rw [hfm] at hg
    refine aEv_mono (c_st_2t htp hm9 rtp htd hle hla hj hx hxm hL (fun e h1 h2 => hg e h1 h2)) ?_
    rintro v h2 ⟨e1, e2⟩
    refine ⟨e1, le.set j 108, la.set j (x : Int), (((td.set (4 * j) (numL tp (x + 1) 1)).set (4 * j + 1) (numL tp (x + 2) 1)).set (4 * j + 2) (numL tp (x + 3) 2)), by rw [List.length_set]; exact hle, by rw [List.length_set]; exact hla, by simp only [List.length_set]; exact htd, by rw [hL]; exact fun e => getD_set (by omega) _ e, fun e => getD_set (by omega) _ e, ⟨fun z => absurd (hfm.symm.trans z) (by decide), fun z => absurd (hfm.symm.trans z) (by decide), fun _ => ⟨by rw [getD_set_ne (by omega), getD_set_ne (by omega), getD_set_self (by first | omega | (simp only [List.length_set]; omega))], by rw [getD_set_ne (by omega), getD_set_self (by first | omega | (simp only [List.length_set]; omega))], by rw [getD_set_self (by first | omega | (simp only [List.length_set]; omega))]⟩, fun z => absurd (hfm.symm.trans z) (by decide), fun z => absurd (hfm.symm.trans z) (by decide), fun z => absurd (hfm.symm.trans z) (by decide)⟩, fun e he => by rw [getD_set_ne (by omega), getD_set_ne (by omega), getD_set_ne (by omega)], ?_⟩
    rw [hfm]; exact e2
  · have hfm : fmI (tp.getD x 0) = 3 := by rw [hL]; rfl
    have hg := wf_gd h
    rw [hfm] at hg
    refine aEv_mono (c_st_3t htp hm9 rtp htd hle hla hj hx hxm hL (fun e h1 h2 => hg e h1 h2)) ?_
    rintro v h2 ⟨e1, e2⟩
    refine ⟨e1, le.set j 107, la.set j (x : Int), ((td.set (4 * j) (numL tp (x + 1) 1)).set (4 * j + 1) (numL tp (x + 2) 4)), by rw [List.length_set]; exact hle, by rw [List.length_set]; exact hla, by simp only [List.length_set]; exact htd, by rw [hL]; exact fun e => getD_set (by omega) _ e, fun e => getD_set (by omega) _ e, ⟨fun z => absurd (hfm.symm.trans z) (by decide), fun z => absurd (hfm.symm.trans z) (by decide), fun z => absurd (hfm.symm.trans z) (by decide), fun _ => ⟨by rw [getD_set_ne (by omega), getD_set_self (by first | omega | (simp only [List.length_set]; omega))], by rw [getD_set_self (by first | omega | (simp only [List.length_set]; omega))]⟩, fun z => absurd (hfm.symm.trans z) (by decide), fun z => absurd (hfm.symm.trans z) (by decide)⟩, fun e he => by rw [getD_set_ne (by omega), getD_set_ne (by omega)], ?_⟩
    rw [hfm]; exact e2
  · have hfm : fmI (tp.getD x 0) = 4 := by rw [hL]; rfl
    have hg := wf_gd h
    rw [hfm] at hg
    refine aEv_mono (c_st_4t htp hm9 rtp htd hle hla hj hx hxm hL (fun e h1 h2 => hg e h1 h2)) ?_
    rintro v h2 ⟨e1, e2⟩
    refine ⟨e1, le.set j 115, la.set j (x : Int), (td.set (4 * j) (numL tp (x + 1) 3)), by rw [List.length_set]; exact hle, by rw [List.length_set]; exact hla, by simp only [List.length_set]; exact htd, by rw [hL]; exact fun e => getD_set (by omega) _ e, fun e => getD_set (by omega) _ e, ⟨fun z => absurd (hfm.symm.trans z) (by decide), fun z => absurd (hfm.symm.trans z) (by decide), fun z => absurd (hfm.symm.trans z) (by decide), fun z => absurd (hfm.symm.trans z) (by decide), fun _ => by rw [getD_set_self (by first | omega | (simp only [List.length_set]; omega))], fun z => absurd (hfm.symm.trans z) (by decide)⟩, fun e he => by rw [getD_set_ne (by omega)], ?_⟩
    rw [hfm]; exact e2
  · have hfm : fmI (tp.getD x 0) = 5 := by rw [hL]; rfl
    have hg := wf_gd h
    rw [hfm] at hg
    refine aEv_mono (c_st_5t htp hm9 rtp htd hle hla hj hx hxm hL (fun e h1 h2 => hg e h1 h2)) ?_
    rintro v h2 ⟨e1, e2⟩
    refine ⟨e1, le.set j 100, la.set j (x : Int), (td.set (4 * j) (numL tp (x + 1) 2)), by rw [List.length_set]; exact hle, by rw [List.length_set]; exact hla, by simp only [List.length_set]; exact htd, by rw [hL]; exact fun e => getD_set (by omega) _ e, fun e => getD_set (by omega) _ e, ⟨fun z => absurd (hfm.symm.trans z) (by decide), fun z => absurd (hfm.symm.trans z) (by decide), fun z => absurd (hfm.symm.trans z) (by decide), fun z => absurd (hfm.symm.trans z) (by decide), fun z => absurd (hfm.symm.trans z) (by decide), fun _ => by rw [getD_set_self (by first | omega | (simp only [List.length_set]; omega))]⟩, fun e he => by rw [getD_set_ne (by omega)], ?_⟩
    rw [hfm]; exact e2

theorem c_stm_f (htp : tp.length = 96) (hm9 : m ≤ 96) (rtp : rng tp 255) (htd : td.length = 192) (hle : le.length = 48) (hla : la.length = 48) {x j : Nat} (hj : j < 48) (hx : x ≤ 100) {s : Nat} (hx0 : x < m ∨ (m = 0 ∧ x = 0)) (h : ¬ wfS tp m x) : aEv mX8_statement 3 0 0 N [.inr 192] [A0, A1, A2, A3, A4, A5, (modSeg re k f c n kp l tp le la td kt sh so had gr fi se to (p : Int) t d (m : Int) (x : Int) (j : Int) him ik cu ou st rm)] (fun rv h2 => rv = some (.inl 0) ∧ ∃ (y : Nat) (le2 la2 td2 : List Int), fwF tp m (s + 1) x = (y : Int) ∧ le2.length = 48 ∧ la2.length = 48 ∧ td2.length = 192 ∧ h2 = [A0, A1, A2, A3, A4, A5, (modSeg re k f c n kp l tp le2 la2 td2 kt sh so had gr fi se to (p : Int) t d (m : Int) (y : Int) (j : Int) him ik cu ou st rm)]) := by
  by_cases hz : x < m ∧ fmI (tp.getD x 0) < 6
  · obtain ⟨hxm, hf6⟩ := hz
    obtain ⟨i, i1, i2, hb, hg⟩ := first_bad (P := gdA tp m x (fmI (tp.getD x 0))) (aTxLen.getD (fmI (tp.getD x 0)) 0) (by
      rcases Classical.em (∃ e, 1 ≤ e ∧ e < aTxLen.getD (fmI (tp.getD x 0)) 0 ∧ ¬ gdA tp m x (fmI (tp.getD x 0)) e) with y | y
      · exact y
      · exact absurd (gd_wf hf6 fun e h1 h2 => Classical.not_not.mp (fun w => y ⟨e, h1, h2, w⟩)) h)
    rcases fmI_code hf6 with hL | hL | hL | hL | hL | hL
    · have hfm : fmI (tp.getD x 0) = 0 := by rw [hL]; rfl
      have e3 := fwF_bad (s := s) hxm hf6 i1 i2 hg hb
      rw [hfm] at i2 hg hb
      refine aEv_mono (c_st_0f htp hm9 rtp htd hle hla hj hx hxm hL (i := i) i1 i2 hg hb) ?_
      rintro v h2 ⟨e1, td2, e2, e4⟩
      exact ⟨e1, x + i, le.set j 112, la.set j (x : Int), td2, e3, by rw [List.length_set]; exact hle, by rw [List.length_set]; exact hla, e2, e4⟩
    · have hfm : fmI (tp.getD x 0) = 1 := by rw [hL]; rfl
      have e3 := fwF_bad (s := s) hxm hf6 i1 i2 hg hb
      rw [hfm] at i2 hg hb
      refine aEv_mono (c_st_1f htp hm9 rtp htd hle hla hj hx hxm hL (i := i) i1 i2 hg hb) ?_
      rintro v h2 ⟨e1, td2, e2, e4⟩
      exact ⟨e1, x + i, le.set j 97, la.set j (x : Int), td2, e3, by rw [List.length_set]; exact hle, by rw [List.length_set]; exact hla, e2, e4⟩
    · have hfm : fmI (tp.getD x 0) = 2 := by rw [hL]; rfl
      have e3 := fwF_bad (s := s) hxm hf6 i1 i2 hg hb
      rw [hfm] at i2 hg hb
      refine aEv_mono (c_st_2f htp hm9 rtp htd hle hla hj hx hxm hL (i := i) i1 i2 hg hb) ?_
      rintro v h2 ⟨e1, td2, e2, e4⟩
      exact ⟨e1, x + i, le.set j 108, la.set j (x : Int), td2, e3, by rw [List.length_set]; exact hle, by rw [List.length_set]; exact hla, e2, e4⟩
    · have hfm : fmI (tp.getD x 0) = 3 := by rw [hL]; rfl
      have e3 := fwF_bad (s := s) hxm hf6 i1 i2 hg hb
      rw [hfm] at i2 hg hb
      refine aEv_mono (c_st_3f htp hm9 rtp htd hle hla hj hx hxm hL (i := i) i1 i2 hg hb) ?_
      rintro v h2 ⟨e1, td2, e2, e4⟩
      exact ⟨e1, x + i, le.set j 107, la.set j (x : Int), td2, e3, by rw [List.length_set]; exact hle, by rw [List.length_set]; exact hla, e2, e4⟩
    · have hfm : fmI (tp.getD x 0) = 4 := by rw [hL]; rfl
      have e3 := fwF_bad (s := s) hxm hf6 i1 i2 hg hb
      rw [hfm] at i2 hg hb
      refine aEv_mono (c_st_4f htp hm9 rtp htd hle hla hj hx hxm hL (i := i) i1 i2 hg hb) ?_
      rintro v h2 ⟨e1, td2, e2, e4⟩
      exact ⟨e1, x + i, le.set j 115, la.set j (x : Int), td2, e3, by rw [List.length_set]; exact hle, by rw [List.length_set]; exact hla, e2, e4⟩
    · have hfm : fmI (tp.getD x 0) = 5 := by rw [hL]; rfl
      have e3 := fwF_bad (s := s) hxm hf6 i1 i2 hg hb
      rw [hfm] at i2 hg hb
      refine aEv_mono (c_st_5f htp hm9 rtp htd hle hla hj hx hxm hL (i := i) i1 i2 hg hb) ?_
      rintro v h2 ⟨e1, td2, e2, e4⟩
      exact ⟨e1, x + i, le.set j 100, la.set j (x : Int), td2, e3, by rw [List.length_set]; exact hle, by rw [List.length_set]; exact hla, e2, e4⟩
  · refine aEv_mono (c_st_6 htp hm9 rtp (x := x) (j := j) hx hz) ?_
    rintro v h2 ⟨e1, e2⟩
    refine ⟨e1, x, le, la, td, ?_, hle, hla, htd, e2⟩
    rcases hx0 with y | ⟨y1, y2⟩
    · exact fwF_no (by omega) (by have := fmI_le (tp.getD x 0); omega)
    · rw [fwF_end (by omega), if_pos y1, y2]; rfl
set_option maxRecDepth 100000 in
set_option maxHeartbeats 4000000 in
theorem c_cod_t (hb : bOK p k f c n kp l t d) (hsh : sh.length = 7) (hso : so.length = 7) (hd9 : d ≤ 999) {o : Nat} (h : 1 ≤ o ∧ o ≤ 60 ∧ d + (o : Int) ≤ 999) : aEv mX8_comesDays 7 0 0 N [.inr 192, .inl (o : Int)] [A0, A1, A2, A3, A4, A5, (modSeg re k f c n kp l tp le la td kt sh so had gr fi se to (p : Int) t d tl at_ sn him ik cu 0 st rm)] ((fun rv h => rv = some (.inl 1) ∧ ∃ (sh2 so2 : List Int) (st2 : Int), sh2.length = 7 ∧ so2.length = 7 ∧ h = [A0, A1, A2, A3, A4, A5, (modSeg re k f c n (dayIt p (hasM p k f c l t) n o kp) l tp le la td kt sh2 so2 had gr fi se to (p : Int) t (d + (o : Int)) tl at_ sn him ik cu 0 st2 rm)])) := by
  obtain ⟨hp7, hk, hf, hc, hn, hkp, hl, rk, rf, rc, rn, rkp, rl, ht0, ht1, hd0, hd1⟩ := id hb
  refine aEv_of okX8_comesDays caX8_comesDays (Nat.le_of_ble_eq_true rfl) ?_
  refine aGo okX8_comesDays 3 (f' := (4, [some (.inr 192), some (.inl (o : Int)), none], [.inl 60, .inl 1, .inl (o : Int)], _)) rfl ?_
  by_cases hc4 : 1 ≤ (o : Int) ∧ (o : Int) ≤ 60
  · refine b_vS (as := [.inl (o : Int), .inl 1, .inl 60]) (rest := []) (.inl 1) okX8_comesDays rfl lkX8_97 caX8_isIn (Nat.le_of_ble_eq_true rfl) rfl (Nat.le_of_ble_eq_true rfl) rfl (c_isIn_t ⟨by omega, by omega⟩ ⟨by omega, by omega⟩ ⟨by omega, by omega⟩ hc4) ?_
    refine b0_eq (tgt := 22) okX8_comesDays rfl rfl ⟨by omega, by omega⟩ (fun h7 => absurd h7 (by omega)) (fun h7 => ?_)
    refine aGo okX8_comesDays 5 (f' := (19, [some (.inr 192), some (.inl (o : Int)), none], [.inl 999, .inl (d + (o : Int))], _)) rfl ?_
    refine b_le (tgt := 24) okX8_comesDays rfl rfl ⟨by omega, by omega⟩ ⟨by omega, by omega⟩ (fun h19 => ?_) (fun h19 => ?_)
    · refine aGo okX8_comesDays 2 (f' := (26, [some (.inr 192), some (.inl (o : Int)), some (.inl 0)], [], _)) rfl ?_
      have lp : ∀ (j9 v : Nat) (so1 : List Int) (sh1 : List Int) (st1 : Int), v + j9 = o → (so1.length = 7) → (sh1.length = 7) → AW mX8_comesDays 7 0 0 N none (fun rv h => rv = some (.inl 1) ∧ ∃ (sh2 so2 : List Int) (st2 : Int), sh2.length = 7 ∧ so2.length = 7 ∧ h = [A0, A1, A2, A3, A4, A5, (modSeg re k f c n (dayIt p (hasM p k f c l t) n o kp) l tp le la td kt sh2 so2 had gr fi se to (p : Int) t (d + (o : Int)) tl at_ sn him ik cu 0 st2 rm)]) (26, [some (.inr 192), some (.inl (o : Int)), some (.inl (v : Int))], [], [A0, A1, A2, A3, A4, A5, (modSeg re k f c n (dayIt p (hasM p k f c l t) n v kp) l tp le la td kt sh1 so1 had gr fi se to (p : Int) t (d + (v : Int)) tl at_ sn him ik cu 0 st1 rm)]) := by
        intro j9
        induction j9 with
        | zero =>
          intro v so1 sh1 st1 hij x1 x3
          obtain rfl : o = v := by omega
          refine aGo okX8_comesDays 2 (f' := (28, [some (.inr 192), some (.inl (o : Int)), some (.inl (o : Int))], [.inl (o : Int), .inl (o : Int)], _)) rfl ?_
          refine b_ge (tgt := 45) okX8_comesDays rfl rfl ⟨by omega, by omega⟩ ⟨by omega, by omega⟩ (fun h28 => ?_) (fun h28 => absurd h28 (by omega))
          refine aGo okX8_comesDays 1 (f' := (46, [some (.inr 192), some (.inl (o : Int)), some (.inl (o : Int))], [.inl 1], _)) rfl ?_
          exact b_ret (v := (some (.inl 1))) ⟨rfl, Or.inr ⟨rfl, Or.inr rfl⟩⟩ ⟨rfl, sh1, so1, st1, x3, x1, rfl⟩ rfl
        | succ j9 ih =>
          intro v so1 sh1 st1 hij x1 x3
          refine aGo okX8_comesDays 2 (f' := (28, [some (.inr 192), some (.inl (o : Int)), some (.inl (v : Int))], [.inl (o : Int), .inl (v : Int)], _)) rfl ?_
          refine b_ge (tgt := 45) okX8_comesDays rfl rfl ⟨by omega, by omega⟩ ⟨by omega, by omega⟩ (fun h28 => absurd h28 (by omega)) (fun h28 => ?_)
          refine aGo okX8_comesDays 3 (f' := (36, [some (.inr 192), some (.inl (o : Int)), some (.inl (v : Int))], [.inl (-9), .inl (-9), .inr 192], _)) rfl ?_
          refine b_vE (as := [.inl (-9), .inl (-9)]) (rest := []) (k := 192) okX8_comesDays rfl lkX8_127 caX8_goesDay (Nat.le_of_ble_eq_true rfl) rfl (Nat.le_of_ble_eq_true rfl) rfl rfl rfl (c_goesDay (bOK_it hb _ (by omega)) x3 x1) ?_
          rintro _ _ ⟨rfl, sh3, lsh3, rfl⟩
          refine aGo okX8_comesDays 2 (f' := (26, [some (.inr 192), some (.inl (o : Int)), some (.inl ((v : Int) + 1))], [], _)) rfl ?_
          refine b_cast (f' := (26, [some (.inr 192), some (.inl (o : Int)), some (.inl ((v : Int) + 1))], [], [A0, A1, A2, A3, A4, A5, (modSeg re k f c n (dayIt p (hasM p k f c l t) n (v + 1) kp) l tp le la td kt sh3 (soL (fun q => decide (dayV (dayIt p (hasM p k f c l t) n v kp) (hasM p k f c l t) n q < 0)) so1 p) had gr fi se to (p : Int) t ((d + (v : Int)) + 1) tl at_ sn him ik cu 0 (cntN p (fun q => decide (dayV (dayIt p (hasM p k f c l t) n v kp) (hasM p k f c l t) n q < 0))) rm)])) rfl ?_
          refine b_cast (f' := (26, [some (.inr 192), some (.inl (o : Int)), some (.inl ((v : Int) + 1))], [], [A0, A1, A2, A3, A4, A5, (modSeg re k f c n (dayIt p (hasM p k f c l t) n (v + 1) kp) l tp le la td kt sh3 (soL (fun q => decide (dayV (dayIt p (hasM p k f c l t) n v kp) (hasM p k f c l t) n q < 0)) so1 p) had gr fi se to (p : Int) t (d + (((v + 1) : Nat) : Int)) tl at_ sn him ik cu 0 (cntN p (fun q => decide (dayV (dayIt p (hasM p k f c l t) n v kp) (hasM p k f c l t) n q < 0))) rm)])) (by rw [show d + (v : Int) + 1 = d + ((v + 1 : Nat) : Int) by omega]) ?_
          exact ih (v + 1) _ _ _ (by omega) (by rw [soL_len]; exact x1) lsh3
      refine b_cast (f' := (26, [some (.inr 192), some (.inl (o : Int)), some (.inl 0)], [], [A0, A1, A2, A3, A4, A5, (modSeg re k f c n kp l tp le la td kt sh so had gr fi se to (p : Int) t (d + ((0 : Nat) : Int)) tl at_ sn him ik cu 0 st rm)])) (by rw [show d + ((0 : Nat) : Int) = d by omega]) ?_
      exact lp o 0 so sh st (by omega) hso hsh
    · exfalso; omega
  · refine b_vS (as := [.inl (o : Int), .inl 1, .inl 60]) (rest := []) (.inl 0) okX8_comesDays rfl lkX8_97 caX8_isIn (Nat.le_of_ble_eq_true rfl) rfl (Nat.le_of_ble_eq_true rfl) rfl (c_isIn_f ⟨by omega, by omega⟩ ⟨by omega, by omega⟩ ⟨by omega, by omega⟩ hc4) ?_
    refine b0_eq (tgt := 22) okX8_comesDays rfl rfl ⟨by omega, by omega⟩ (fun h7 => ?_) (fun h7 => absurd h7 (by omega))
    exfalso; omega
set_option maxRecDepth 100000 in
set_option maxHeartbeats 4000000 in
theorem c_cod_f (hb : bOK p k f c n kp l t d) (hd9 : d ≤ 999) {o : Nat} (ho : o < 1000) (h : ¬ (1 ≤ o ∧ o ≤ 60 ∧ d + (o : Int) ≤ 999)) : aEv mX8_comesDays 7 0 0 N [.inr 192, .inl (o : Int)] [A0, A1, A2, A3, A4, A5, (modSeg re k f c n kp l tp le la td kt sh so had gr fi se to (p : Int) t d tl at_ sn him ik cu 0 st rm)] (aQx (some (.inl 0)) [A0, A1, A2, A3, A4, A5, (modSeg re k f c n kp l tp le la td kt sh so had gr fi se to (p : Int) t d tl at_ sn him ik cu 0 st rm)]) := by
  obtain ⟨hp7, hk, hf, hc, hn, hkp, hl, rk, rf, rc, rn, rkp, rl, ht0, ht1, hd0, hd1⟩ := id hb
  refine aEv_of okX8_comesDays caX8_comesDays (Nat.le_of_ble_eq_true rfl) ?_
  refine aGo okX8_comesDays 3 (f' := (4, [some (.inr 192), some (.inl (o : Int)), none], [.inl 60, .inl 1, .inl (o : Int)], _)) rfl ?_
  by_cases hc4 : 1 ≤ (o : Int) ∧ (o : Int) ≤ 60
  · refine b_vS (as := [.inl (o : Int), .inl 1, .inl 60]) (rest := []) (.inl 1) okX8_comesDays rfl lkX8_97 caX8_isIn (Nat.le_of_ble_eq_true rfl) rfl (Nat.le_of_ble_eq_true rfl) rfl (c_isIn_t ⟨by omega, by omega⟩ ⟨by omega, by omega⟩ ⟨by omega, by omega⟩ hc4) ?_
    refine b0_eq (tgt := 22) okX8_comesDays rfl rfl ⟨by omega, by omega⟩ (fun h7 => absurd h7 (by omega)) (fun h7 => ?_)
    refine aGo okX8_comesDays 5 (f' := (19, [some (.inr 192), some (.inl (o : Int)), none], [.inl 999, .inl (d + (o : Int))], _)) rfl ?_
    refine b_le (tgt := 24) okX8_comesDays rfl rfl ⟨by omega, by omega⟩ ⟨by omega, by omega⟩ (fun h19 => ?_) (fun h19 => ?_)
    · exfalso; omega
    · refine aGo okX8_comesDays 1 (f' := (23, [some (.inr 192), some (.inl (o : Int)), none], [.inl 0], _)) rfl ?_
      exact b_ret (v := (some (.inl 0))) ⟨rfl, Or.inr ⟨rfl, Or.inl rfl⟩⟩ ⟨rfl, rfl⟩ rfl
  · refine b_vS (as := [.inl (o : Int), .inl 1, .inl 60]) (rest := []) (.inl 0) okX8_comesDays rfl lkX8_97 caX8_isIn (Nat.le_of_ble_eq_true rfl) rfl (Nat.le_of_ble_eq_true rfl) rfl (c_isIn_f ⟨by omega, by omega⟩ ⟨by omega, by omega⟩ ⟨by omega, by omega⟩ hc4) ?_
    refine b0_eq (tgt := 22) okX8_comesDays rfl rfl ⟨by omega, by omega⟩ (fun h7 => ?_) (fun h7 => absurd h7 (by omega))
    refine aGo okX8_comesDays 1 (f' := (23, [some (.inr 192), some (.inl (o : Int)), none], [.inl 0], _)) rfl ?_
    exact b_ret (v := (some (.inl 0))) ⟨rfl, Or.inr ⟨rfl, Or.inl rfl⟩⟩ ⟨rfl, rfl⟩ rfl
set_option maxRecDepth 100000 in
set_option maxHeartbeats 4000000 in
theorem c_co1_t (hb : bOK p k f c n kp l t d) (htd : td.length = 192) {e x : Nat} (he : e < 48) (hq : td.getD (4 * e) 0 = kdF (tp.getD (x + 1) 0) ∧ td.getD (4 * e + 1) 0 = numL tp (x + 2) 1 ∧ td.getD (4 * e + 2) 0 = numL tp (x + 3) 2 ∧ td.getD (4 * e + 3) 0 = numL tp (x + 5) 2) (b3 : 0 ≤ numL tp (x + 3) 2 ∧ numL tp (x + 3) 2 < 100) (hp6 : p ≤ 6) (h : numL tp (x + 3) 2 ≤ 35 ∧ p < 6) : aEv mX8_comesOne 1 0 0 N [.inr 192, .inl (((4 * e) : Nat) : Int)] [A0, A1, A2, A3, A4, A5, (modSeg re k f c n kp l tp le la td kt sh so had gr fi se to (p : Int) t d tl at_ sn him ik cu 0 st rm)] (aQx (some (.inl 1)) [A0, A1, A2, A3, A4, A5, (modSeg re (k.set p (kdF (tp.getD (x + 1) 0))) (f.set p (numL tp (x + 2) 1)) (c.set p (numL tp (x + 3) 2)) (n.set p (numL tp (x + 5) 2)) (kp.set p 0) (addL p l 7) tp le la td kt sh so had gr fi se to (((p + 1) : Nat) : Int) t d tl at_ sn him ik cu 0 st rm)]) := by
  obtain ⟨hp7, hk, hf, hc, hn, hkp, hl, rk, rf, rc, rn, rkp, rl, ht0, ht1, hd0, hd1⟩ := id hb
  refine aEv_of okX8_comesOne caX8_comesOne (Nat.le_of_ble_eq_true rfl) ?_
  refine aGo okX8_comesOne 5 (f' := (7, [some (.inr 192), some (.inl (((4 * e) : Nat) : Int))], [.inl ((((4 * e) : Nat) : Int) + 2), .inr 203], _)) rfl ?_
  refine b_ald (k := 203) (j := ((4 * e) + 2)) (a := td) okX8_comesOne rfl rfl (by omega) (by omega) (by omega) ?_
  refine b_cast (f' := (8, [some (.inr 192), some (.inl (((4 * e) : Nat) : Int))], [.inl (numL tp (x + 3) 2)], [A0, A1, A2, A3, A4, A5, (modSeg re k f c n kp l tp le la td kt sh so had gr fi se to (p : Int) t d tl at_ sn him ik cu 0 st rm)])) (congrArg (fun q : Int => ((8, [some (.inr 192), some (.inl (((4 * e) : Nat) : Int))], .inl q :: [], [A0, A1, A2, A3, A4, A5, (modSeg re k f c n kp l tp le la td kt sh so had gr fi se to (p : Int) t d tl at_ sn him ik cu 0 st rm)]) : aF)) (hq.2.2.1)) ?_
  by_cases hc8 : 0 ≤ (numL tp (x + 3) 2) ∧ (numL tp (x + 3) 2) ≤ 35
  · refine b_vS (as := [.inl (numL tp (x + 3) 2)]) (rest := []) (.inl 1) okX8_comesOne rfl lkX8_117 caX8_isCell (Nat.le_of_ble_eq_true rfl) rfl (Nat.le_of_ble_eq_true rfl) rfl (c_mCell_t hc8) ?_
    refine b0_eq (tgt := 23) okX8_comesOne rfl rfl ⟨by omega, by omega⟩ (fun h11 => absurd h11 (by omega)) (fun h11 => ?_)
    refine aGo okX8_comesOne 3 (f' := (20, [some (.inr 192), some (.inl (((4 * e) : Nat) : Int))], [.inl 6, .inl (p : Int)], _)) rfl ?_
    refine b_ne (tgt := 25) okX8_comesOne rfl rfl ⟨by omega, by omega⟩ ⟨by omega, by omega⟩ (fun h20 => ?_) (fun h20 => ?_)
    · refine aGo okX8_comesOne 4 (f' := (31, [some (.inr 192), some (.inl (((4 * e) : Nat) : Int))], [.inl (((4 * e) : Nat) : Int), .inr 203, .inr 192], _)) rfl ?_
      refine b_ald (k := 203) (j := (4 * e)) (a := td) okX8_comesOne rfl rfl (by omega) (by omega) (by omega) ?_
      refine b_cast (f' := (32, [some (.inr 192), some (.inl (((4 * e) : Nat) : Int))], [.inl (kdF (tp.getD (x + 1) 0)), .inr 192], [A0, A1, A2, A3, A4, A5, (modSeg re k f c n kp l tp le la td kt sh so had gr fi se to (p : Int) t d tl at_ sn him ik cu 0 st rm)])) (congrArg (fun q : Int => ((32, [some (.inr 192), some (.inl (((4 * e) : Nat) : Int))], .inl q :: [.inr 192], [A0, A1, A2, A3, A4, A5, (modSeg re k f c n kp l tp le la td kt sh so had gr fi se to (p : Int) t d tl at_ sn him ik cu 0 st rm)]) : aF)) (hq.1)) ?_
      refine aGo okX8_comesOne 5 (f' := (39, [some (.inr 192), some (.inl (((4 * e) : Nat) : Int))], [.inl ((((4 * e) : Nat) : Int) + 1), .inr 203, .inl (kdF (tp.getD (x + 1) 0)), .inr 192], _)) rfl ?_
      refine b_ald (k := 203) (j := ((4 * e) + 1)) (a := td) okX8_comesOne rfl rfl (by omega) (by omega) (by omega) ?_
      refine b_cast (f' := (40, [some (.inr 192), some (.inl (((4 * e) : Nat) : Int))], [.inl (numL tp (x + 2) 1), .inl (kdF (tp.getD (x + 1) 0)), .inr 192], [A0, A1, A2, A3, A4, A5, (modSeg re k f c n kp l tp le la td kt sh so had gr fi se to (p : Int) t d tl at_ sn him ik cu 0 st rm)])) (congrArg (fun q : Int => ((40, [some (.inr 192), some (.inl (((4 * e) : Nat) : Int))], .inl q :: [.inl (kdF (tp.getD (x + 1) 0)), .inr 192], [A0, A1, A2, A3, A4, A5, (modSeg re k f c n kp l tp le la td kt sh so had gr fi se to (p : Int) t d tl at_ sn him ik cu 0 st rm)]) : aF)) (hq.2.1)) ?_
      refine aGo okX8_comesOne 5 (f' := (47, [some (.inr 192), some (.inl (((4 * e) : Nat) : Int))], [.inl ((((4 * e) : Nat) : Int) + 2), .inr 203, .inl (numL tp (x + 2) 1), .inl (kdF (tp.getD (x + 1) 0)), .inr 192], _)) rfl ?_
      refine b_ald (k := 203) (j := ((4 * e) + 2)) (a := td) okX8_comesOne rfl rfl (by omega) (by omega) (by omega) ?_
      refine b_cast (f' := (48, [some (.inr 192), some (.inl (((4 * e) : Nat) : Int))], [.inl (numL tp (x + 3) 2), .inl (numL tp (x + 2) 1), .inl (kdF (tp.getD (x + 1) 0)), .inr 192], [A0, A1, A2, A3, A4, A5, (modSeg re k f c n kp l tp le la td kt sh so had gr fi se to (p : Int) t d tl at_ sn him ik cu 0 st rm)])) (congrArg (fun q : Int => ((48, [some (.inr 192), some (.inl (((4 * e) : Nat) : Int))], .inl q :: [.inl (numL tp (x + 2) 1), .inl (kdF (tp.getD (x + 1) 0)), .inr 192], [A0, A1, A2, A3, A4, A5, (modSeg re k f c n kp l tp le la td kt sh so had gr fi se to (p : Int) t d tl at_ sn him ik cu 0 st rm)]) : aF)) (hq.2.2.1)) ?_
      refine aGo okX8_comesOne 5 (f' := (55, [some (.inr 192), some (.inl (((4 * e) : Nat) : Int))], [.inl ((((4 * e) : Nat) : Int) + 3), .inr 203, .inl (numL tp (x + 3) 2), .inl (numL tp (x + 2) 1), .inl (kdF (tp.getD (x + 1) 0)), .inr 192], _)) rfl ?_
      refine b_ald (k := 203) (j := ((4 * e) + 3)) (a := td) okX8_comesOne rfl rfl (by omega) (by omega) (by omega) ?_
      refine b_cast (f' := (56, [some (.inr 192), some (.inl (((4 * e) : Nat) : Int))], [.inl (numL tp (x + 5) 2), .inl (numL tp (x + 3) 2), .inl (numL tp (x + 2) 1), .inl (kdF (tp.getD (x + 1) 0)), .inr 192], [A0, A1, A2, A3, A4, A5, (modSeg re k f c n kp l tp le la td kt sh so had gr fi se to (p : Int) t d tl at_ sn him ik cu 0 st rm)])) (congrArg (fun q : Int => ((56, [some (.inr 192), some (.inl (((4 * e) : Nat) : Int))], .inl q :: [.inl (numL tp (x + 3) 2), .inl (numL tp (x + 2) 1), .inl (kdF (tp.getD (x + 1) 0)), .inr 192], [A0, A1, A2, A3, A4, A5, (modSeg re k f c n kp l tp le la td kt sh so had gr fi se to (p : Int) t d tl at_ sn him ik cu 0 st rm)]) : aF)) (hq.2.2.2)) ?_
      refine b_vE (as := [.inl (kdF (tp.getD (x + 1) 0)), .inl (numL tp (x + 2) 1), .inl (numL tp (x + 3) 2), .inl (numL tp (x + 5) 2)]) (rest := []) (k := 192) okX8_comesOne rfl lkX8_120 caX8_adds (Nat.le_of_ble_eq_true rfl) rfl (Nat.le_of_ble_eq_true rfl) rfl rfl rfl (c_adds (x := (kdF (tp.getD (x + 1) 0))) (y := (numL tp (x + 2) 1)) (z := (numL tp (x + 3) 2)) (v := (numL tp (x + 5) 2)) hp6 hk hf hc hn hkp hl) ?_
      rintro _ _ ⟨rfl, rfl⟩
      refine aGo okX8_comesOne 1 (f' := (60, [some (.inr 192), some (.inl (((4 * e) : Nat) : Int))], [.inl 1], _)) rfl ?_
      exact b_ret (v := (some (.inl 1))) ⟨rfl, Or.inr ⟨rfl, Or.inr rfl⟩⟩ ⟨rfl, rfl⟩ rfl
    · exfalso; omega
  · refine b_vS (as := [.inl (numL tp (x + 3) 2)]) (rest := []) (.inl 0) okX8_comesOne rfl lkX8_117 caX8_isCell (Nat.le_of_ble_eq_true rfl) rfl (Nat.le_of_ble_eq_true rfl) rfl (c_mCell_f ⟨by omega, by omega⟩ hc8) ?_
    refine b0_eq (tgt := 23) okX8_comesOne rfl rfl ⟨by omega, by omega⟩ (fun h11 => ?_) (fun h11 => absurd h11 (by omega))
    exfalso; omega
set_option maxRecDepth 100000 in
set_option maxHeartbeats 4000000 in
theorem c_co1_f (hb : bOK p k f c n kp l t d) (htd : td.length = 192) {e x : Nat} (he : e < 48) (hq : td.getD (4 * e) 0 = kdF (tp.getD (x + 1) 0) ∧ td.getD (4 * e + 1) 0 = numL tp (x + 2) 1 ∧ td.getD (4 * e + 2) 0 = numL tp (x + 3) 2 ∧ td.getD (4 * e + 3) 0 = numL tp (x + 5) 2) (b3 : 0 ≤ numL tp (x + 3) 2 ∧ numL tp (x + 3) 2 < 100) (hp6 : p ≤ 6) (h : ¬ (numL tp (x + 3) 2 ≤ 35 ∧ p < 6)) : aEv mX8_comesOne 1 0 0 N [.inr 192, .inl (((4 * e) : Nat) : Int)] [A0, A1, A2, A3, A4, A5, (modSeg re k f c n kp l tp le la td kt sh so had gr fi se to (p : Int) t d tl at_ sn him ik cu 0 st rm)] (aQx (some (.inl 0)) [A0, A1, A2, A3, A4, A5, (modSeg re k f c n kp l tp le la td kt sh so had gr fi se to (p : Int) t d tl at_ sn him ik cu 0 st rm)]) := by
  obtain ⟨hp7, hk, hf, hc, hn, hkp, hl, rk, rf, rc, rn, rkp, rl, ht0, ht1, hd0, hd1⟩ := id hb
  refine aEv_of okX8_comesOne caX8_comesOne (Nat.le_of_ble_eq_true rfl) ?_
  refine aGo okX8_comesOne 5 (f' := (7, [some (.inr 192), some (.inl (((4 * e) : Nat) : Int))], [.inl ((((4 * e) : Nat) : Int) + 2), .inr 203], _)) rfl ?_
  refine b_ald (k := 203) (j := ((4 * e) + 2)) (a := td) okX8_comesOne rfl rfl (by omega) (by omega) (by omega) ?_
  refine b_cast (f' := (8, [some (.inr 192), some (.inl (((4 * e) : Nat) : Int))], [.inl (numL tp (x + 3) 2)], [A0, A1, A2, A3, A4, A5, (modSeg re k f c n kp l tp le la td kt sh so had gr fi se to (p : Int) t d tl at_ sn him ik cu 0 st rm)])) (congrArg (fun q : Int => ((8, [some (.inr 192), some (.inl (((4 * e) : Nat) : Int))], .inl q :: [], [A0, A1, A2, A3, A4, A5, (modSeg re k f c n kp l tp le la td kt sh so had gr fi se to (p : Int) t d tl at_ sn him ik cu 0 st rm)]) : aF)) (hq.2.2.1)) ?_
  by_cases hc8 : 0 ≤ (numL tp (x + 3) 2) ∧ (numL tp (x + 3) 2) ≤ 35
  · refine b_vS (as := [.inl (numL tp (x + 3) 2)]) (rest := []) (.inl 1) okX8_comesOne rfl lkX8_117 caX8_isCell (Nat.le_of_ble_eq_true rfl) rfl (Nat.le_of_ble_eq_true rfl) rfl (c_mCell_t hc8) ?_
    refine b0_eq (tgt := 23) okX8_comesOne rfl rfl ⟨by omega, by omega⟩ (fun h11 => absurd h11 (by omega)) (fun h11 => ?_)
    refine aGo okX8_comesOne 3 (f' := (20, [some (.inr 192), some (.inl (((4 * e) : Nat) : Int))], [.inl 6, .inl (p : Int)], _)) rfl ?_
    refine b_ne (tgt := 25) okX8_comesOne rfl rfl ⟨by omega, by omega⟩ ⟨by omega, by omega⟩ (fun h20 => ?_) (fun h20 => ?_)
    · exfalso; omega
    · refine aGo okX8_comesOne 1 (f' := (24, [some (.inr 192), some (.inl (((4 * e) : Nat) : Int))], [.inl 0], _)) rfl ?_
      exact b_ret (v := (some (.inl 0))) ⟨rfl, Or.inr ⟨rfl, Or.inl rfl⟩⟩ ⟨rfl, rfl⟩ rfl
  · refine b_vS (as := [.inl (numL tp (x + 3) 2)]) (rest := []) (.inl 0) okX8_comesOne rfl lkX8_117 caX8_isCell (Nat.le_of_ble_eq_true rfl) rfl (Nat.le_of_ble_eq_true rfl) rfl (c_mCell_f ⟨by omega, by omega⟩ hc8) ?_
    refine b0_eq (tgt := 23) okX8_comesOne rfl rfl ⟨by omega, by omega⟩ (fun h11 => ?_) (fun h11 => absurd h11 (by omega))
    refine aGo okX8_comesOne 1 (f' := (24, [some (.inr 192), some (.inl (((4 * e) : Nat) : Int))], [.inl 0], _)) rfl ?_
    exact b_ret (v := (some (.inl 0))) ⟨rfl, Or.inr ⟨rfl, Or.inl rfl⟩⟩ ⟨rfl, rfl⟩ rfl
set_option maxRecDepth 100000 in
set_option maxHeartbeats 4000000 in
theorem c_come_0t (hb : bOK p k f c n kp l t d) (hsh : sh.length = 7) (hso : so.length = 7) (hd9 : d ≤ 999) (hp6 : p ≤ 6) (htd : td.length = 192) (hle : le.length = 48) {e x : Nat} (he : e < 48) (hwf : wfS tp m x) (hlL : le.getD e 0 = 112) (hL : tp.getD x 0 = 112) (htd2 : tdOK tp td e x) (hB : (numL tp (x + 3) 2 ≤ 35 ∧ p < 6)) : aEv mX8_comes 8 0 0 N [.inr 192, .inl (e : Int)] [A0, A1, A2, A3, A4, A5, (modSeg re k f c n kp l tp le la td kt sh so had gr fi se to (p : Int) t d tl at_ sn him ik cu 0 st rm)] ((fun rv h => rv = some (.inl 1) ∧ ∃ (sh2 so2 : List Int) (st2 : Int), sh2.length = 7 ∧ so2.length = 7 ∧ bOKs (sayS tp x (k, f, c, n, kp, l, p, t, d)) ∧ h = [A0, A1, A2, A3, A4, A5, (modSeg re ((sayS tp x (k, f, c, n, kp, l, p, t, d)).1) ((sayS tp x (k, f, c, n, kp, l, p, t, d)).2.1) ((sayS tp x (k, f, c, n, kp, l, p, t, d)).2.2.1) ((sayS tp x (k, f, c, n, kp, l, p, t, d)).2.2.2.1) ((sayS tp x (k, f, c, n, kp, l, p, t, d)).2.2.2.2.1) ((sayS tp x (k, f, c, n, kp, l, p, t, d)).2.2.2.2.2.1) tp le la td kt sh2 so2 had gr fi se to ((sayS tp x (k, f, c, n, kp, l, p, t, d)).2.2.2.2.2.2.1 : Int) ((sayS tp x (k, f, c, n, kp, l, p, t, d)).2.2.2.2.2.2.2.1) ((sayS tp x (k, f, c, n, kp, l, p, t, d)).2.2.2.2.2.2.2.2) tl at_ sn him ik cu 0 st2 rm)])) := by
  obtain ⟨hp7, hk, hf, hc, hn, hkp, hl, rk, rf, rc, rn, rkp, rl, ht0, ht1, hd0, hd1⟩ := id hb
  have hfm : fmI (tp.getD x 0) = 0 := by rw [hL]; rfl
  have b2 := wf_num hwf hfm (a := 2) (b := 1) (by decide) (by decide) (by decide +kernel)
  have b2q : (10 : Int) ^ 1 = 10 := by decide
  rw [b2q] at b2
  have b3 := wf_num hwf hfm (a := 3) (b := 2) (by decide) (by decide) (by decide +kernel)
  have b3q : (10 : Int) ^ 2 = 100 := by decide
  rw [b3q] at b3
  have b5 := wf_num hwf hfm (a := 5) (b := 2) (by decide) (by decide) (by decide +kernel)
  have b5q : (10 : Int) ^ 2 = 100 := by decide
  rw [b5q] at b5
  have bk := hwf.2.2 1 (by decide) (by rw [hfm]; decide)
  rw [hfm, show chr 0 1 = 63 by decide +kernel] at bk
  have bk2 := fit_kind bk
  have hq := htd2.1 hfm
  refine aEv_of okX8_comes caX8_comes (Nat.le_of_ble_eq_true rfl) ?_
  refine aGo okX8_comes 4 (f' := (4, [some (.inr 192), some (.inl (e : Int)), some (.inl (4 * (e : Int)))], [], _)) rfl ?_
  refine b_cast (f' := (4, [some (.inr 192), some (.inl (e : Int)), some (.inl (((4 * e) : Nat) : Int))], [], [A0, A1, A2, A3, A4, A5, (modSeg re k f c n kp l tp le la td kt sh so had gr fi se to (p : Int) t d tl at_ sn him ik cu 0 st rm)])) (rfl) ?_
  refine aGo okX8_comes 3 (f' := (9, [some (.inr 192), some (.inl (e : Int)), some (.inl (((4 * e) : Nat) : Int))], [.inl (e : Int), .inr 201], _)) rfl ?_
  refine b_ald (k := 201) (j := e) (a := le) okX8_comes rfl rfl (by omega) (by omega) (by omega) ?_
  refine b_cast (f' := (10, [some (.inr 192), some (.inl (e : Int)), some (.inl (((4 * e) : Nat) : Int))], [.inl (112)], [A0, A1, A2, A3, A4, A5, (modSeg re k f c n kp l tp le la td kt sh so had gr fi se to (p : Int) t d tl at_ sn him ik cu 0 st rm)])) (congrArg (fun q : Int => ((10, [some (.inr 192), some (.inl (e : Int)), some (.inl (((4 * e) : Nat) : Int))], .inl q :: [], [A0, A1, A2, A3, A4, A5, (modSeg re k f c n kp l tp le la td kt sh so had gr fi se to (p : Int) t d tl at_ sn him ik cu 0 st rm)]) : aF)) (hlL)) ?_
  refine b_look (tgt := 60) okX8_comes rfl (by decide) ⟨by decide, by decide⟩ rfl rfl ?_
  refine aGo okX8_comes 2 (f' := (62, [some (.inr 192), some (.inl (e : Int)), some (.inl (((4 * e) : Nat) : Int))], [.inl (((4 * e) : Nat) : Int), .inr 192], _)) rfl ?_
  refine b_vE (as := [.inl (((4 * e) : Nat) : Int)]) (rest := []) (k := 192) okX8_comes rfl lkX8_131 caX8_comesOne (Nat.le_of_ble_eq_true rfl) rfl (Nat.le_of_ble_eq_true rfl) rfl rfl rfl (c_co1_t hb htd (e := e) (x := x) he hq b3 hp6 hB) ?_
  rintro _ _ ⟨rfl, rfl⟩
  exact b_ret (v := (some (.inl 1))) ⟨rfl, Or.inr ⟨rfl, Or.inr rfl⟩⟩ ⟨rfl, sh, so, st, hsh, hso, by rw [sayS_0 hfm]; exact ⟨(show p + 1 ≤ 6 by omega), hd9, bOK_add hb hp6 bk2 ⟨by omega, by omega⟩ ⟨by omega, by omega⟩ ⟨by omega, by omega⟩⟩, by rw [sayS_0 hfm]; first | done | rfl⟩ rfl
set_option maxRecDepth 100000 in
set_option maxHeartbeats 4000000 in
theorem c_come_0f (hb : bOK p k f c n kp l t d) (hsh : sh.length = 7) (hso : so.length = 7) (hd9 : d ≤ 999) (hp6 : p ≤ 6) (htd : td.length = 192) (hle : le.length = 48) {e x : Nat} (he : e < 48) (hwf : wfS tp m x) (hlL : le.getD e 0 = 112) (hL : tp.getD x 0 = 112) (htd2 : tdOK tp td e x) (hB : ¬ (numL tp (x + 3) 2 ≤ 35 ∧ p < 6)) : aEv mX8_comes 8 0 0 N [.inr 192, .inl (e : Int)] [A0, A1, A2, A3, A4, A5, (modSeg re k f c n kp l tp le la td kt sh so had gr fi se to (p : Int) t d tl at_ sn him ik cu 0 st rm)] ((fun rv h => rv = some (.inl 0) ∧ ∃ (sh2 so2 : List Int) (st2 : Int), sh2.length = 7 ∧ so2.length = 7 ∧ bOKs (k, f, c, n, kp, l, p, t, d) ∧ h = [A0, A1, A2, A3, A4, A5, (modSeg re ((k, f, c, n, kp, l, p, t, d).1) ((k, f, c, n, kp, l, p, t, d).2.1) ((k, f, c, n, kp, l, p, t, d).2.2.1) ((k, f, c, n, kp, l, p, t, d).2.2.2.1) ((k, f, c, n, kp, l, p, t, d).2.2.2.2.1) ((k, f, c, n, kp, l, p, t, d).2.2.2.2.2.1) tp le la td kt sh2 so2 had gr fi se to ((k, f, c, n, kp, l, p, t, d).2.2.2.2.2.2.1 : Int) ((k, f, c, n, kp, l, p, t, d).2.2.2.2.2.2.2.1) ((k, f, c, n, kp, l, p, t, d).2.2.2.2.2.2.2.2) tl at_ sn him ik cu 0 st2 rm)])) := by
  obtain ⟨hp7, hk, hf, hc, hn, hkp, hl, rk, rf, rc, rn, rkp, rl, ht0, ht1, hd0, hd1⟩ := id hb
  have hfm : fmI (tp.getD x 0) = 0 := by rw [hL]; rfl
  have b2 := wf_num hwf hfm (a := 2) (b := 1) (by decide) (by decide) (by decide +kernel)
  have b2q : (10 : Int) ^ 1 = 10 := by decide
  rw [b2q] at b2
  have b3 := wf_num hwf hfm (a := 3) (b := 2) (by decide) (by decide) (by decide +kernel)
  have b3q : (10 : Int) ^ 2 = 100 := by decide
  rw [b3q] at b3
  have b5 := wf_num hwf hfm (a := 5) (b := 2) (by decide) (by decide) (by decide +kernel)
  have b5q : (10 : Int) ^ 2 = 100 := by decide
  rw [b5q] at b5
  have bk := hwf.2.2 1 (by decide) (by rw [hfm]; decide)
  rw [hfm, show chr 0 1 = 63 by decide +kernel] at bk
  have bk2 := fit_kind bk
  have hq := htd2.1 hfm
  refine aEv_of okX8_comes caX8_comes (Nat.le_of_ble_eq_true rfl) ?_
  refine aGo okX8_comes 4 (f' := (4, [some (.inr 192), some (.inl (e : Int)), some (.inl (4 * (e : Int)))], [], _)) rfl ?_
  refine b_cast (f' := (4, [some (.inr 192), some (.inl (e : Int)), some (.inl (((4 * e) : Nat) : Int))], [], [A0, A1, A2, A3, A4, A5, (modSeg re k f c n kp l tp le la td kt sh so had gr fi se to (p : Int) t d tl at_ sn him ik cu 0 st rm)])) (rfl) ?_
  refine aGo okX8_comes 3 (f' := (9, [some (.inr 192), some (.inl (e : Int)), some (.inl (((4 * e) : Nat) : Int))], [.inl (e : Int), .inr 201], _)) rfl ?_
  refine b_ald (k := 201) (j := e) (a := le) okX8_comes rfl rfl (by omega) (by omega) (by omega) ?_
  refine b_cast (f' := (10, [some (.inr 192), some (.inl (e : Int)), some (.inl (((4 * e) : Nat) : Int))], [.inl (112)], [A0, A1, A2, A3, A4, A5, (modSeg re k f c n kp l tp le la td kt sh so had gr fi se to (p : Int) t d tl at_ sn him ik cu 0 st rm)])) (congrArg (fun q : Int => ((10, [some (.inr 192), some (.inl (e : Int)), some (.inl (((4 * e) : Nat) : Int))], .inl q :: [], [A0, A1, A2, A3, A4, A5, (modSeg re k f c n kp l tp le la td kt sh so had gr fi se to (p : Int) t d tl at_ sn him ik cu 0 st rm)]) : aF)) (hlL)) ?_
  refine b_look (tgt := 60) okX8_comes rfl (by decide) ⟨by decide, by decide⟩ rfl rfl ?_
  refine aGo okX8_comes 2 (f' := (62, [some (.inr 192), some (.inl (e : Int)), some (.inl (((4 * e) : Nat) : Int))], [.inl (((4 * e) : Nat) : Int), .inr 192], _)) rfl ?_
  refine b_vE (as := [.inl (((4 * e) : Nat) : Int)]) (rest := []) (k := 192) okX8_comes rfl lkX8_131 caX8_comesOne (Nat.le_of_ble_eq_true rfl) rfl (Nat.le_of_ble_eq_true rfl) rfl rfl rfl (c_co1_f hb htd (e := e) (x := x) he hq b3 hp6 hB) ?_
  rintro _ _ ⟨rfl, rfl⟩
  exact b_ret (v := (some (.inl 0))) ⟨rfl, Or.inr ⟨rfl, Or.inl rfl⟩⟩ ⟨rfl, sh, so, st, hsh, hso, ⟨hp6, hd9, hb⟩, rfl⟩ rfl
set_option maxRecDepth 100000 in
set_option maxHeartbeats 4000000 in
theorem c_come_1t (hb : bOK p k f c n kp l t d) (hsh : sh.length = 7) (hso : so.length = 7) (hd9 : d ≤ 999) (hp6 : p ≤ 6) (htd : td.length = 192) (hle : le.length = 48) {e x : Nat} (he : e < 48) (hwf : wfS tp m x) (hlL : le.getD e 0 = 97) (hL : tp.getD x 0 = 97) (htd2 : tdOK tp td e x) (hB : (numL tp (x + 1) 1 < (p : Int) ∧ numL tp (x + 2) 2 ≤ 35)) : aEv mX8_comes 8 0 0 N [.inr 192, .inl (e : Int)] [A0, A1, A2, A3, A4, A5, (modSeg re k f c n kp l tp le la td kt sh so had gr fi se to (p : Int) t d tl at_ sn him ik cu 0 st rm)] ((fun rv h => rv = some (.inl 1) ∧ ∃ (sh2 so2 : List Int) (st2 : Int), sh2.length = 7 ∧ so2.length = 7 ∧ bOKs (sayS tp x (k, f, c, n, kp, l, p, t, d)) ∧ h = [A0, A1, A2, A3, A4, A5, (modSeg re ((sayS tp x (k, f, c, n, kp, l, p, t, d)).1) ((sayS tp x (k, f, c, n, kp, l, p, t, d)).2.1) ((sayS tp x (k, f, c, n, kp, l, p, t, d)).2.2.1) ((sayS tp x (k, f, c, n, kp, l, p, t, d)).2.2.2.1) ((sayS tp x (k, f, c, n, kp, l, p, t, d)).2.2.2.2.1) ((sayS tp x (k, f, c, n, kp, l, p, t, d)).2.2.2.2.2.1) tp le la td kt sh2 so2 had gr fi se to ((sayS tp x (k, f, c, n, kp, l, p, t, d)).2.2.2.2.2.2.1 : Int) ((sayS tp x (k, f, c, n, kp, l, p, t, d)).2.2.2.2.2.2.2.1) ((sayS tp x (k, f, c, n, kp, l, p, t, d)).2.2.2.2.2.2.2.2) tl at_ sn him ik cu 0 st2 rm)])) := by
  obtain ⟨hp7, hk, hf, hc, hn, hkp, hl, rk, rf, rc, rn, rkp, rl, ht0, ht1, hd0, hd1⟩ := id hb
  have hfm : fmI (tp.getD x 0) = 1 := by rw [hL]; rfl
  have b1 := wf_num hwf hfm (a := 1) (b := 1) (by decide) (by decide) (by decide +kernel)
  have b1q : (10 : Int) ^ 1 = 10 := by decide
  rw [b1q] at b1
  have b2 := wf_num hwf hfm (a := 2) (b := 2) (by decide) (by decide) (by decide +kernel)
  have b2q : (10 : Int) ^ 2 = 100 := by decide
  rw [b2q] at b2
  have hq := htd2.2.1 hfm
  obtain ⟨o1, hn1⟩ : ∃ o1 : Nat, numL tp (x + 1) 1 = (o1 : Int) := ⟨(numL tp (x + 1) 1).toNat, by omega⟩
  have ho1 := hq.1.trans hn1
  refine aEv_of okX8_comes caX8_comes (Nat.le_of_ble_eq_true rfl) ?_
  refine aGo okX8_comes 4 (f' := (4, [some (.inr 192), some (.inl (e : Int)), some (.inl (4 * (e : Int)))], [], _)) rfl ?_
  refine b_cast (f' := (4, [some (.inr 192), some (.inl (e : Int)), some (.inl (((4 * e) : Nat) : Int))], [], [A0, A1, A2, A3, A4, A5, (modSeg re k f c n kp l tp le la td kt sh so had gr fi se to (p : Int) t d tl at_ sn him ik cu 0 st rm)])) (rfl) ?_
  refine aGo okX8_comes 3 (f' := (9, [some (.inr 192), some (.inl (e : Int)), some (.inl (((4 * e) : Nat) : Int))], [.inl (e : Int), .inr 201], _)) rfl ?_
  refine b_ald (k := 201) (j := e) (a := le) okX8_comes rfl rfl (by omega) (by omega) (by omega) ?_
  refine b_cast (f' := (10, [some (.inr 192), some (.inl (e : Int)), some (.inl (((4 * e) : Nat) : Int))], [.inl (97)], [A0, A1, A2, A3, A4, A5, (modSeg re k f c n kp l tp le la td kt sh so had gr fi se to (p : Int) t d tl at_ sn him ik cu 0 st rm)])) (congrArg (fun q : Int => ((10, [some (.inr 192), some (.inl (e : Int)), some (.inl (((4 * e) : Nat) : Int))], .inl q :: [], [A0, A1, A2, A3, A4, A5, (modSeg re k f c n kp l tp le la td kt sh so had gr fi se to (p : Int) t d tl at_ sn him ik cu 0 st rm)]) : aF)) (hlL)) ?_
  refine b_look (tgt := 66) okX8_comes rfl (by decide) ⟨by decide, by decide⟩ rfl rfl ?_
  refine aGo okX8_comes 4 (f' := (72, [some (.inr 192), some (.inl (e : Int)), some (.inl (((4 * e) : Nat) : Int))], [.inl (((4 * e) : Nat) : Int), .inr 203, .inr 192], _)) rfl ?_
  refine b_ald (k := 203) (j := (4 * e)) (a := td) okX8_comes rfl rfl (by omega) (by omega) (by omega) ?_
  refine b_cast (f' := (73, [some (.inr 192), some (.inl (e : Int)), some (.inl (((4 * e) : Nat) : Int))], [.inl (o1 : Int), .inr 192], [A0, A1, A2, A3, A4, A5, (modSeg re k f c n kp l tp le la td kt sh so had gr fi se to (p : Int) t d tl at_ sn him ik cu 0 st rm)])) (congrArg (fun q : Int => ((73, [some (.inr 192), some (.inl (e : Int)), some (.inl (((4 * e) : Nat) : Int))], .inl q :: [.inr 192], [A0, A1, A2, A3, A4, A5, (modSeg re k f c n kp l tp le la td kt sh so had gr fi se to (p : Int) t d tl at_ sn him ik cu 0 st rm)]) : aF)) (ho1)) ?_
  by_cases hc73 : 0 ≤ (o1 : Int) ∧ (o1 : Int) < (p : Int)
  · refine b_vV (as := [.inl (o1 : Int)]) (rest := []) (k := 192) (.inl 1) okX8_comes rfl lkX8_75 caX8_isOne (Nat.le_of_ble_eq_true rfl) rfl (Nat.le_of_ble_eq_true rfl) rfl rfl rfl (c_isOne_t hp7 hc73) ?_
    refine b0_eq (tgt := 93) okX8_comes rfl rfl ⟨by omega, by omega⟩ (fun h76 => absurd h76 (by omega)) (fun h76 => ?_)
    refine aGo okX8_comes 5 (f' := (86, [some (.inr 192), some (.inl (e : Int)), some (.inl (((4 * e) : Nat) : Int))], [.inl ((((4 * e) : Nat) : Int) + 1), .inr 203], _)) rfl ?_
    refine b_ald (k := 203) (j := ((4 * e) + 1)) (a := td) okX8_comes rfl rfl (by omega) (by omega) (by omega) ?_
    refine b_cast (f' := (87, [some (.inr 192), some (.inl (e : Int)), some (.inl (((4 * e) : Nat) : Int))], [.inl (numL tp (x + 2) 2)], [A0, A1, A2, A3, A4, A5, (modSeg re k f c n kp l tp le la td kt sh so had gr fi se to (p : Int) t d tl at_ sn him ik cu 0 st rm)])) (congrArg (fun q : Int => ((87, [some (.inr 192), some (.inl (e : Int)), some (.inl (((4 * e) : Nat) : Int))], .inl q :: [], [A0, A1, A2, A3, A4, A5, (modSeg re k f c n kp l tp le la td kt sh so had gr fi se to (p : Int) t d tl at_ sn him ik cu 0 st rm)]) : aF)) (hq.2)) ?_
    by_cases hc87 : 0 ≤ (numL tp (x + 2) 2) ∧ (numL tp (x + 2) 2) ≤ 35
    · refine b_vS (as := [.inl (numL tp (x + 2) 2)]) (rest := []) (.inl 1) okX8_comes rfl lkX8_117 caX8_isCell (Nat.le_of_ble_eq_true rfl) rfl (Nat.le_of_ble_eq_true rfl) rfl (c_mCell_t hc87) ?_
      refine b0_ne (tgt := 95) okX8_comes rfl rfl ⟨by omega, by omega⟩ (fun h90 => ?_) (fun h90 => absurd h90 (by omega))
      refine aGo okX8_comes 5 (f' := (104, [some (.inr 192), some (.inl (e : Int)), some (.inl (((4 * e) : Nat) : Int))], [.inl (((4 * e) : Nat) : Int), .inr 203, .inr 196], _)) rfl ?_
      refine b_ald (k := 203) (j := (4 * e)) (a := td) okX8_comes rfl rfl (by omega) (by omega) (by omega) ?_
      refine b_cast (f' := (105, [some (.inr 192), some (.inl (e : Int)), some (.inl (((4 * e) : Nat) : Int))], [.inl (o1 : Int), .inr 196], [A0, A1, A2, A3, A4, A5, (modSeg re k f c n kp l tp le la td kt sh so had gr fi se to (p : Int) t d tl at_ sn him ik cu 0 st rm)])) (congrArg (fun q : Int => ((105, [some (.inr 192), some (.inl (e : Int)), some (.inl (((4 * e) : Nat) : Int))], .inl q :: [.inr 196], [A0, A1, A2, A3, A4, A5, (modSeg re k f c n kp l tp le la td kt sh so had gr fi se to (p : Int) t d tl at_ sn him ik cu 0 st rm)]) : aF)) (ho1)) ?_
      refine aGo okX8_comes 5 (f' := (112, [some (.inr 192), some (.inl (e : Int)), some (.inl (((4 * e) : Nat) : Int))], [.inl ((((4 * e) : Nat) : Int) + 1), .inr 203, .inl (o1 : Int), .inr 196], _)) rfl ?_
      refine b_ald (k := 203) (j := ((4 * e) + 1)) (a := td) okX8_comes rfl rfl (by omega) (by omega) (by omega) ?_
      refine b_cast (f' := (113, [some (.inr 192), some (.inl (e : Int)), some (.inl (((4 * e) : Nat) : Int))], [.inl (numL tp (x + 2) 2), .inl (o1 : Int), .inr 196], [A0, A1, A2, A3, A4, A5, (modSeg re k f c n kp l tp le la td kt sh so had gr fi se to (p : Int) t d tl at_ sn him ik cu 0 st rm)])) (congrArg (fun q : Int => ((113, [some (.inr 192), some (.inl (e : Int)), some (.inl (((4 * e) : Nat) : Int))], .inl q :: [.inl (o1 : Int), .inr 196], [A0, A1, A2, A3, A4, A5, (modSeg re k f c n kp l tp le la td kt sh so had gr fi se to (p : Int) t d tl at_ sn him ik cu 0 st rm)]) : aF)) (hq.2)) ?_
      refine b_ast (k := 196) (j := o1) (a := c) okX8_comes rfl rfl (by omega) (by omega) (by omega) ?_
      refine b_cast (f' := (114, [some (.inr 192), some (.inl (e : Int)), some (.inl (((4 * e) : Nat) : Int))], [], [A0, A1, A2, A3, A4, A5, (modSeg re k f (c.set o1 (numL tp (x + 2) 2)) n kp l tp le la td kt sh so had gr fi se to (p : Int) t d tl at_ sn him ik cu 0 st rm)])) rfl ?_
      refine aGo okX8_comes 1 (f' := (115, [some (.inr 192), some (.inl (e : Int)), some (.inl (((4 * e) : Nat) : Int))], [.inl 1], _)) rfl ?_
      exact b_ret (v := (some (.inl 1))) ⟨rfl, Or.inr ⟨rfl, Or.inr rfl⟩⟩ ⟨rfl, sh, so, st, hsh, hso, by rw [sayS_1 hfm, hn1]; exact ⟨hp6, hd9, bOK_c hb (by omega) (by omega)⟩, by rw [sayS_1 hfm, hn1]; first | done | rfl⟩ rfl
    · refine b_vS (as := [.inl (numL tp (x + 2) 2)]) (rest := []) (.inl 0) okX8_comes rfl lkX8_117 caX8_isCell (Nat.le_of_ble_eq_true rfl) rfl (Nat.le_of_ble_eq_true rfl) rfl (c_mCell_f ⟨by omega, by omega⟩ hc87) ?_
      refine b0_ne (tgt := 95) okX8_comes rfl rfl ⟨by omega, by omega⟩ (fun h90 => absurd h90 (by omega)) (fun h90 => ?_)
      exfalso; omega
  · refine b_vV (as := [.inl (o1 : Int)]) (rest := []) (k := 192) (.inl 0) okX8_comes rfl lkX8_75 caX8_isOne (Nat.le_of_ble_eq_true rfl) rfl (Nat.le_of_ble_eq_true rfl) rfl rfl rfl (c_isOne_f hp7 ⟨by omega, by omega⟩ hc73) ?_
    refine b0_eq (tgt := 93) okX8_comes rfl rfl ⟨by omega, by omega⟩ (fun h76 => ?_) (fun h76 => absurd h76 (by omega))
    exfalso; omega
set_option maxRecDepth 100000 in
set_option maxHeartbeats 4000000 in
theorem c_come_1f (hb : bOK p k f c n kp l t d) (hsh : sh.length = 7) (hso : so.length = 7) (hd9 : d ≤ 999) (hp6 : p ≤ 6) (htd : td.length = 192) (hle : le.length = 48) {e x : Nat} (he : e < 48) (hwf : wfS tp m x) (hlL : le.getD e 0 = 97) (hL : tp.getD x 0 = 97) (htd2 : tdOK tp td e x) (hB : ¬ (numL tp (x + 1) 1 < (p : Int) ∧ numL tp (x + 2) 2 ≤ 35)) : aEv mX8_comes 8 0 0 N [.inr 192, .inl (e : Int)] [A0, A1, A2, A3, A4, A5, (modSeg re k f c n kp l tp le la td kt sh so had gr fi se to (p : Int) t d tl at_ sn him ik cu 0 st rm)] ((fun rv h => rv = some (.inl 0) ∧ ∃ (sh2 so2 : List Int) (st2 : Int), sh2.length = 7 ∧ so2.length = 7 ∧ bOKs (k, f, c, n, kp, l, p, t, d) ∧ h = [A0, A1, A2, A3, A4, A5, (modSeg re ((k, f, c, n, kp, l, p, t, d).1) ((k, f, c, n, kp, l, p, t, d).2.1) ((k, f, c, n, kp, l, p, t, d).2.2.1) ((k, f, c, n, kp, l, p, t, d).2.2.2.1) ((k, f, c, n, kp, l, p, t, d).2.2.2.2.1) ((k, f, c, n, kp, l, p, t, d).2.2.2.2.2.1) tp le la td kt sh2 so2 had gr fi se to ((k, f, c, n, kp, l, p, t, d).2.2.2.2.2.2.1 : Int) ((k, f, c, n, kp, l, p, t, d).2.2.2.2.2.2.2.1) ((k, f, c, n, kp, l, p, t, d).2.2.2.2.2.2.2.2) tl at_ sn him ik cu 0 st2 rm)])) := by
  obtain ⟨hp7, hk, hf, hc, hn, hkp, hl, rk, rf, rc, rn, rkp, rl, ht0, ht1, hd0, hd1⟩ := id hb
  have hfm : fmI (tp.getD x 0) = 1 := by rw [hL]; rfl
  have b1 := wf_num hwf hfm (a := 1) (b := 1) (by decide) (by decide) (by decide +kernel)
  have b1q : (10 : Int) ^ 1 = 10 := by decide
  rw [b1q] at b1
  have b2 := wf_num hwf hfm (a := 2) (b := 2) (by decide) (by decide) (by decide +kernel)
  have b2q : (10 : Int) ^ 2 = 100 := by decide
  rw [b2q] at b2
  have hq := htd2.2.1 hfm
  obtain ⟨o1, hn1⟩ : ∃ o1 : Nat, numL tp (x + 1) 1 = (o1 : Int) := ⟨(numL tp (x + 1) 1).toNat, by omega⟩
  have ho1 := hq.1.trans hn1
  refine aEv_of okX8_comes caX8_comes (Nat.le_of_ble_eq_true rfl) ?_
  refine aGo okX8_comes 4 (f' := (4, [some (.inr 192), some (.inl (e : Int)), some (.inl (4 * (e : Int)))], [], _)) rfl ?_
  refine b_cast (f' := (4, [some (.inr 192), some (.inl (e : Int)), some (.inl (((4 * e) : Nat) : Int))], [], [A0, A1, A2, A3, A4, A5, (modSeg re k f c n kp l tp le la td kt sh so had gr fi se to (p : Int) t d tl at_ sn him ik cu 0 st rm)])) (rfl) ?_
  refine aGo okX8_comes 3 (f' := (9, [some (.inr 192), some (.inl (e : Int)), some (.inl (((4 * e) : Nat) : Int))], [.inl (e : Int), .inr 201], _)) rfl ?_
  refine b_ald (k := 201) (j := e) (a := le) okX8_comes rfl rfl (by omega) (by omega) (by omega) ?_
  refine b_cast (f' := (10, [some (.inr 192), some (.inl (e : Int)), some (.inl (((4 * e) : Nat) : Int))], [.inl (97)], [A0, A1, A2, A3, A4, A5, (modSeg re k f c n kp l tp le la td kt sh so had gr fi se to (p : Int) t d tl at_ sn him ik cu 0 st rm)])) (congrArg (fun q : Int => ((10, [some (.inr 192), some (.inl (e : Int)), some (.inl (((4 * e) : Nat) : Int))], .inl q :: [], [A0, A1, A2, A3, A4, A5, (modSeg re k f c n kp l tp le la td kt sh so had gr fi se to (p : Int) t d tl at_ sn him ik cu 0 st rm)]) : aF)) (hlL)) ?_
  refine b_look (tgt := 66) okX8_comes rfl (by decide) ⟨by decide, by decide⟩ rfl rfl ?_
  refine aGo okX8_comes 4 (f' := (72, [some (.inr 192), some (.inl (e : Int)), some (.inl (((4 * e) : Nat) : Int))], [.inl (((4 * e) : Nat) : Int), .inr 203, .inr 192], _)) rfl ?_
  refine b_ald (k := 203) (j := (4 * e)) (a := td) okX8_comes rfl rfl (by omega) (by omega) (by omega) ?_
  refine b_cast (f' := (73, [some (.inr 192), some (.inl (e : Int)), some (.inl (((4 * e) : Nat) : Int))], [.inl (o1 : Int), .inr 192], [A0, A1, A2, A3, A4, A5, (modSeg re k f c n kp l tp le la td kt sh so had gr fi se to (p : Int) t d tl at_ sn him ik cu 0 st rm)])) (congrArg (fun q : Int => ((73, [some (.inr 192), some (.inl (e : Int)), some (.inl (((4 * e) : Nat) : Int))], .inl q :: [.inr 192], [A0, A1, A2, A3, A4, A5, (modSeg re k f c n kp l tp le la td kt sh so had gr fi se to (p : Int) t d tl at_ sn him ik cu 0 st rm)]) : aF)) (ho1)) ?_
  by_cases hc73 : 0 ≤ (o1 : Int) ∧ (o1 : Int) < (p : Int)
  · refine b_vV (as := [.inl (o1 : Int)]) (rest := []) (k := 192) (.inl 1) okX8_comes rfl lkX8_75 caX8_isOne (Nat.le_of_ble_eq_true rfl) rfl (Nat.le_of_ble_eq_true rfl) rfl rfl rfl (c_isOne_t hp7 hc73) ?_
    refine b0_eq (tgt := 93) okX8_comes rfl rfl ⟨by omega, by omega⟩ (fun h76 => absurd h76 (by omega)) (fun h76 => ?_)
    refine aGo okX8_comes 5 (f' := (86, [some (.inr 192), some (.inl (e : Int)), some (.inl (((4 * e) : Nat) : Int))], [.inl ((((4 * e) : Nat) : Int) + 1), .inr 203], _)) rfl ?_
    refine b_ald (k := 203) (j := ((4 * e) + 1)) (a := td) okX8_comes rfl rfl (by omega) (by omega) (by omega) ?_
    refine b_cast (f' := (87, [some (.inr 192), some (.inl (e : Int)), some (.inl (((4 * e) : Nat) : Int))], [.inl (numL tp (x + 2) 2)], [A0, A1, A2, A3, A4, A5, (modSeg re k f c n kp l tp le la td kt sh so had gr fi se to (p : Int) t d tl at_ sn him ik cu 0 st rm)])) (congrArg (fun q : Int => ((87, [some (.inr 192), some (.inl (e : Int)), some (.inl (((4 * e) : Nat) : Int))], .inl q :: [], [A0, A1, A2, A3, A4, A5, (modSeg re k f c n kp l tp le la td kt sh so had gr fi se to (p : Int) t d tl at_ sn him ik cu 0 st rm)]) : aF)) (hq.2)) ?_
    by_cases hc87 : 0 ≤ (numL tp (x + 2) 2) ∧ (numL tp (x + 2) 2) ≤ 35
    · refine b_vS (as := [.inl (numL tp (x + 2) 2)]) (rest := []) (.inl 1) okX8_comes rfl lkX8_117 caX8_isCell (Nat.le_of_ble_eq_true rfl) rfl (Nat.le_of_ble_eq_true rfl) rfl (c_mCell_t hc87) ?_
      refine b0_ne (tgt := 95) okX8_comes rfl rfl ⟨by omega, by omega⟩ (fun h90 => ?_) (fun h90 => absurd h90 (by omega))
      exfalso; omega
    · refine b_vS (as := [.inl (numL tp (x + 2) 2)]) (rest := []) (.inl 0) okX8_comes rfl lkX8_117 caX8_isCell (Nat.le_of_ble_eq_true rfl) rfl (Nat.le_of_ble_eq_true rfl) rfl (c_mCell_f ⟨by omega, by omega⟩ hc87) ?_
      refine b0_ne (tgt := 95) okX8_comes rfl rfl ⟨by omega, by omega⟩ (fun h90 => absurd h90 (by omega)) (fun h90 => ?_)
      refine aGo okX8_comes 1 (f' := (94, [some (.inr 192), some (.inl (e : Int)), some (.inl (((4 * e) : Nat) : Int))], [.inl 0], _)) rfl ?_
      exact b_ret (v := (some (.inl 0))) ⟨rfl, Or.inr ⟨rfl, Or.inl rfl⟩⟩ ⟨rfl, sh, so, st, hsh, hso, ⟨hp6, hd9, hb⟩, rfl⟩ rfl
  · refine b_vV (as := [.inl (o1 : Int)]) (rest := []) (k := 192) (.inl 0) okX8_comes rfl lkX8_75 caX8_isOne (Nat.le_of_ble_eq_true rfl) rfl (Nat.le_of_ble_eq_true rfl) rfl rfl rfl (c_isOne_f hp7 ⟨by omega, by omega⟩ hc73) ?_
    refine b0_eq (tgt := 93) okX8_comes rfl rfl ⟨by omega, by omega⟩ (fun h76 => ?_) (fun h76 => absurd h76 (by omega))
    refine aGo okX8_comes 1 (f' := (94, [some (.inr 192), some (.inl (e : Int)), some (.inl (((4 * e) : Nat) : Int))], [.inl 0], _)) rfl ?_
    exact b_ret (v := (some (.inl 0))) ⟨rfl, Or.inr ⟨rfl, Or.inl rfl⟩⟩ ⟨rfl, sh, so, st, hsh, hso, ⟨hp6, hd9, hb⟩, rfl⟩ rfl
set_option maxRecDepth 100000 in
set_option maxHeartbeats 4000000 in
theorem c_come_2t (hb : bOK p k f c n kp l t d) (hsh : sh.length = 7) (hso : so.length = 7) (hd9 : d ≤ 999) (hp6 : p ≤ 6) (htd : td.length = 192) (hle : le.length = 48) {e x : Nat} (he : e < 48) (hwf : wfS tp m x) (hlL : le.getD e 0 = 108) (hL : tp.getD x 0 = 108) (htd2 : tdOK tp td e x) (hB : (numL tp (x + 1) 1 < (p : Int) ∧ numL tp (x + 2) 1 < (p : Int) ∧ numL tp (x + 1) 1 ≠ numL tp (x + 2) 1)) : aEv mX8_comes 8 0 0 N [.inr 192, .inl (e : Int)] [A0, A1, A2, A3, A4, A5, (modSeg re k f c n kp l tp le la td kt sh so had gr fi se to (p : Int) t d tl at_ sn him ik cu 0 st rm)] ((fun rv h => rv = some (.inl 1) ∧ ∃ (sh2 so2 : List Int) (st2 : Int), sh2.length = 7 ∧ so2.length = 7 ∧ bOKs (sayS tp x (k, f, c, n, kp, l, p, t, d)) ∧ h = [A0, A1, A2, A3, A4, A5, (modSeg re ((sayS tp x (k, f, c, n, kp, l, p, t, d)).1) ((sayS tp x (k, f, c, n, kp, l, p, t, d)).2.1) ((sayS tp x (k, f, c, n, kp, l, p, t, d)).2.2.1) ((sayS tp x (k, f, c, n, kp, l, p, t, d)).2.2.2.1) ((sayS tp x (k, f, c, n, kp, l, p, t, d)).2.2.2.2.1) ((sayS tp x (k, f, c, n, kp, l, p, t, d)).2.2.2.2.2.1) tp le la td kt sh2 so2 had gr fi se to ((sayS tp x (k, f, c, n, kp, l, p, t, d)).2.2.2.2.2.2.1 : Int) ((sayS tp x (k, f, c, n, kp, l, p, t, d)).2.2.2.2.2.2.2.1) ((sayS tp x (k, f, c, n, kp, l, p, t, d)).2.2.2.2.2.2.2.2) tl at_ sn him ik cu 0 st2 rm)])) := by
  obtain ⟨hp7, hk, hf, hc, hn, hkp, hl, rk, rf, rc, rn, rkp, rl, ht0, ht1, hd0, hd1⟩ := id hb
  have hfm : fmI (tp.getD x 0) = 2 := by rw [hL]; rfl
  have b1 := wf_num hwf hfm (a := 1) (b := 1) (by decide) (by decide) (by decide +kernel)
  have b1q : (10 : Int) ^ 1 = 10 := by decide
  rw [b1q] at b1
  have b2 := wf_num hwf hfm (a := 2) (b := 1) (by decide) (by decide) (by decide +kernel)
  have b2q : (10 : Int) ^ 1 = 10 := by decide
  rw [b2q] at b2
  have b3 := wf_num hwf hfm (a := 3) (b := 2) (by decide) (by decide) (by decide +kernel)
  have b3q : (10 : Int) ^ 2 = 100 := by decide
  rw [b3q] at b3
  have hq := htd2.2.2.1 hfm
  obtain ⟨o1, hn1⟩ : ∃ o1 : Nat, numL tp (x + 1) 1 = (o1 : Int) := ⟨(numL tp (x + 1) 1).toNat, by omega⟩
  have ho1 := hq.1.trans hn1
  obtain ⟨o2, hn2⟩ : ∃ o2 : Nat, numL tp (x + 2) 1 = (o2 : Int) := ⟨(numL tp (x + 2) 1).toNat, by omega⟩
  have ho2 := hq.2.1.trans hn2
  refine aEv_of okX8_comes caX8_comes (Nat.le_of_ble_eq_true rfl) ?_
  refine aGo okX8_comes 4 (f' := (4, [some (.inr 192), some (.inl (e : Int)), some (.inl (4 * (e : Int)))], [], _)) rfl ?_
  refine b_cast (f' := (4, [some (.inr 192), some (.inl (e : Int)), some (.inl (((4 * e) : Nat) : Int))], [], [A0, A1, A2, A3, A4, A5, (modSeg re k f c n kp l tp le la td kt sh so had gr fi se to (p : Int) t d tl at_ sn him ik cu 0 st rm)])) (rfl) ?_
  refine aGo okX8_comes 3 (f' := (9, [some (.inr 192), some (.inl (e : Int)), some (.inl (((4 * e) : Nat) : Int))], [.inl (e : Int), .inr 201], _)) rfl ?_
  refine b_ald (k := 201) (j := e) (a := le) okX8_comes rfl rfl (by omega) (by omega) (by omega) ?_
  refine b_cast (f' := (10, [some (.inr 192), some (.inl (e : Int)), some (.inl (((4 * e) : Nat) : Int))], [.inl (108)], [A0, A1, A2, A3, A4, A5, (modSeg re k f c n kp l tp le la td kt sh so had gr fi se to (p : Int) t d tl at_ sn him ik cu 0 st rm)])) (congrArg (fun q : Int => ((10, [some (.inr 192), some (.inl (e : Int)), some (.inl (((4 * e) : Nat) : Int))], .inl q :: [], [A0, A1, A2, A3, A4, A5, (modSeg re k f c n kp l tp le la td kt sh so had gr fi se to (p : Int) t d tl at_ sn him ik cu 0 st rm)]) : aF)) (hlL)) ?_
  refine b_look (tgt := 116) okX8_comes rfl (by decide) ⟨by decide, by decide⟩ rfl rfl ?_
  refine aGo okX8_comes 4 (f' := (122, [some (.inr 192), some (.inl (e : Int)), some (.inl (((4 * e) : Nat) : Int))], [.inl (((4 * e) : Nat) : Int), .inr 203, .inr 192], _)) rfl ?_
  refine b_ald (k := 203) (j := (4 * e)) (a := td) okX8_comes rfl rfl (by omega) (by omega) (by omega) ?_
  refine b_cast (f' := (123, [some (.inr 192), some (.inl (e : Int)), some (.inl (((4 * e) : Nat) : Int))], [.inl (o1 : Int), .inr 192], [A0, A1, A2, A3, A4, A5, (modSeg re k f c n kp l tp le la td kt sh so had gr fi se to (p : Int) t d tl at_ sn him ik cu 0 st rm)])) (congrArg (fun q : Int => ((123, [some (.inr 192), some (.inl (e : Int)), some (.inl (((4 * e) : Nat) : Int))], .inl q :: [.inr 192], [A0, A1, A2, A3, A4, A5, (modSeg re k f c n kp l tp le la td kt sh so had gr fi se to (p : Int) t d tl at_ sn him ik cu 0 st rm)]) : aF)) (ho1)) ?_
  refine aGo okX8_comes 5 (f' := (130, [some (.inr 192), some (.inl (e : Int)), some (.inl (((4 * e) : Nat) : Int))], [.inl ((((4 * e) : Nat) : Int) + 1), .inr 203, .inl (o1 : Int), .inr 192], _)) rfl ?_
  refine b_ald (k := 203) (j := ((4 * e) + 1)) (a := td) okX8_comes rfl rfl (by omega) (by omega) (by omega) ?_
  refine b_cast (f' := (131, [some (.inr 192), some (.inl (e : Int)), some (.inl (((4 * e) : Nat) : Int))], [.inl (o2 : Int), .inl (o1 : Int), .inr 192], [A0, A1, A2, A3, A4, A5, (modSeg re k f c n kp l tp le la td kt sh so had gr fi se to (p : Int) t d tl at_ sn him ik cu 0 st rm)])) (congrArg (fun q : Int => ((131, [some (.inr 192), some (.inl (e : Int)), some (.inl (((4 * e) : Nat) : Int))], .inl q :: [.inl (o1 : Int), .inr 192], [A0, A1, A2, A3, A4, A5, (modSeg re k f c n kp l tp le la td kt sh so had gr fi se to (p : Int) t d tl at_ sn him ik cu 0 st rm)]) : aF)) (ho2)) ?_
  by_cases hc131 : 0 ≤ (o1 : Int) ∧ (o1 : Int) < (p : Int) ∧ 0 ≤ (o2 : Int) ∧ (o2 : Int) < (p : Int) ∧ (o1 : Int) ≠ (o2 : Int)
  · refine b_vV (as := [.inl (o1 : Int), .inl (o2 : Int)]) (rest := []) (k := 192) (.inl 1) okX8_comes rfl lkX8_134 caX8_areTwo (Nat.le_of_ble_eq_true rfl) rfl (Nat.le_of_ble_eq_true rfl) rfl rfl rfl (c_mTwo_t hp7 ⟨by omega, by omega⟩ ⟨by omega, by omega⟩ (by omega)) ?_
    refine b0_ne (tgt := 139) okX8_comes rfl rfl ⟨by omega, by omega⟩ (fun h134 => ?_) (fun h134 => absurd h134 (by omega))
    refine aGo okX8_comes 6 (f' := (150, [some (.inr 192), some (.inl (e : Int)), some (.inl (((4 * e) : Nat) : Int))], [.inl (((4 * e) : Nat) : Int), .inr 203, .inl 7, .inr 199], _)) rfl ?_
    refine b_ald (k := 203) (j := (4 * e)) (a := td) okX8_comes rfl rfl (by omega) (by omega) (by omega) ?_
    refine b_cast (f' := (151, [some (.inr 192), some (.inl (e : Int)), some (.inl (((4 * e) : Nat) : Int))], [.inl (o1 : Int), .inl 7, .inr 199], [A0, A1, A2, A3, A4, A5, (modSeg re k f c n kp l tp le la td kt sh so had gr fi se to (p : Int) t d tl at_ sn him ik cu 0 st rm)])) (congrArg (fun q : Int => ((151, [some (.inr 192), some (.inl (e : Int)), some (.inl (((4 * e) : Nat) : Int))], .inl q :: [.inl 7, .inr 199], [A0, A1, A2, A3, A4, A5, (modSeg re k f c n kp l tp le la td kt sh so had gr fi se to (p : Int) t d tl at_ sn him ik cu 0 st rm)]) : aF)) (ho1)) ?_
    refine aGo okX8_comes 6 (f' := (159, [some (.inr 192), some (.inl (e : Int)), some (.inl (((4 * e) : Nat) : Int))], [.inl ((((4 * e) : Nat) : Int) + 1), .inr 203, .inl (7 * (o1 : Int)), .inr 199], _)) rfl ?_
    refine b_ald (k := 203) (j := ((4 * e) + 1)) (a := td) okX8_comes rfl rfl (by omega) (by omega) (by omega) ?_
    refine b_cast (f' := (160, [some (.inr 192), some (.inl (e : Int)), some (.inl (((4 * e) : Nat) : Int))], [.inl (o2 : Int), .inl (7 * (o1 : Int)), .inr 199], [A0, A1, A2, A3, A4, A5, (modSeg re k f c n kp l tp le la td kt sh so had gr fi se to (p : Int) t d tl at_ sn him ik cu 0 st rm)])) (congrArg (fun q : Int => ((160, [some (.inr 192), some (.inl (e : Int)), some (.inl (((4 * e) : Nat) : Int))], .inl q :: [.inl (7 * (o1 : Int)), .inr 199], [A0, A1, A2, A3, A4, A5, (modSeg re k f c n kp l tp le la td kt sh so had gr fi se to (p : Int) t d tl at_ sn him ik cu 0 st rm)]) : aF)) (ho2)) ?_
    refine aGo okX8_comes 6 (f' := (168, [some (.inr 192), some (.inl (e : Int)), some (.inl (((4 * e) : Nat) : Int))], [.inl ((((4 * e) : Nat) : Int) + 2), .inr 203, .inl ((7 * (o1 : Int)) + (o2 : Int)), .inr 199], _)) rfl ?_
    refine b_ald (k := 203) (j := ((4 * e) + 2)) (a := td) okX8_comes rfl rfl (by omega) (by omega) (by omega) ?_
    refine b_cast (f' := (169, [some (.inr 192), some (.inl (e : Int)), some (.inl (((4 * e) : Nat) : Int))], [.inl (numL tp (x + 3) 2), .inl ((7 * (o1 : Int)) + (o2 : Int)), .inr 199], [A0, A1, A2, A3, A4, A5, (modSeg re k f c n kp l tp le la td kt sh so had gr fi se to (p : Int) t d tl at_ sn him ik cu 0 st rm)])) (congrArg (fun q : Int => ((169, [some (.inr 192), some (.inl (e : Int)), some (.inl (((4 * e) : Nat) : Int))], .inl q :: [.inl ((7 * (o1 : Int)) + (o2 : Int)), .inr 199], [A0, A1, A2, A3, A4, A5, (modSeg re k f c n kp l tp le la td kt sh so had gr fi se to (p : Int) t d tl at_ sn him ik cu 0 st rm)]) : aF)) (hq.2.2)) ?_
    refine b_ast (k := 199) (j := ((7 * o1) + o2)) (a := l) okX8_comes rfl rfl (by omega) (by omega) (by omega) ?_
    refine b_cast (f' := (170, [some (.inr 192), some (.inl (e : Int)), some (.inl (((4 * e) : Nat) : Int))], [], [A0, A1, A2, A3, A4, A5, (modSeg re k f c n kp (l.set ((7 * o1) + o2) (numL tp (x + 3) 2)) tp le la td kt sh so had gr fi se to (p : Int) t d tl at_ sn him ik cu 0 st rm)])) rfl ?_
    refine aGo okX8_comes 1 (f' := (171, [some (.inr 192), some (.inl (e : Int)), some (.inl (((4 * e) : Nat) : Int))], [.inl 1], _)) rfl ?_
    exact b_ret (v := (some (.inl 1))) ⟨rfl, Or.inr ⟨rfl, Or.inr rfl⟩⟩ ⟨rfl, sh, so, st, hsh, hso, by rw [sayS_2 hfm, hn1, hn2]; exact ⟨hp6, hd9, bOK_l hb (by omega) (by omega)⟩, by rw [sayS_2 hfm, hn1, hn2]; first | done | rfl⟩ rfl
  · refine b_vV (as := [.inl (o1 : Int), .inl (o2 : Int)]) (rest := []) (k := 192) (.inl 0) okX8_comes rfl lkX8_134 caX8_areTwo (Nat.le_of_ble_eq_true rfl) rfl (Nat.le_of_ble_eq_true rfl) rfl rfl rfl (c_mTwo_f hp7 ⟨by omega, by omega⟩ ⟨by omega, by omega⟩ hc131) ?_
    refine b0_ne (tgt := 139) okX8_comes rfl rfl ⟨by omega, by omega⟩ (fun h134 => absurd h134 (by omega)) (fun h134 => ?_)
    exfalso; omega
set_option maxRecDepth 100000 in
set_option maxHeartbeats 4000000 in
theorem c_come_2f (hb : bOK p k f c n kp l t d) (hsh : sh.length = 7) (hso : so.length = 7) (hd9 : d ≤ 999) (hp6 : p ≤ 6) (htd : td.length = 192) (hle : le.length = 48) {e x : Nat} (he : e < 48) (hwf : wfS tp m x) (hlL : le.getD e 0 = 108) (hL : tp.getD x 0 = 108) (htd2 : tdOK tp td e x) (hB : ¬ (numL tp (x + 1) 1 < (p : Int) ∧ numL tp (x + 2) 1 < (p : Int) ∧ numL tp (x + 1) 1 ≠ numL tp (x + 2) 1)) : aEv mX8_comes 8 0 0 N [.inr 192, .inl (e : Int)] [A0, A1, A2, A3, A4, A5, (modSeg re k f c n kp l tp le la td kt sh so had gr fi se to (p : Int) t d tl at_ sn him ik cu 0 st rm)] ((fun rv h => rv = some (.inl 0) ∧ ∃ (sh2 so2 : List Int) (st2 : Int), sh2.length = 7 ∧ so2.length = 7 ∧ bOKs (k, f, c, n, kp, l, p, t, d) ∧ h = [A0, A1, A2, A3, A4, A5, (modSeg re ((k, f, c, n, kp, l, p, t, d).1) ((k, f, c, n, kp, l, p, t, d).2.1) ((k, f, c, n, kp, l, p, t, d).2.2.1) ((k, f, c, n, kp, l, p, t, d).2.2.2.1) ((k, f, c, n, kp, l, p, t, d).2.2.2.2.1) ((k, f, c, n, kp, l, p, t, d).2.2.2.2.2.1) tp le la td kt sh2 so2 had gr fi se to ((k, f, c, n, kp, l, p, t, d).2.2.2.2.2.2.1 : Int) ((k, f, c, n, kp, l, p, t, d).2.2.2.2.2.2.2.1) ((k, f, c, n, kp, l, p, t, d).2.2.2.2.2.2.2.2) tl at_ sn him ik cu 0 st2 rm)])) := by
  obtain ⟨hp7, hk, hf, hc, hn, hkp, hl, rk, rf, rc, rn, rkp, rl, ht0, ht1, hd0, hd1⟩ := id hb
  have hfm : fmI (tp.getD x 0) = 2 := by rw [hL]; rfl
  have b1 := wf_num hwf hfm (a := 1) (b := 1) (by decide) (by decide) (by decide +kernel)
  have b1q : (10 : Int) ^ 1 = 10 := by decide
  rw [b1q] at b1
  have b2 := wf_num hwf hfm (a := 2) (b := 1) (by decide) (by decide) (by decide +kernel)
  have b2q : (10 : Int) ^ 1 = 10 := by decide
  rw [b2q] at b2
  have b3 := wf_num hwf hfm (a := 3) (b := 2) (by decide) (by decide) (by decide +kernel)
  have b3q : (10 : Int) ^ 2 = 100 := by decide
  rw [b3q] at b3
  have hq := htd2.2.2.1 hfm
  obtain ⟨o1, hn1⟩ : ∃ o1 : Nat, numL tp (x + 1) 1 = (o1 : Int) := ⟨(numL tp (x + 1) 1).toNat, by omega⟩
  have ho1 := hq.1.trans hn1
  obtain ⟨o2, hn2⟩ : ∃ o2 : Nat, numL tp (x + 2) 1 = (o2 : Int) := ⟨(numL tp (x + 2) 1).toNat, by omega⟩
  have ho2 := hq.2.1.trans hn2
  refine aEv_of okX8_comes caX8_comes (Nat.le_of_ble_eq_true rfl) ?_
  refine aGo okX8_comes 4 (f' := (4, [some (.inr 192), some (.inl (e : Int)), some (.inl (4 * (e : Int)))], [], _)) rfl ?_
  refine b_cast (f' := (4, [some (.inr 192), some (.inl (e : Int)), some (.inl (((4 * e) : Nat) : Int))], [], [A0, A1, A2, A3, A4, A5, (modSeg re k f c n kp l tp le la td kt sh so had gr fi se to (p : Int) t d tl at_ sn him ik cu 0 st rm)])) (rfl) ?_
  refine aGo okX8_comes 3 (f' := (9, [some (.inr 192), some (.inl (e : Int)), some (.inl (((4 * e) : Nat) : Int))], [.inl (e : Int), .inr 201], _)) rfl ?_
  refine b_ald (k := 201) (j := e) (a := le) okX8_comes rfl rfl (by omega) (by omega) (by omega) ?_
  refine b_cast (f' := (10, [some (.inr 192), some (.inl (e : Int)), some (.inl (((4 * e) : Nat) : Int))], [.inl (108)], [A0, A1, A2, A3, A4, A5, (modSeg re k f c n kp l tp le la td kt sh so had gr fi se to (p : Int) t d tl at_ sn him ik cu 0 st rm)])) (congrArg (fun q : Int => ((10, [some (.inr 192), some (.inl (e : Int)), some (.inl (((4 * e) : Nat) : Int))], .inl q :: [], [A0, A1, A2, A3, A4, A5, (modSeg re k f c n kp l tp le la td kt sh so had gr fi se to (p : Int) t d tl at_ sn him ik cu 0 st rm)]) : aF)) (hlL)) ?_
  refine b_look (tgt := 116) okX8_comes rfl (by decide) ⟨by decide, by decide⟩ rfl rfl ?_
  refine aGo okX8_comes 4 (f' := (122, [some (.inr 192), some (.inl (e : Int)), some (.inl (((4 * e) : Nat) : Int))], [.inl (((4 * e) : Nat) : Int), .inr 203, .inr 192], _)) rfl ?_
  refine b_ald (k := 203) (j := (4 * e)) (a := td) okX8_comes rfl rfl (by omega) (by omega) (by omega) ?_
  refine b_cast (f' := (123, [some (.inr 192), some (.inl (e : Int)), some (.inl (((4 * e) : Nat) : Int))], [.inl (o1 : Int), .inr 192], [A0, A1, A2, A3, A4, A5, (modSeg re k f c n kp l tp le la td kt sh so had gr fi se to (p : Int) t d tl at_ sn him ik cu 0 st rm)])) (congrArg (fun q : Int => ((123, [some (.inr 192), some (.inl (e : Int)), some (.inl (((4 * e) : Nat) : Int))], .inl q :: [.inr 192], [A0, A1, A2, A3, A4, A5, (modSeg re k f c n kp l tp le la td kt sh so had gr fi se to (p : Int) t d tl at_ sn him ik cu 0 st rm)]) : aF)) (ho1)) ?_
  refine aGo okX8_comes 5 (f' := (130, [some (.inr 192), some (.inl (e : Int)), some (.inl (((4 * e) : Nat) : Int))], [.inl ((((4 * e) : Nat) : Int) + 1), .inr 203, .inl (o1 : Int), .inr 192], _)) rfl ?_
  refine b_ald (k := 203) (j := ((4 * e) + 1)) (a := td) okX8_comes rfl rfl (by omega) (by omega) (by omega) ?_
  refine b_cast (f' := (131, [some (.inr 192), some (.inl (e : Int)), some (.inl (((4 * e) : Nat) : Int))], [.inl (o2 : Int), .inl (o1 : Int), .inr 192], [A0, A1, A2, A3, A4, A5, (modSeg re k f c n kp l tp le la td kt sh so had gr fi se to (p : Int) t d tl at_ sn him ik cu 0 st rm)])) (congrArg (fun q : Int => ((131, [some (.inr 192), some (.inl (e : Int)), some (.inl (((4 * e) : Nat) : Int))], .inl q :: [.inl (o1 : Int), .inr 192], [A0, A1, A2, A3, A4, A5, (modSeg re k f c n kp l tp le la td kt sh so had gr fi se to (p : Int) t d tl at_ sn him ik cu 0 st rm)]) : aF)) (ho2)) ?_
  by_cases hc131 : 0 ≤ (o1 : Int) ∧ (o1 : Int) < (p : Int) ∧ 0 ≤ (o2 : Int) ∧ (o2 : Int) < (p : Int) ∧ (o1 : Int) ≠ (o2 : Int)
  · refine b_vV (as := [.inl (o1 : Int), .inl (o2 : Int)]) (rest := []) (k := 192) (.inl 1) okX8_comes rfl lkX8_134 caX8_areTwo (Nat.le_of_ble_eq_true rfl) rfl (Nat.le_of_ble_eq_true rfl) rfl rfl rfl (c_mTwo_t hp7 ⟨by omega, by omega⟩ ⟨by omega, by omega⟩ (by omega)) ?_
    refine b0_ne (tgt := 139) okX8_comes rfl rfl ⟨by omega, by omega⟩ (fun h134 => ?_) (fun h134 => absurd h134 (by omega))
    exfalso; omega
  · refine b_vV (as := [.inl (o1 : Int), .inl (o2 : Int)]) (rest := []) (k := 192) (.inl 0) okX8_comes rfl lkX8_134 caX8_areTwo (Nat.le_of_ble_eq_true rfl) rfl (Nat.le_of_ble_eq_true rfl) rfl rfl rfl (c_mTwo_f hp7 ⟨by omega, by omega⟩ ⟨by omega, by omega⟩ hc131) ?_
    refine b0_ne (tgt := 139) okX8_comes rfl rfl ⟨by omega, by omega⟩ (fun h134 => absurd h134 (by omega)) (fun h134 => ?_)
    refine aGo okX8_comes 1 (f' := (138, [some (.inr 192), some (.inl (e : Int)), some (.inl (((4 * e) : Nat) : Int))], [.inl 0], _)) rfl ?_
    exact b_ret (v := (some (.inl 0))) ⟨rfl, Or.inr ⟨rfl, Or.inl rfl⟩⟩ ⟨rfl, sh, so, st, hsh, hso, ⟨hp6, hd9, hb⟩, rfl⟩ rfl
set_option maxRecDepth 100000 in
set_option maxHeartbeats 4000000 in
theorem c_come_3t (hb : bOK p k f c n kp l t d) (hsh : sh.length = 7) (hso : so.length = 7) (hd9 : d ≤ 999) (hp6 : p ≤ 6) (htd : td.length = 192) (hle : le.length = 48) {e x : Nat} (he : e < 48) (hwf : wfS tp m x) (hlL : le.getD e 0 = 107) (hL : tp.getD x 0 = 107) (htd2 : tdOK tp td e x) (hB : (numL tp (x + 1) 1 < (p : Int))) : aEv mX8_comes 8 0 0 N [.inr 192, .inl (e : Int)] [A0, A1, A2, A3, A4, A5, (modSeg re k f c n kp l tp le la td kt sh so had gr fi se to (p : Int) t d tl at_ sn him ik cu 0 st rm)] ((fun rv h => rv = some (.inl 1) ∧ ∃ (sh2 so2 : List Int) (st2 : Int), sh2.length = 7 ∧ so2.length = 7 ∧ bOKs (sayS tp x (k, f, c, n, kp, l, p, t, d)) ∧ h = [A0, A1, A2, A3, A4, A5, (modSeg re ((sayS tp x (k, f, c, n, kp, l, p, t, d)).1) ((sayS tp x (k, f, c, n, kp, l, p, t, d)).2.1) ((sayS tp x (k, f, c, n, kp, l, p, t, d)).2.2.1) ((sayS tp x (k, f, c, n, kp, l, p, t, d)).2.2.2.1) ((sayS tp x (k, f, c, n, kp, l, p, t, d)).2.2.2.2.1) ((sayS tp x (k, f, c, n, kp, l, p, t, d)).2.2.2.2.2.1) tp le la td kt sh2 so2 had gr fi se to ((sayS tp x (k, f, c, n, kp, l, p, t, d)).2.2.2.2.2.2.1 : Int) ((sayS tp x (k, f, c, n, kp, l, p, t, d)).2.2.2.2.2.2.2.1) ((sayS tp x (k, f, c, n, kp, l, p, t, d)).2.2.2.2.2.2.2.2) tl at_ sn him ik cu 0 st2 rm)])) := by
  obtain ⟨hp7, hk, hf, hc, hn, hkp, hl, rk, rf, rc, rn, rkp, rl, ht0, ht1, hd0, hd1⟩ := id hb
  have hfm : fmI (tp.getD x 0) = 3 := by rw [hL]; rfl
  have b1 := wf_num hwf hfm (a := 1) (b := 1) (by decide) (by decide) (by decide +kernel)
  have b1q : (10 : Int) ^ 1 = 10 := by decide
  rw [b1q] at b1
  have b2 := wf_num hwf hfm (a := 2) (b := 4) (by decide) (by decide) (by decide +kernel)
  have b2q : (10 : Int) ^ 4 = 10000 := by decide
  rw [b2q] at b2
  have hq := htd2.2.2.2.1 hfm
  obtain ⟨o1, hn1⟩ : ∃ o1 : Nat, numL tp (x + 1) 1 = (o1 : Int) := ⟨(numL tp (x + 1) 1).toNat, by omega⟩
  have ho1 := hq.1.trans hn1
  refine aEv_of okX8_comes caX8_comes (Nat.le_of_ble_eq_true rfl) ?_
  refine aGo okX8_comes 4 (f' := (4, [some (.inr 192), some (.inl (e : Int)), some (.inl (4 * (e : Int)))], [], _)) rfl ?_
  refine b_cast (f' := (4, [some (.inr 192), some (.inl (e : Int)), some (.inl (((4 * e) : Nat) : Int))], [], [A0, A1, A2, A3, A4, A5, (modSeg re k f c n kp l tp le la td kt sh so had gr fi se to (p : Int) t d tl at_ sn him ik cu 0 st rm)])) (rfl) ?_
  refine aGo okX8_comes 3 (f' := (9, [some (.inr 192), some (.inl (e : Int)), some (.inl (((4 * e) : Nat) : Int))], [.inl (e : Int), .inr 201], _)) rfl ?_
  refine b_ald (k := 201) (j := e) (a := le) okX8_comes rfl rfl (by omega) (by omega) (by omega) ?_
  refine b_cast (f' := (10, [some (.inr 192), some (.inl (e : Int)), some (.inl (((4 * e) : Nat) : Int))], [.inl (107)], [A0, A1, A2, A3, A4, A5, (modSeg re k f c n kp l tp le la td kt sh so had gr fi se to (p : Int) t d tl at_ sn him ik cu 0 st rm)])) (congrArg (fun q : Int => ((10, [some (.inr 192), some (.inl (e : Int)), some (.inl (((4 * e) : Nat) : Int))], .inl q :: [], [A0, A1, A2, A3, A4, A5, (modSeg re k f c n kp l tp le la td kt sh so had gr fi se to (p : Int) t d tl at_ sn him ik cu 0 st rm)]) : aF)) (hlL)) ?_
  refine b_look (tgt := 172) okX8_comes rfl (by decide) ⟨by decide, by decide⟩ rfl rfl ?_
  refine aGo okX8_comes 4 (f' := (178, [some (.inr 192), some (.inl (e : Int)), some (.inl (((4 * e) : Nat) : Int))], [.inl (((4 * e) : Nat) : Int), .inr 203, .inr 192], _)) rfl ?_
  refine b_ald (k := 203) (j := (4 * e)) (a := td) okX8_comes rfl rfl (by omega) (by omega) (by omega) ?_
  refine b_cast (f' := (179, [some (.inr 192), some (.inl (e : Int)), some (.inl (((4 * e) : Nat) : Int))], [.inl (o1 : Int), .inr 192], [A0, A1, A2, A3, A4, A5, (modSeg re k f c n kp l tp le la td kt sh so had gr fi se to (p : Int) t d tl at_ sn him ik cu 0 st rm)])) (congrArg (fun q : Int => ((179, [some (.inr 192), some (.inl (e : Int)), some (.inl (((4 * e) : Nat) : Int))], .inl q :: [.inr 192], [A0, A1, A2, A3, A4, A5, (modSeg re k f c n kp l tp le la td kt sh so had gr fi se to (p : Int) t d tl at_ sn him ik cu 0 st rm)]) : aF)) (ho1)) ?_
  by_cases hc179 : 0 ≤ (o1 : Int) ∧ (o1 : Int) < (p : Int)
  · refine b_vV (as := [.inl (o1 : Int)]) (rest := []) (k := 192) (.inl 1) okX8_comes rfl lkX8_75 caX8_isOne (Nat.le_of_ble_eq_true rfl) rfl (Nat.le_of_ble_eq_true rfl) rfl rfl rfl (c_isOne_t hp7 hc179) ?_
    refine b0_ne (tgt := 187) okX8_comes rfl rfl ⟨by omega, by omega⟩ (fun h182 => ?_) (fun h182 => absurd h182 (by omega))
    refine aGo okX8_comes 5 (f' := (196, [some (.inr 192), some (.inl (e : Int)), some (.inl (((4 * e) : Nat) : Int))], [.inl (((4 * e) : Nat) : Int), .inr 203, .inr 198], _)) rfl ?_
    refine b_ald (k := 203) (j := (4 * e)) (a := td) okX8_comes rfl rfl (by omega) (by omega) (by omega) ?_
    refine b_cast (f' := (197, [some (.inr 192), some (.inl (e : Int)), some (.inl (((4 * e) : Nat) : Int))], [.inl (o1 : Int), .inr 198], [A0, A1, A2, A3, A4, A5, (modSeg re k f c n kp l tp le la td kt sh so had gr fi se to (p : Int) t d tl at_ sn him ik cu 0 st rm)])) (congrArg (fun q : Int => ((197, [some (.inr 192), some (.inl (e : Int)), some (.inl (((4 * e) : Nat) : Int))], .inl q :: [.inr 198], [A0, A1, A2, A3, A4, A5, (modSeg re k f c n kp l tp le la td kt sh so had gr fi se to (p : Int) t d tl at_ sn him ik cu 0 st rm)]) : aF)) (ho1)) ?_
    refine aGo okX8_comes 5 (f' := (204, [some (.inr 192), some (.inl (e : Int)), some (.inl (((4 * e) : Nat) : Int))], [.inl ((((4 * e) : Nat) : Int) + 1), .inr 203, .inl (o1 : Int), .inr 198], _)) rfl ?_
    refine b_ald (k := 203) (j := ((4 * e) + 1)) (a := td) okX8_comes rfl rfl (by omega) (by omega) (by omega) ?_
    refine b_cast (f' := (205, [some (.inr 192), some (.inl (e : Int)), some (.inl (((4 * e) : Nat) : Int))], [.inl (numL tp (x + 2) 4), .inl (o1 : Int), .inr 198], [A0, A1, A2, A3, A4, A5, (modSeg re k f c n kp l tp le la td kt sh so had gr fi se to (p : Int) t d tl at_ sn him ik cu 0 st rm)])) (congrArg (fun q : Int => ((205, [some (.inr 192), some (.inl (e : Int)), some (.inl (((4 * e) : Nat) : Int))], .inl q :: [.inl (o1 : Int), .inr 198], [A0, A1, A2, A3, A4, A5, (modSeg re k f c n kp l tp le la td kt sh so had gr fi se to (p : Int) t d tl at_ sn him ik cu 0 st rm)]) : aF)) (hq.2)) ?_
    refine b_ast (k := 198) (j := o1) (a := kp) okX8_comes rfl rfl (by omega) (by omega) (by omega) ?_
    refine b_cast (f' := (206, [some (.inr 192), some (.inl (e : Int)), some (.inl (((4 * e) : Nat) : Int))], [], [A0, A1, A2, A3, A4, A5, (modSeg re k f c n (kp.set o1 (numL tp (x + 2) 4)) l tp le la td kt sh so had gr fi se to (p : Int) t d tl at_ sn him ik cu 0 st rm)])) rfl ?_
    refine aGo okX8_comes 1 (f' := (207, [some (.inr 192), some (.inl (e : Int)), some (.inl (((4 * e) : Nat) : Int))], [.inl 1], _)) rfl ?_
    exact b_ret (v := (some (.inl 1))) ⟨rfl, Or.inr ⟨rfl, Or.inr rfl⟩⟩ ⟨rfl, sh, so, st, hsh, hso, by rw [sayS_3 hfm, hn1]; exact ⟨hp6, hd9, bOK_kp hb (by omega) (by omega)⟩, by rw [sayS_3 hfm, hn1]; first | done | rfl⟩ rfl
  · refine b_vV (as := [.inl (o1 : Int)]) (rest := []) (k := 192) (.inl 0) okX8_comes rfl lkX8_75 caX8_isOne (Nat.le_of_ble_eq_true rfl) rfl (Nat.le_of_ble_eq_true rfl) rfl rfl rfl (c_isOne_f hp7 ⟨by omega, by omega⟩ hc179) ?_
    refine b0_ne (tgt := 187) okX8_comes rfl rfl ⟨by omega, by omega⟩ (fun h182 => absurd h182 (by omega)) (fun h182 => ?_)
    exfalso; omega
set_option maxRecDepth 100000 in
set_option maxHeartbeats 4000000 in
theorem c_come_3f (hb : bOK p k f c n kp l t d) (hsh : sh.length = 7) (hso : so.length = 7) (hd9 : d ≤ 999) (hp6 : p ≤ 6) (htd : td.length = 192) (hle : le.length = 48) {e x : Nat} (he : e < 48) (hwf : wfS tp m x) (hlL : le.getD e 0 = 107) (hL : tp.getD x 0 = 107) (htd2 : tdOK tp td e x) (hB : ¬ (numL tp (x + 1) 1 < (p : Int))) : aEv mX8_comes 8 0 0 N [.inr 192, .inl (e : Int)] [A0, A1, A2, A3, A4, A5, (modSeg re k f c n kp l tp le la td kt sh so had gr fi se to (p : Int) t d tl at_ sn him ik cu 0 st rm)] ((fun rv h => rv = some (.inl 0) ∧ ∃ (sh2 so2 : List Int) (st2 : Int), sh2.length = 7 ∧ so2.length = 7 ∧ bOKs (k, f, c, n, kp, l, p, t, d) ∧ h = [A0, A1, A2, A3, A4, A5, (modSeg re ((k, f, c, n, kp, l, p, t, d).1) ((k, f, c, n, kp, l, p, t, d).2.1) ((k, f, c, n, kp, l, p, t, d).2.2.1) ((k, f, c, n, kp, l, p, t, d).2.2.2.1) ((k, f, c, n, kp, l, p, t, d).2.2.2.2.1) ((k, f, c, n, kp, l, p, t, d).2.2.2.2.2.1) tp le la td kt sh2 so2 had gr fi se to ((k, f, c, n, kp, l, p, t, d).2.2.2.2.2.2.1 : Int) ((k, f, c, n, kp, l, p, t, d).2.2.2.2.2.2.2.1) ((k, f, c, n, kp, l, p, t, d).2.2.2.2.2.2.2.2) tl at_ sn him ik cu 0 st2 rm)])) := by
  obtain ⟨hp7, hk, hf, hc, hn, hkp, hl, rk, rf, rc, rn, rkp, rl, ht0, ht1, hd0, hd1⟩ := id hb
  have hfm : fmI (tp.getD x 0) = 3 := by rw [hL]; rfl
  have b1 := wf_num hwf hfm (a := 1) (b := 1) (by decide) (by decide) (by decide +kernel)
  have b1q : (10 : Int) ^ 1 = 10 := by decide
  rw [b1q] at b1
  have b2 := wf_num hwf hfm (a := 2) (b := 4) (by decide) (by decide) (by decide +kernel)
  have b2q : (10 : Int) ^ 4 = 10000 := by decide
  rw [b2q] at b2
  have hq := htd2.2.2.2.1 hfm
  obtain ⟨o1, hn1⟩ : ∃ o1 : Nat, numL tp (x + 1) 1 = (o1 : Int) := ⟨(numL tp (x + 1) 1).toNat, by omega⟩
  have ho1 := hq.1.trans hn1
  refine aEv_of okX8_comes caX8_comes (Nat.le_of_ble_eq_true rfl) ?_
  refine aGo okX8_comes 4 (f' := (4, [some (.inr 192), some (.inl (e : Int)), some (.inl (4 * (e : Int)))], [], _)) rfl ?_
  refine b_cast (f' := (4, [some (.inr 192), some (.inl (e : Int)), some (.inl (((4 * e) : Nat) : Int))], [], [A0, A1, A2, A3, A4, A5, (modSeg re k f c n kp l tp le la td kt sh so had gr fi se to (p : Int) t d tl at_ sn him ik cu 0 st rm)])) (rfl) ?_
  refine aGo okX8_comes 3 (f' := (9, [some (.inr 192), some (.inl (e : Int)), some (.inl (((4 * e) : Nat) : Int))], [.inl (e : Int), .inr 201], _)) rfl ?_
  refine b_ald (k := 201) (j := e) (a := le) okX8_comes rfl rfl (by omega) (by omega) (by omega) ?_
  refine b_cast (f' := (10, [some (.inr 192), some (.inl (e : Int)), some (.inl (((4 * e) : Nat) : Int))], [.inl (107)], [A0, A1, A2, A3, A4, A5, (modSeg re k f c n kp l tp le la td kt sh so had gr fi se to (p : Int) t d tl at_ sn him ik cu 0 st rm)])) (congrArg (fun q : Int => ((10, [some (.inr 192), some (.inl (e : Int)), some (.inl (((4 * e) : Nat) : Int))], .inl q :: [], [A0, A1, A2, A3, A4, A5, (modSeg re k f c n kp l tp le la td kt sh so had gr fi se to (p : Int) t d tl at_ sn him ik cu 0 st rm)]) : aF)) (hlL)) ?_
  refine b_look (tgt := 172) okX8_comes rfl (by decide) ⟨by decide, by decide⟩ rfl rfl ?_
  refine aGo okX8_comes 4 (f' := (178, [some (.inr 192), some (.inl (e : Int)), some (.inl (((4 * e) : Nat) : Int))], [.inl (((4 * e) : Nat) : Int), .inr 203, .inr 192], _)) rfl ?_
  refine b_ald (k := 203) (j := (4 * e)) (a := td) okX8_comes rfl rfl (by omega) (by omega) (by omega) ?_
  refine b_cast (f' := (179, [some (.inr 192), some (.inl (e : Int)), some (.inl (((4 * e) : Nat) : Int))], [.inl (o1 : Int), .inr 192], [A0, A1, A2, A3, A4, A5, (modSeg re k f c n kp l tp le la td kt sh so had gr fi se to (p : Int) t d tl at_ sn him ik cu 0 st rm)])) (congrArg (fun q : Int => ((179, [some (.inr 192), some (.inl (e : Int)), some (.inl (((4 * e) : Nat) : Int))], .inl q :: [.inr 192], [A0, A1, A2, A3, A4, A5, (modSeg re k f c n kp l tp le la td kt sh so had gr fi se to (p : Int) t d tl at_ sn him ik cu 0 st rm)]) : aF)) (ho1)) ?_
  by_cases hc179 : 0 ≤ (o1 : Int) ∧ (o1 : Int) < (p : Int)
  · refine b_vV (as := [.inl (o1 : Int)]) (rest := []) (k := 192) (.inl 1) okX8_comes rfl lkX8_75 caX8_isOne (Nat.le_of_ble_eq_true rfl) rfl (Nat.le_of_ble_eq_true rfl) rfl rfl rfl (c_isOne_t hp7 hc179) ?_
    refine b0_ne (tgt := 187) okX8_comes rfl rfl ⟨by omega, by omega⟩ (fun h182 => ?_) (fun h182 => absurd h182 (by omega))
    exfalso; omega
  · refine b_vV (as := [.inl (o1 : Int)]) (rest := []) (k := 192) (.inl 0) okX8_comes rfl lkX8_75 caX8_isOne (Nat.le_of_ble_eq_true rfl) rfl (Nat.le_of_ble_eq_true rfl) rfl rfl rfl (c_isOne_f hp7 ⟨by omega, by omega⟩ hc179) ?_
    refine b0_ne (tgt := 187) okX8_comes rfl rfl ⟨by omega, by omega⟩ (fun h182 => absurd h182 (by omega)) (fun h182 => ?_)
    refine aGo okX8_comes 1 (f' := (186, [some (.inr 192), some (.inl (e : Int)), some (.inl (((4 * e) : Nat) : Int))], [.inl 0], _)) rfl ?_
    exact b_ret (v := (some (.inl 0))) ⟨rfl, Or.inr ⟨rfl, Or.inl rfl⟩⟩ ⟨rfl, sh, so, st, hsh, hso, ⟨hp6, hd9, hb⟩, rfl⟩ rfl
set_option maxRecDepth 100000 in
set_option maxHeartbeats 4000000 in
theorem c_come_4t (hb : bOK p k f c n kp l t d) (hsh : sh.length = 7) (hso : so.length = 7) (hd9 : d ≤ 999) (hp6 : p ≤ 6) (htd : td.length = 192) (hle : le.length = 48) {e x : Nat} (he : e < 48) (hwf : wfS tp m x) (hlL : le.getD e 0 = 115) (hL : tp.getD x 0 = 115) (htd2 : tdOK tp td e x) (hB : (True)) : aEv mX8_comes 8 0 0 N [.inr 192, .inl (e : Int)] [A0, A1, A2, A3, A4, A5, (modSeg re k f c n kp l tp le la td kt sh so had gr fi se to (p : Int) t d tl at_ sn him ik cu 0 st rm)] ((fun rv h => rv = some (.inl 1) ∧ ∃ (sh2 so2 : List Int) (st2 : Int), sh2.length = 7 ∧ so2.length = 7 ∧ bOKs (sayS tp x (k, f, c, n, kp, l, p, t, d)) ∧ h = [A0, A1, A2, A3, A4, A5, (modSeg re ((sayS tp x (k, f, c, n, kp, l, p, t, d)).1) ((sayS tp x (k, f, c, n, kp, l, p, t, d)).2.1) ((sayS tp x (k, f, c, n, kp, l, p, t, d)).2.2.1) ((sayS tp x (k, f, c, n, kp, l, p, t, d)).2.2.2.1) ((sayS tp x (k, f, c, n, kp, l, p, t, d)).2.2.2.2.1) ((sayS tp x (k, f, c, n, kp, l, p, t, d)).2.2.2.2.2.1) tp le la td kt sh2 so2 had gr fi se to ((sayS tp x (k, f, c, n, kp, l, p, t, d)).2.2.2.2.2.2.1 : Int) ((sayS tp x (k, f, c, n, kp, l, p, t, d)).2.2.2.2.2.2.2.1) ((sayS tp x (k, f, c, n, kp, l, p, t, d)).2.2.2.2.2.2.2.2) tl at_ sn him ik cu 0 st2 rm)])) := by
  obtain ⟨hp7, hk, hf, hc, hn, hkp, hl, rk, rf, rc, rn, rkp, rl, ht0, ht1, hd0, hd1⟩ := id hb
  have hfm : fmI (tp.getD x 0) = 4 := by rw [hL]; rfl
  have b1 := wf_num hwf hfm (a := 1) (b := 3) (by decide) (by decide) (by decide +kernel)
  have b1q : (10 : Int) ^ 3 = 1000 := by decide
  rw [b1q] at b1
  have hq := htd2.2.2.2.2.1 hfm
  refine aEv_of okX8_comes caX8_comes (Nat.le_of_ble_eq_true rfl) ?_
  refine aGo okX8_comes 4 (f' := (4, [some (.inr 192), some (.inl (e : Int)), some (.inl (4 * (e : Int)))], [], _)) rfl ?_
  refine b_cast (f' := (4, [some (.inr 192), some (.inl (e : Int)), some (.inl (((4 * e) : Nat) : Int))], [], [A0, A1, A2, A3, A4, A5, (modSeg re k f c n kp l tp le la td kt sh so had gr fi se to (p : Int) t d tl at_ sn him ik cu 0 st rm)])) (rfl) ?_
  refine aGo okX8_comes 3 (f' := (9, [some (.inr 192), some (.inl (e : Int)), some (.inl (((4 * e) : Nat) : Int))], [.inl (e : Int), .inr 201], _)) rfl ?_
  refine b_ald (k := 201) (j := e) (a := le) okX8_comes rfl rfl (by omega) (by omega) (by omega) ?_
  refine b_cast (f' := (10, [some (.inr 192), some (.inl (e : Int)), some (.inl (((4 * e) : Nat) : Int))], [.inl (115)], [A0, A1, A2, A3, A4, A5, (modSeg re k f c n kp l tp le la td kt sh so had gr fi se to (p : Int) t d tl at_ sn him ik cu 0 st rm)])) (congrArg (fun q : Int => ((10, [some (.inr 192), some (.inl (e : Int)), some (.inl (((4 * e) : Nat) : Int))], .inl q :: [], [A0, A1, A2, A3, A4, A5, (modSeg re k f c n kp l tp le la td kt sh so had gr fi se to (p : Int) t d tl at_ sn him ik cu 0 st rm)]) : aF)) (hlL)) ?_
  refine b_look (tgt := 208) okX8_comes rfl (by decide) ⟨by decide, by decide⟩ rfl rfl ?_
  refine aGo okX8_comes 4 (f' := (214, [some (.inr 192), some (.inl (e : Int)), some (.inl (((4 * e) : Nat) : Int))], [.inl (((4 * e) : Nat) : Int), .inr 203, .inr 192], _)) rfl ?_
  refine b_ald (k := 203) (j := (4 * e)) (a := td) okX8_comes rfl rfl (by omega) (by omega) (by omega) ?_
  refine b_cast (f' := (215, [some (.inr 192), some (.inl (e : Int)), some (.inl (((4 * e) : Nat) : Int))], [.inl (numL tp (x + 1) 3), .inr 192], [A0, A1, A2, A3, A4, A5, (modSeg re k f c n kp l tp le la td kt sh so had gr fi se to (p : Int) t d tl at_ sn him ik cu 0 st rm)])) (congrArg (fun q : Int => ((215, [some (.inr 192), some (.inl (e : Int)), some (.inl (((4 * e) : Nat) : Int))], .inl q :: [.inr 192], [A0, A1, A2, A3, A4, A5, (modSeg re k f c n kp l tp le la td kt sh so had gr fi se to (p : Int) t d tl at_ sn him ik cu 0 st rm)]) : aF)) (hq)) ?_
  refine aGo okX8_comes 2 (f' := (219, [some (.inr 192), some (.inl (e : Int)), some (.inl (((4 * e) : Nat) : Int))], [.inl 1], [A0, A1, A2, A3, A4, A5, (modSeg re k f c n kp l tp le la td kt sh so had gr fi se to (p : Int) (numL tp (x + 1) 3) d tl at_ sn him ik cu 0 st rm)])) rfl ?_
  exact b_ret (v := (some (.inl 1))) ⟨rfl, Or.inr ⟨rfl, Or.inr rfl⟩⟩ ⟨rfl, sh, so, st, hsh, hso, by rw [sayS_4 hfm]; exact ⟨hp6, hd9, bOK_t hb (v := numL tp (x + 1) 3) (by omega) (by omega)⟩, by rw [sayS_4 hfm]; first | done | rfl⟩ rfl
set_option maxRecDepth 100000 in
set_option maxHeartbeats 4000000 in
theorem c_come_5t (hb : bOK p k f c n kp l t d) (hsh : sh.length = 7) (hso : so.length = 7) (hd9 : d ≤ 999) (hp6 : p ≤ 6) (htd : td.length = 192) (hle : le.length = 48) {e x : Nat} (he : e < 48) (hwf : wfS tp m x) (hlL : le.getD e 0 = 100) (hL : tp.getD x 0 = 100) (htd2 : tdOK tp td e x) (hB : (1 ≤ numL tp (x + 1) 2 ∧ numL tp (x + 1) 2 ≤ 60 ∧ d + numL tp (x + 1) 2 ≤ 999)) : aEv mX8_comes 8 0 0 N [.inr 192, .inl (e : Int)] [A0, A1, A2, A3, A4, A5, (modSeg re k f c n kp l tp le la td kt sh so had gr fi se to (p : Int) t d tl at_ sn him ik cu 0 st rm)] ((fun rv h => rv = some (.inl 1) ∧ ∃ (sh2 so2 : List Int) (st2 : Int), sh2.length = 7 ∧ so2.length = 7 ∧ bOKs (sayS tp x (k, f, c, n, kp, l, p, t, d)) ∧ h = [A0, A1, A2, A3, A4, A5, (modSeg re ((sayS tp x (k, f, c, n, kp, l, p, t, d)).1) ((sayS tp x (k, f, c, n, kp, l, p, t, d)).2.1) ((sayS tp x (k, f, c, n, kp, l, p, t, d)).2.2.1) ((sayS tp x (k, f, c, n, kp, l, p, t, d)).2.2.2.1) ((sayS tp x (k, f, c, n, kp, l, p, t, d)).2.2.2.2.1) ((sayS tp x (k, f, c, n, kp, l, p, t, d)).2.2.2.2.2.1) tp le la td kt sh2 so2 had gr fi se to ((sayS tp x (k, f, c, n, kp, l, p, t, d)).2.2.2.2.2.2.1 : Int) ((sayS tp x (k, f, c, n, kp, l, p, t, d)).2.2.2.2.2.2.2.1) ((sayS tp x (k, f, c, n, kp, l, p, t, d)).2.2.2.2.2.2.2.2) tl at_ sn him ik cu 0 st2 rm)])) := by
  obtain ⟨hp7, hk, hf, hc, hn, hkp, hl, rk, rf, rc, rn, rkp, rl, ht0, ht1, hd0, hd1⟩ := id hb
  have hfm : fmI (tp.getD x 0) = 5 := by rw [hL]; rfl
  have b1 := wf_num hwf hfm (a := 1) (b := 2) (by decide) (by decide) (by decide +kernel)
  have b1q : (10 : Int) ^ 2 = 100 := by decide
  rw [b1q] at b1
  have hq := htd2.2.2.2.2.2 hfm
  obtain ⟨o1, hn1⟩ : ∃ o1 : Nat, numL tp (x + 1) 2 = (o1 : Int) := ⟨(numL tp (x + 1) 2).toNat, by omega⟩
  have ho1 := hq.trans hn1
  refine aEv_of okX8_comes caX8_comes (Nat.le_of_ble_eq_true rfl) ?_
  refine aGo okX8_comes 4 (f' := (4, [some (.inr 192), some (.inl (e : Int)), some (.inl (4 * (e : Int)))], [], _)) rfl ?_
  refine b_cast (f' := (4, [some (.inr 192), some (.inl (e : Int)), some (.inl (((4 * e) : Nat) : Int))], [], [A0, A1, A2, A3, A4, A5, (modSeg re k f c n kp l tp le la td kt sh so had gr fi se to (p : Int) t d tl at_ sn him ik cu 0 st rm)])) (rfl) ?_
  refine aGo okX8_comes 3 (f' := (9, [some (.inr 192), some (.inl (e : Int)), some (.inl (((4 * e) : Nat) : Int))], [.inl (e : Int), .inr 201], _)) rfl ?_
  refine b_ald (k := 201) (j := e) (a := le) okX8_comes rfl rfl (by omega) (by omega) (by omega) ?_
  refine b_cast (f' := (10, [some (.inr 192), some (.inl (e : Int)), some (.inl (((4 * e) : Nat) : Int))], [.inl (100)], [A0, A1, A2, A3, A4, A5, (modSeg re k f c n kp l tp le la td kt sh so had gr fi se to (p : Int) t d tl at_ sn him ik cu 0 st rm)])) (congrArg (fun q : Int => ((10, [some (.inr 192), some (.inl (e : Int)), some (.inl (((4 * e) : Nat) : Int))], .inl q :: [], [A0, A1, A2, A3, A4, A5, (modSeg re k f c n kp l tp le la td kt sh so had gr fi se to (p : Int) t d tl at_ sn him ik cu 0 st rm)]) : aF)) (hlL)) ?_
  refine b_look (tgt := 220) okX8_comes rfl (by decide) ⟨by decide, by decide⟩ rfl rfl ?_
  refine aGo okX8_comes 4 (f' := (226, [some (.inr 192), some (.inl (e : Int)), some (.inl (((4 * e) : Nat) : Int))], [.inl (((4 * e) : Nat) : Int), .inr 203, .inr 192], _)) rfl ?_
  refine b_ald (k := 203) (j := (4 * e)) (a := td) okX8_comes rfl rfl (by omega) (by omega) (by omega) ?_
  refine b_cast (f' := (227, [some (.inr 192), some (.inl (e : Int)), some (.inl (((4 * e) : Nat) : Int))], [.inl (o1 : Int), .inr 192], [A0, A1, A2, A3, A4, A5, (modSeg re k f c n kp l tp le la td kt sh so had gr fi se to (p : Int) t d tl at_ sn him ik cu 0 st rm)])) (congrArg (fun q : Int => ((227, [some (.inr 192), some (.inl (e : Int)), some (.inl (((4 * e) : Nat) : Int))], .inl q :: [.inr 192], [A0, A1, A2, A3, A4, A5, (modSeg re k f c n kp l tp le la td kt sh so had gr fi se to (p : Int) t d tl at_ sn him ik cu 0 st rm)]) : aF)) (ho1)) ?_
  refine b_vE (as := [.inl (o1 : Int)]) (rest := []) (k := 192) okX8_comes rfl lkX8_137 caX8_comesDays (Nat.le_of_ble_eq_true rfl) rfl (Nat.le_of_ble_eq_true rfl) rfl rfl rfl (c_cod_t hb hsh hso hd9 (o := o1) (by omega)) ?_
  rintro _ _ ⟨rfl, sh2, so2, st2, lsh2, lso2, rfl⟩
  exact b_ret (v := (some (.inl 1))) ⟨rfl, Or.inr ⟨rfl, Or.inr rfl⟩⟩ ⟨rfl, sh2, so2, st2, lsh2, lso2, by rw [sayS_5 hfm, hn1]; exact ⟨hp6, (show d + (o1 : Int) ≤ 999 by omega), bOK_it hb _ (by omega)⟩, by rw [sayS_5 hfm, hn1]; first | done | rfl⟩ rfl
set_option maxRecDepth 100000 in
set_option maxHeartbeats 4000000 in
theorem c_come_5f (hb : bOK p k f c n kp l t d) (hsh : sh.length = 7) (hso : so.length = 7) (hd9 : d ≤ 999) (hp6 : p ≤ 6) (htd : td.length = 192) (hle : le.length = 48) {e x : Nat} (he : e < 48) (hwf : wfS tp m x) (hlL : le.getD e 0 = 100) (hL : tp.getD x 0 = 100) (htd2 : tdOK tp td e x) (hB : ¬ (1 ≤ numL tp (x + 1) 2 ∧ numL tp (x + 1) 2 ≤ 60 ∧ d + numL tp (x + 1) 2 ≤ 999)) : aEv mX8_comes 8 0 0 N [.inr 192, .inl (e : Int)] [A0, A1, A2, A3, A4, A5, (modSeg re k f c n kp l tp le la td kt sh so had gr fi se to (p : Int) t d tl at_ sn him ik cu 0 st rm)] ((fun rv h => rv = some (.inl 0) ∧ ∃ (sh2 so2 : List Int) (st2 : Int), sh2.length = 7 ∧ so2.length = 7 ∧ bOKs (k, f, c, n, kp, l, p, t, d) ∧ h = [A0, A1, A2, A3, A4, A5, (modSeg re ((k, f, c, n, kp, l, p, t, d).1) ((k, f, c, n, kp, l, p, t, d).2.1) ((k, f, c, n, kp, l, p, t, d).2.2.1) ((k, f, c, n, kp, l, p, t, d).2.2.2.1) ((k, f, c, n, kp, l, p, t, d).2.2.2.2.1) ((k, f, c, n, kp, l, p, t, d).2.2.2.2.2.1) tp le la td kt sh2 so2 had gr fi se to ((k, f, c, n, kp, l, p, t, d).2.2.2.2.2.2.1 : Int) ((k, f, c, n, kp, l, p, t, d).2.2.2.2.2.2.2.1) ((k, f, c, n, kp, l, p, t, d).2.2.2.2.2.2.2.2) tl at_ sn him ik cu 0 st2 rm)])) := by
  obtain ⟨hp7, hk, hf, hc, hn, hkp, hl, rk, rf, rc, rn, rkp, rl, ht0, ht1, hd0, hd1⟩ := id hb
  have hfm : fmI (tp.getD x 0) = 5 := by rw [hL]; rfl
  have b1 := wf_num hwf hfm (a := 1) (b := 2) (by decide) (by decide) (by decide +kernel)
  have b1q : (10 : Int) ^ 2 = 100 := by decide
  rw [b1q] at b1
  have hq := htd2.2.2.2.2.2 hfm
  obtain ⟨o1, hn1⟩ : ∃ o1 : Nat, numL tp (x + 1) 2 = (o1 : Int) := ⟨(numL tp (x + 1) 2).toNat, by omega⟩
  have ho1 := hq.trans hn1
  refine aEv_of okX8_comes caX8_comes (Nat.le_of_ble_eq_true rfl) ?_
  refine aGo okX8_comes 4 (f' := (4, [some (.inr 192), some (.inl (e : Int)), some (.inl (4 * (e : Int)))], [], _)) rfl ?_
  refine b_cast (f' := (4, [some (.inr 192), some (.inl (e : Int)), some (.inl (((4 * e) : Nat) : Int))], [], [A0, A1, A2, A3, A4, A5, (modSeg re k f c n kp l tp le la td kt sh so had gr fi se to (p : Int) t d tl at_ sn him ik cu 0 st rm)])) (rfl) ?_
  refine aGo okX8_comes 3 (f' := (9, [some (.inr 192), some (.inl (e : Int)), some (.inl (((4 * e) : Nat) : Int))], [.inl (e : Int), .inr 201], _)) rfl ?_
  refine b_ald (k := 201) (j := e) (a := le) okX8_comes rfl rfl (by omega) (by omega) (by omega) ?_
  refine b_cast (f' := (10, [some (.inr 192), some (.inl (e : Int)), some (.inl (((4 * e) : Nat) : Int))], [.inl (100)], [A0, A1, A2, A3, A4, A5, (modSeg re k f c n kp l tp le la td kt sh so had gr fi se to (p : Int) t d tl at_ sn him ik cu 0 st rm)])) (congrArg (fun q : Int => ((10, [some (.inr 192), some (.inl (e : Int)), some (.inl (((4 * e) : Nat) : Int))], .inl q :: [], [A0, A1, A2, A3, A4, A5, (modSeg re k f c n kp l tp le la td kt sh so had gr fi se to (p : Int) t d tl at_ sn him ik cu 0 st rm)]) : aF)) (hlL)) ?_
  refine b_look (tgt := 220) okX8_comes rfl (by decide) ⟨by decide, by decide⟩ rfl rfl ?_
  refine aGo okX8_comes 4 (f' := (226, [some (.inr 192), some (.inl (e : Int)), some (.inl (((4 * e) : Nat) : Int))], [.inl (((4 * e) : Nat) : Int), .inr 203, .inr 192], _)) rfl ?_
  refine b_ald (k := 203) (j := (4 * e)) (a := td) okX8_comes rfl rfl (by omega) (by omega) (by omega) ?_
  refine b_cast (f' := (227, [some (.inr 192), some (.inl (e : Int)), some (.inl (((4 * e) : Nat) : Int))], [.inl (o1 : Int), .inr 192], [A0, A1, A2, A3, A4, A5, (modSeg re k f c n kp l tp le la td kt sh so had gr fi se to (p : Int) t d tl at_ sn him ik cu 0 st rm)])) (congrArg (fun q : Int => ((227, [some (.inr 192), some (.inl (e : Int)), some (.inl (((4 * e) : Nat) : Int))], .inl q :: [.inr 192], [A0, A1, A2, A3, A4, A5, (modSeg re k f c n kp l tp le la td kt sh so had gr fi se to (p : Int) t d tl at_ sn him ik cu 0 st rm)]) : aF)) (ho1)) ?_
  refine b_vE (as := [.inl (o1 : Int)]) (rest := []) (k := 192) okX8_comes rfl lkX8_137 caX8_comesDays (Nat.le_of_ble_eq_true rfl) rfl (Nat.le_of_ble_eq_true rfl) rfl rfl rfl (c_cod_f hb hd9 (o := o1) (by omega) (by omega)) ?_
  rintro _ _ ⟨rfl, rfl⟩
  exact b_ret (v := (some (.inl 0))) ⟨rfl, Or.inr ⟨rfl, Or.inl rfl⟩⟩ ⟨rfl, sh, so, st, hsh, hso, ⟨hp6, hd9, hb⟩, rfl⟩ rfl
theorem c_comes_t {s : moT} (hs : bOKs s) (hsh : sh.length = 7) (hso : so.length = 7) (htd : td.length = 192) (hle : le.length = 48) {e x : Nat} (he : e < 48) (hwf : wfS tp m x) (hlL : le.getD e 0 = tp.getD x 0) (htd2 : tdOK tp td e x) (hb : sayB tp x s = true) : aEv mX8_comes 8 0 0 N [.inr 192, .inl (e : Int)] [A0, A1, A2, A3, A4, A5, (modSeg re (s.1) (s.2.1) (s.2.2.1) (s.2.2.2.1) (s.2.2.2.2.1) (s.2.2.2.2.2.1) tp le la td kt sh so had gr fi se to (s.2.2.2.2.2.2.1 : Int) (s.2.2.2.2.2.2.2.1) (s.2.2.2.2.2.2.2.2) tl at_ sn him ik cu 0 st rm)] (fun rv h => rv = some (.inl 1) ∧ ∃ (sh2 so2 : List Int) (st2 : Int), sh2.length = 7 ∧ so2.length = 7 ∧ bOKs (sayS tp x s) ∧ h = [A0, A1, A2, A3, A4, A5, (modSeg re ((sayS tp x s).1) ((sayS tp x s).2.1) ((sayS tp x s).2.2.1) ((sayS tp x s).2.2.2.1) ((sayS tp x s).2.2.2.2.1) ((sayS tp x s).2.2.2.2.2.1) tp le la td kt sh2 so2 had gr fi se to ((sayS tp x s).2.2.2.2.2.2.1 : Int) ((sayS tp x s).2.2.2.2.2.2.2.1) ((sayS tp x s).2.2.2.2.2.2.2.2) tl at_ sn him ik cu 0 st2 rm)]) := by
  obtain ⟨k, f, c, n, kp, l, p, t, d⟩ := s
  obtain ⟨hp6, hd9, hbk⟩ := hs
  simp only at hp6 hd9 hbk
  rcases fmI_code hwf.1 with hL | hL | hL | hL | hL | hL
  · have hfm : fmI (tp.getD x 0) = 0 := by rw [hL]; rfl
    rw [sayB_0 hfm] at hb
    exact c_come_0t hbk hsh hso hd9 hp6 htd hle he hwf (hlL.trans hL) hL htd2 (of_decide_eq_true hb)
  · have hfm : fmI (tp.getD x 0) = 1 := by rw [hL]; rfl
    rw [sayB_1 hfm] at hb
    exact c_come_1t hbk hsh hso hd9 hp6 htd hle he hwf (hlL.trans hL) hL htd2 (of_decide_eq_true hb)
  · have hfm : fmI (tp.getD x 0) = 2 := by rw [hL]; rfl
    rw [sayB_2 hfm] at hb
    exact c_come_2t hbk hsh hso hd9 hp6 htd hle he hwf (hlL.trans hL) hL htd2 (of_decide_eq_true hb)
  · have hfm : fmI (tp.getD x 0) = 3 := by rw [hL]; rfl
    rw [sayB_3 hfm] at hb
    exact c_come_3t hbk hsh hso hd9 hp6 htd hle he hwf (hlL.trans hL) hL htd2 (of_decide_eq_true hb)
  · have hfm : fmI (tp.getD x 0) = 4 := by rw [hL]; rfl
    exact c_come_4t hbk hsh hso hd9 hp6 htd hle he hwf (hlL.trans hL) hL htd2 trivial
  · have hfm : fmI (tp.getD x 0) = 5 := by rw [hL]; rfl
    rw [sayB_5 hfm] at hb
    exact c_come_5t hbk hsh hso hd9 hp6 htd hle he hwf (hlL.trans hL) hL htd2 (of_decide_eq_true hb)

theorem c_comes_f {s : moT} (hs : bOKs s) (hsh : sh.length = 7) (hso : so.length = 7) (htd : td.length = 192) (hle : le.length = 48) {e x : Nat} (he : e < 48) (hwf : wfS tp m x) (hlL : le.getD e 0 = tp.getD x 0) (htd2 : tdOK tp td e x) (hb : ¬ sayB tp x s = true) : aEv mX8_comes 8 0 0 N [.inr 192, .inl (e : Int)] [A0, A1, A2, A3, A4, A5, (modSeg re (s.1) (s.2.1) (s.2.2.1) (s.2.2.2.1) (s.2.2.2.2.1) (s.2.2.2.2.2.1) tp le la td kt sh so had gr fi se to (s.2.2.2.2.2.2.1 : Int) (s.2.2.2.2.2.2.2.1) (s.2.2.2.2.2.2.2.2) tl at_ sn him ik cu 0 st rm)] (fun rv h => rv = some (.inl 0) ∧ ∃ (sh2 so2 : List Int) (st2 : Int), sh2.length = 7 ∧ so2.length = 7 ∧ bOKs s ∧ h = [A0, A1, A2, A3, A4, A5, (modSeg re (s.1) (s.2.1) (s.2.2.1) (s.2.2.2.1) (s.2.2.2.2.1) (s.2.2.2.2.2.1) tp le la td kt sh2 so2 had gr fi se to (s.2.2.2.2.2.2.1 : Int) (s.2.2.2.2.2.2.2.1) (s.2.2.2.2.2.2.2.2) tl at_ sn him ik cu 0 st2 rm)]) := by
  obtain ⟨k, f, c, n, kp, l, p, t, d⟩ := s
  obtain ⟨hp6, hd9, hbk⟩ := hs
  simp only at hp6 hd9 hbk
  rcases fmI_code hwf.1 with hL | hL | hL | hL | hL | hL
  · have hfm : fmI (tp.getD x 0) = 0 := by rw [hL]; rfl
    rw [sayB_0 hfm] at hb
    exact c_come_0f hbk hsh hso hd9 hp6 htd hle he hwf (hlL.trans hL) hL htd2 (fun z => hb (decide_eq_true z))
  · have hfm : fmI (tp.getD x 0) = 1 := by rw [hL]; rfl
    rw [sayB_1 hfm] at hb
    exact c_come_1f hbk hsh hso hd9 hp6 htd hle he hwf (hlL.trans hL) hL htd2 (fun z => hb (decide_eq_true z))
  · have hfm : fmI (tp.getD x 0) = 2 := by rw [hL]; rfl
    rw [sayB_2 hfm] at hb
    exact c_come_2f hbk hsh hso hd9 hp6 htd hle he hwf (hlL.trans hL) hL htd2 (fun z => hb (decide_eq_true z))
  · have hfm : fmI (tp.getD x 0) = 3 := by rw [hL]; rfl
    rw [sayB_3 hfm] at hb
    exact c_come_3f hbk hsh hso hd9 hp6 htd hle he hwf (hlL.trans hL) hL htd2 (fun z => hb (decide_eq_true z))
  · have hfm : fmI (tp.getD x 0) = 4 := by rw [hL]; rfl
    exact absurd (sayB_4 hfm) hb
  · have hfm : fmI (tp.getD x 0) = 5 := by rw [hL]; rfl
    rw [sayB_5 hfm] at hb
    exact c_come_5f hbk hsh hso hd9 hp6 htd hle he hwf (hlL.trans hL) hL htd2 (fun z => hb (decide_eq_true z))

end AMJ
