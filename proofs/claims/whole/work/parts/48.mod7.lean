/-! The reference's answers that search, second part; laid by gen_mod7.py -/
/-! the least cut, from both sides -/
theorem set_of (P : Nat → Bool) : ∀ p : Nat, ∃ x, x < 2 ^ p ∧ ∀ q, q < p → x.testBit q = P q := by
  intro p
  induction p with
  | zero => exact ⟨0, by decide, fun q h => by omega⟩
  | succ p ih =>
    obtain ⟨x, h1, h2⟩ := ih
    cases e : P p with
    | false =>
      refine ⟨x, by rw [Nat.pow_succ]; omega, fun q hq => ?_⟩
      by_cases z : q = p
      · rw [z, e]; exact Nat.testBit_lt_two_pow h1
      · exact h2 q (by omega)
    | true =>
      refine ⟨2 ^ p + x, by rw [Nat.pow_succ]; omega, fun q hq => ?_⟩
      by_cases z : q = p
      · rw [z, e, Nat.testBit_two_pow_add_eq, Nat.testBit_lt_two_pow h1]; rfl
      · rw [Nat.testBit_two_pow_add_gt (by omega)]; exact h2 q (by omega)
theorem sumN_mono {m : Nat} {F G : Nat → Int} (h : ∀ q, q < m → F q ≤ G q) : sumN m F ≤ sumN m G := by
  induction m with
  | zero => exact Int.le_refl 0
  | succ m ih =>
    have h1 := ih (fun q hq => h q (by omega))
    have h2 := h m (by omega)
    simp only [sumN]; omega
theorem mnX_lt {G : Nat → Int} : ∀ m x, x < m → mnX G m ≤ G x := by
  intro m
  induction m with
  | zero => intro x h; omega
  | succ m ih =>
    intro x hx
    simp only [mnX]
    by_cases e : x = m
    · subst e; omega
    · have := ih x (by omega); omega
theorem mnX_has {G : Nat → Int} (h : ∀ x, G x ≤ 2147483647) : ∀ m, 0 < m → ∃ x, x < m ∧ mnX G m = G x := by
  intro m
  induction m with
  | zero => intro h; omega
  | succ m ih =>
    intro _
    rcases Nat.eq_zero_or_pos m with z | z
    · subst z
      exact ⟨0, by omega, by have := h 0; simp only [mnX]; omega⟩
    · obtain ⟨x, h1, h2⟩ := ih z
      simp only [mnX]
      by_cases e : mnX G m ≤ G m
      · exact ⟨x, by omega, by omega⟩
      · exact ⟨m, by omega, by omega⟩
theorem mnX_eq {F G : Nat → Int} {m : Nat} (hm : 0 < m) (hF : ∀ x, F x ≤ 2147483647) (hG : ∀ x, G x ≤ 2147483647) (h1 : ∀ x, x < m → ∃ y, y < m ∧ G y ≤ F x) (h2 : ∀ y, y < m → ∃ x, x < m ∧ F x ≤ G y) : mnX G m = mnX F m := by
  obtain ⟨x, x1, x2⟩ := mnX_has hF m hm
  obtain ⟨y, y1, y2⟩ := mnX_has hG m hm
  obtain ⟨a, a1, a2⟩ := h1 x x1
  obtain ⟨b, b1, b2⟩ := h2 y y1
  have := mnX_lt (G := G) m a a1
  have := mnX_lt (G := F) m b b1
  omega
section DUA
variable {p : Nat} {S L : Nat → Int} {c : List Int} {g : Int}
theorem dual1 (hS : ∀ q, q < p → 0 ≤ S q ∧ 0 ≤ L q) (x : Nat) : ∃ y, y < 2 ^ p ∧ sumN p (cuM p S L c g y) ≤ cuF p S L c g x := by
  obtain ⟨y, y1, y2⟩ := set_of (fun q => !(decide (0 < L q) && nrB p S c g x q)) p
  refine ⟨y, y1, sumN_mono fun q hq => ?_⟩
  have hq0 := hS q hq
  unfold cuM cuT
  have eL : (if y.testBit q = true then 0 else L q) = if 0 < L q ∧ nrB p S c g x q = true then L q else 0 := by
    rw [y2 q hq]
    by_cases z : 0 < L q ∧ nrB p S c g x q = true
    · rw [if_pos z, decide_eq_true z.1, z.2]; rfl
    · rw [if_neg z]
      rw [if_pos]
      cases e : nrB p S c g x q with
      | false => simp
      | true =>
        have : ¬ 0 < L q := fun w => z ⟨w, e⟩
        simp [this]
  have eS : (if nrM p L c g y q = true then S q else 0) ≤ if x.testBit q = true then S q else 0 := by
    by_cases z : nrM p L c g y q = true
    · rw [if_pos z]
      by_cases w : x.testBit q = true
      · rw [if_pos w]; exact Int.le_refl _
      · rw [if_neg w]
        rcases Int.lt_or_le 0 (S q) with s | s
        · exfalso
          obtain ⟨e, e1, e2, e3, e4⟩ := nrM_iff.mp z
          rw [y2 e e1, decide_eq_true e3, nrB_iff.mpr ⟨q, hq, by simpa using w, s, e4⟩] at e2
          cases e2
        · exact s
    · rw [if_neg z]; split <;> omega
  rw [eL]; omega
theorem dual2 (hS : ∀ q, q < p → 0 ≤ S q ∧ 0 ≤ L q) (y : Nat) : ∃ x, x < 2 ^ p ∧ cuF p S L c g x ≤ sumN p (cuM p S L c g y) := by
  obtain ⟨x, x1, x2⟩ := set_of (fun q => nrM p L c g y q) p
  refine ⟨x, x1, sumN_mono fun q hq => ?_⟩
  have hq0 := hS q hq
  unfold cuM cuT
  rw [x2 q hq]
  have eL : (if 0 < L q ∧ nrB p S c g x q = true then L q else 0) ≤ if y.testBit q = true then 0 else L q := by
    by_cases z : 0 < L q ∧ nrB p S c g x q = true
    · rw [if_pos z]
      by_cases w : y.testBit q = true
      · exfalso
        obtain ⟨e, e1, e2, e3, e4⟩ := nrB_iff.mp z.2
        rw [x2 e e1, nrM_iff.mpr ⟨q, hq, w, z.1, e4⟩] at e2
        cases e2
      · rw [if_neg w]; exact Int.le_refl _
    · rw [if_neg z]; split <;> omega
  omega
end DUA
theorem dual {p : Nat} {S L : Nat → Int} {c : List Int} {g : Int} (hp : p ≤ 7) (h : ∀ q, q < p → 0 ≤ S q ∧ S q ≤ 10000 ∧ 0 ≤ L q ∧ L q ≤ 10000) : mnX (fun x => sumN p (cuM p S L c g x)) (2 ^ p) = mnX (cuF p S L c g) (2 ^ p) :=
  mnX_eq (Nat.two_pow_pos p) (fun x => by have := (cuF_le (p := p) (S := S) (L := L) (c := c) (g := g) (x := x) hp h).2; unfold cuF; omega) (fun x => by have := (cuMs_le (p := p) (S := S) (L := L) (c := c) (d := g) (x := x) hp h).2; omega) (fun x _ => dual1 (fun q hq => ⟨(h q hq).1, (h q hq).2.2.1⟩) x) (fun y _ => dual2 (fun q hq => ⟨(h q hq).1, (h q hq).2.2.1⟩) y)
theorem cuM_0 {p : Nat} {S L : Nat → Int} {c : List Int} {g : Int} : sumN p (cuM p S L c g 0) = sumN p L := sumN_congr fun q _ => by
  unfold cuM
  rw [Nat.zero_testBit, if_neg (by decide), if_neg (fun z => by obtain ⟨e, -, e2, -⟩ := nrM_iff.mp z; rw [Nat.zero_testBit] at e2; cases e2)]
  omega
theorem npI_t2 {c : List Int} {a x : Nat} {z : Int × Int} {b : Nat} (hb : b = a + 1 + x) (h : stp (c.getD a 0) (c.getD b 0) < (npI c a z x).2) : npI c a z (x + 1) = (10 * (a : Int) + (b : Int), stp (c.getD a 0) (c.getD b 0)) := by subst hb; exact npI_t h
theorem npI_f2 {c : List Int} {a x : Nat} {z : Int × Int} {b : Nat} (hb : b = a + 1 + x) (h : (npI c a z x).2 ≤ stp (c.getD a 0) (c.getD b 0)) : npI c a z (x + 1) = npI c a z x := by subst hb; exact npI_f h
theorem msI_2 {c : List Int} {a x : Nat} {z : Int} {b : Nat} (hb : b = a + 1 + x) : msI c a z (x + 1) = max (msI c a z x) (stp (c.getD a 0) (c.getD b 0)) := by subst hb; rfl
theorem npOK_10 {c : List Int} {p : Nat} {z : Int × Int} (hc : rng c 35) (h : npOK c p z) : z = (-9, 11) ∨ (0 ≤ z.1 ∧ z.1 ≤ 100 ∨ 7 < p) ∧ 0 ≤ z.1 ∧ 0 ≤ z.2 ∧ z.2 ≤ 10 := by
  rcases h with h | ⟨a, b, h1, h2, rfl⟩
  · exact Or.inl h
  · right
    have := stp_le (hc a) (hc b)
    refine ⟨?_, ?_, ?_, ?_⟩ <;> simp only <;> omega
theorem lose7of8 (a0 a1 a2 a3 a4 a5 a6 a7 : Option aV) : ∀ (i : Nat) (v : aV), [a0, a1, a2, a3, a4, a5, a6, none][i]? = some (some v) → [a0, a1, a2, a3, a4, a5, a6, a7][i]? = some (some v) := by
  intro i v h
  match i, h with
  | 0, h => exact h
  | 1, h => exact h
  | 2, h => exact h
  | 3, h => exact h
  | 4, h => exact h
  | 5, h => exact h
  | 6, h => exact h
  | 7, h => simp at h
  | i + 8, h => simp at h
theorem lose67of8 (a0 a1 a2 a3 a4 a5 a6 a7 : Option aV) : ∀ (i : Nat) (v : aV), [a0, a1, a2, a3, a4, a5, none, none][i]? = some (some v) → [a0, a1, a2, a3, a4, a5, a6, a7][i]? = some (some v) := by
  intro i v h
  match i, h with
  | 0, h => exact h
  | 1, h => exact h
  | 2, h => exact h
  | 3, h => exact h
  | 4, h => exact h
  | 5, h => exact h
  | 6, h => simp at h
  | 7, h => simp at h
  | i + 8, h => simp at h
theorem lose9of10 (a0 a1 a2 a3 a4 a5 a6 a7 a8 a9 : Option aV) : ∀ (i : Nat) (v : aV), [a0, a1, a2, a3, a4, a5, a6, a7, a8, none][i]? = some (some v) → [a0, a1, a2, a3, a4, a5, a6, a7, a8, a9][i]? = some (some v) := by
  intro i v h
  match i, h with
  | 0, h => exact h
  | 1, h => exact h
  | 2, h => exact h
  | 3, h => exact h
  | 4, h => exact h
  | 5, h => exact h
  | 6, h => exact h
  | 7, h => exact h
  | 8, h => exact h
  | 9, h => simp at h
  | i + 10, h => simp at h
set_option maxRecDepth 100000 in
set_option maxHeartbeats 4000000 in
theorem mk_help {imt : Int} {tc : Nat} {k f c n kp l : List Int} {p : Nat} {t d : Int} {to re : List Int} {tl : Nat} {tp : List Int} {I : moT} {A0 A1 A2 A3 A4 A5 : List (Option aE)} {h : aH} {N : Nat} (hS : mSt imt tc k f c n kp l p t d to re tl tp I A0 A1 A2 A3 A4 A5 h) {x y : Int} (hx : 0 ≤ x ∧ x ≤ 10) (hy : 0 ≤ y ∧ y ≤ 1) : aEv mX8_help 7 0 0 N [.inr 192, .inl x, .inl y] h (fun rv h2 => rv = some (.inl (if y = 0 then mnX (cuF p (sprV p k f c n l t) (lckV p k f c n l t) c x) (2 ^ p) else if mnX (cuF p (sprV p k f c n l t) (lckV p k f c n l t) c x) (2 ^ p) = sumN p (lckV p k f c n l t) then 1 else 0)) ∧ mSt imt tc k f c n kp l p t d to re tl tp I A0 A1 A2 A3 A4 A5 h2) := by
  obtain ⟨hp6, hd9, hax, hb, le, la, td, kt, sh, so, had, gr, fi, se, at_, sn, ik, cu, st, hml, him, rfl⟩ := hS
  obtain ⟨htp, rtp, htl9, hto, rto, htc, hre⟩ := id hax
  obtain ⟨hle, hla, htd, hkt, hsh, hso, hha, hgr, hfi, hse⟩ := id hml
  obtain ⟨hp7, hk, hf, hc, hn, hkp, hl, rk, rf, rc, rn, rkp, rl, ht0, ht1, hd0, hd1⟩ := id hb
  refine aEv_of okX8_help caX8_help (Nat.le_of_ble_eq_true rfl) ?_
  refine aGo okX8_help 3 (f' := (4, [some (.inr 192), some (.inl x), some (.inl y), none, none, none, none, none], [.inl 10, .inl 0, .inl x], _)) rfl ?_
  refine b_vS (as := [.inl x, .inl 0, .inl 10]) (rest := []) (.inl 0) okX8_help rfl lkX8_79 caX8_bound (Nat.le_of_ble_eq_true rfl) rfl (Nat.le_of_ble_eq_true rfl) rfl (c_bound_m ⟨by omega, by omega⟩ ⟨by omega, by omega⟩ ⟨by omega, by omega⟩ ⟨by omega, by omega⟩) ?_
  refine aGo okX8_help 2 (f' := (9, [some (.inr 192), some (.inl x), some (.inl y), some (.inl 0), none, none, none, none], [.inl 0], _)) rfl ?_
  refine b0_ne (tgt := 24) okX8_help rfl rfl ⟨by omega, by omega⟩ (fun h9 => absurd h9 (by omega)) (fun h9 => ?_)
  refine aGo okX8_help 3 (f' := (15, [some (.inr 192), some (.inl x), some (.inl y), some (.inl 0), none, none, none, none], [.inl 1, .inl 0, .inl y], _)) rfl ?_
  refine b_vS (as := [.inl y, .inl 0, .inl 1]) (rest := []) (.inl 1) okX8_help rfl lkX8_97 caX8_isIn (Nat.le_of_ble_eq_true rfl) rfl (Nat.le_of_ble_eq_true rfl) rfl (c_isIn_t ⟨by omega, by omega⟩ ⟨by omega, by omega⟩ ⟨by omega, by omega⟩ ⟨by omega, by omega⟩) ?_
  refine b0_ne (tgt := 24) okX8_help rfl rfl ⟨by omega, by omega⟩ (fun h18 => ?_) (fun h18 => absurd h18 (by omega))
  refine aGo okX8_help 1 (f' := (25, [some (.inr 192), some (.inl x), some (.inl y), some (.inl 0), none, none, none, none], [.inl 0], _)) rfl ?_
  refine b0_eq (tgt := 34) okX8_help rfl rfl ⟨by omega, by omega⟩ (fun h25 => ?_) (fun h25 => absurd h25 (by omega))
  refine aGo okX8_help 1 (f' := (35, [some (.inr 192), some (.inl x), some (.inl y), some (.inl 0), none, none, none, none], [.inr 192], _)) rfl ?_
  refine b_vE (as := []) (rest := []) (k := 192) okX8_help rfl lkX8_202 caX8_findShares (Nat.le_of_ble_eq_true rfl) rfl (Nat.le_of_ble_eq_true rfl) rfl rfl rfl (c_findShares (gH_of hb hsh)) ?_
  rintro _ _ ⟨rfl, sh2, lsh2, esh2, rfl⟩
  refine aGo okX8_help 3 (f' := (41, [some (.inr 192), some (.inl x), some (.inl y), some (.inl 0), none, none, none, none], [.inl x, .inl 0, .inr 192], _)) rfl ?_
  refine b_vE (as := [.inl 0, .inl x]) (rest := []) (k := 192) okX8_help rfl lkX8_247 caX8_cutBy (Nat.le_of_ble_eq_true rfl) rfl (Nat.le_of_ble_eq_true rfl) rfl rfl rfl (c_mCutBy hb lsh2 esh2 (x := 0) (y := x) (by omega) hp6 hx) ?_
  rintro _ _ ⟨rfl, rfl⟩
  refine aGo okX8_help 5 (f' := (53, [some (.inr 192), some (.inl x), some (.inl y), some (.inl 0), some (.inl (sumN p (cuM p (sprV p k f c n l t) (lckV p k f c n l t) c x 0))), some (.inl (sumN p (cuM p (sprV p k f c n l t) (lckV p k f c n l t) c x 0))), some (.inl 1), none], [], _)) rfl ?_
  obtain ⟨P2, hP2⟩ : ∃ P2, 2 ^ p = P2 := ⟨_, rfl⟩
  have hP64 : P2 ≤ 64 := by rw [← hP2]; exact Nat.pow_le_pow_right (n := 2) (by decide) hp6
  have hP1 : 1 ≤ P2 := by rw [← hP2]; exact Nat.two_pow_pos p
  have hb1 := fun q (hq : q < p) => sprV_le (k := k) hp7 rf rc rn rl ⟨ht0, ht1⟩ hq
  have hGX : ∀ v, 0 ≤ sumN p (cuM p (sprV p k f c n l t) (lckV p k f c n l t) c x v) ∧ sumN p (cuM p (sprV p k f c n l t) (lckV p k f c n l t) c x v) ≤ 140000 := fun v => cuMs_le hp7 hb1
  have lp : ∀ (j v : Nat), v + j = P2 → (1 ≤ v) → AW mX8_help 7 0 0 N none (fun rv h2 => rv = some (.inl (if y = 0 then mnX (cuF p (sprV p k f c n l t) (lckV p k f c n l t) c x) (2 ^ p) else if mnX (cuF p (sprV p k f c n l t) (lckV p k f c n l t) c x) (2 ^ p) = sumN p (lckV p k f c n l t) then 1 else 0)) ∧ mSt imt tc k f c n kp l p t d to re tl tp I A0 A1 A2 A3 A4 A5 h2) (53, [some (.inr 192), some (.inl x), some (.inl y), some (.inl 0), some (.inl (mnX (fun v => sumN p (cuM p (sprV p k f c n l t) (lckV p k f c n l t) c x v)) v)), some (.inl (sumN p (cuM p (sprV p k f c n l t) (lckV p k f c n l t) c x 0))), some (.inl (v : Int)), none], [], [A0, A1, A2, A3, A4, A5, (modSeg re k f c n kp l tp le la td kt sh2 so had gr fi se to (p : Int) t d (tl : Int) at_ sn imt ik cu 0 st (tc : Int))]) := by
    intro j
    induction j with
    | zero =>
      intro v  hij x1
      obtain rfl : P2 = v := by omega
      have e1 := mnX_le (G := (fun v => sumN p (cuM p (sprV p k f c n l t) (lckV p k f c n l t) c x v))) (m := 64) (fun v _ => hGX v) P2 (by omega)
      have e2 := hGX 0
      refine aGo okX8_help 5 (f' := (61, [some (.inr 192), some (.inl x), some (.inl y), some (.inl 0), some (.inl (mnX (fun v => sumN p (cuM p (sprV p k f c n l t) (lckV p k f c n l t) c x v)) P2)), some (.inl (sumN p (cuM p (sprV p k f c n l t) (lckV p k f c n l t) c x 0))), some (.inl (P2 : Int)), none], [.inl (aShl 1 (p : Int)), .inl (P2 : Int)], _)) rfl ?_
      refine b_cast (f' := (61, [some (.inr 192), some (.inl x), some (.inl y), some (.inl 0), some (.inl (mnX (fun v => sumN p (cuM p (sprV p k f c n l t) (lckV p k f c n l t) c x v)) P2)), some (.inl (sumN p (cuM p (sprV p k f c n l t) (lckV p k f c n l t) c x 0))), some (.inl (P2 : Int)), none], [.inl (P2 : Int), .inl (P2 : Int)], [A0, A1, A2, A3, A4, A5, (modSeg re k f c n kp l tp le la td kt sh2 so had gr fi se to (p : Int) t d (tl : Int) at_ sn imt ik cu 0 st (tc : Int))])) (congrArg (fun q : Int => ((61, [some (.inr 192), some (.inl x), some (.inl y), some (.inl 0), some (.inl (mnX (fun v => sumN p (cuM p (sprV p k f c n l t) (lckV p k f c n l t) c x v)) P2)), some (.inl (sumN p (cuM p (sprV p k f c n l t) (lckV p k f c n l t) c x 0))), some (.inl (P2 : Int)), none], .inl q :: [.inl (P2 : Int)], [A0, A1, A2, A3, A4, A5, (modSeg re k f c n kp l tp le la td kt sh2 so had gr fi se to (p : Int) t d (tl : Int) at_ sn imt ik cu 0 st (tc : Int))]) : aF)) ((by rw [shl_pow p (by omega), hP2]))) ?_
      refine b_ge (tgt := 95) okX8_help rfl rfl ⟨by omega, by omega⟩ ⟨by omega, by omega⟩ (fun h61 => ?_) (fun h61 => absurd h61 (by omega))
      refine aGo okX8_help 1 (f' := (96, [some (.inr 192), some (.inl x), some (.inl y), some (.inl 0), some (.inl (mnX (fun v => sumN p (cuM p (sprV p k f c n l t) (lckV p k f c n l t) c x v)) P2)), some (.inl (sumN p (cuM p (sprV p k f c n l t) (lckV p k f c n l t) c x 0))), some (.inl (P2 : Int)), none], [.inl y], _)) rfl ?_
      refine b0_ne (tgt := 104) okX8_help rfl rfl ⟨by omega, by omega⟩ (fun h96 => ?_) (fun h96 => ?_)
      · refine aGo okX8_help 2 (f' := (108, [some (.inr 192), some (.inl x), some (.inl y), some (.inl 0), some (.inl (mnX (fun v => sumN p (cuM p (sprV p k f c n l t) (lckV p k f c n l t) c x v)) P2)), some (.inl (sumN p (cuM p (sprV p k f c n l t) (lckV p k f c n l t) c x 0))), some (.inl (P2 : Int)), none], [.inl (sumN p (cuM p (sprV p k f c n l t) (lckV p k f c n l t) c x 0)), .inl (mnX (fun v => sumN p (cuM p (sprV p k f c n l t) (lckV p k f c n l t) c x v)) P2)], _)) rfl ?_
        refine b_ne (tgt := 115) okX8_help rfl rfl ⟨by omega, by omega⟩ ⟨by omega, by omega⟩ (fun h108 => ?_) (fun h108 => ?_)
        · refine aGo okX8_help 1 (f' := (116, [some (.inr 192), some (.inl x), some (.inl y), some (.inl 0), some (.inl (mnX (fun v => sumN p (cuM p (sprV p k f c n l t) (lckV p k f c n l t) c x v)) P2)), some (.inl (sumN p (cuM p (sprV p k f c n l t) (lckV p k f c n l t) c x 0))), some (.inl (P2 : Int)), none], [.inl 0], _)) rfl ?_
          exact b_ret (v := (some (.inl 0))) ⟨rfl, Or.inl rfl⟩ ⟨congrArg (fun q : Int => (some (.inl q) : Option aV)) (by rw [if_neg (by omega), ← dual hp7 hb1, hP2, if_neg (by rw [← cuM_0 (c := c) (g := x) (S := sprV p k f c n l t)]; exact h108)]), mSt_of hp6 hd9 hax (hb) ⟨hle, hla, htd, hkt, lsh2, hso, hha, hgr, hfi, hse⟩ (him)⟩ rfl
        · refine aGo okX8_help 2 (f' := (116, [some (.inr 192), some (.inl x), some (.inl y), some (.inl 0), some (.inl (mnX (fun v => sumN p (cuM p (sprV p k f c n l t) (lckV p k f c n l t) c x v)) P2)), some (.inl (sumN p (cuM p (sprV p k f c n l t) (lckV p k f c n l t) c x 0))), some (.inl (P2 : Int)), none], [.inl 1], _)) rfl ?_
          exact b_ret (v := (some (.inl 1))) ⟨rfl, Or.inl rfl⟩ ⟨congrArg (fun q : Int => (some (.inl q) : Option aV)) (by rw [if_neg (by omega), ← dual hp7 hb1, hP2, if_pos (by rw [← cuM_0 (c := c) (g := x) (S := sprV p k f c n l t)]; exact h108)]), mSt_of hp6 hd9 hax (hb) ⟨hle, hla, htd, hkt, lsh2, hso, hha, hgr, hfi, hse⟩ (him)⟩ rfl
      · refine aGo okX8_help 2 (f' := (116, [some (.inr 192), some (.inl x), some (.inl y), some (.inl 0), some (.inl (mnX (fun v => sumN p (cuM p (sprV p k f c n l t) (lckV p k f c n l t) c x v)) P2)), some (.inl (sumN p (cuM p (sprV p k f c n l t) (lckV p k f c n l t) c x 0))), some (.inl (P2 : Int)), none], [.inl (mnX (fun v => sumN p (cuM p (sprV p k f c n l t) (lckV p k f c n l t) c x v)) P2)], _)) rfl ?_
        exact b_ret (v := (some (.inl (mnX (fun v => sumN p (cuM p (sprV p k f c n l t) (lckV p k f c n l t) c x v)) P2)))) ⟨rfl, Or.inl rfl⟩ ⟨congrArg (fun q : Int => (some (.inl q) : Option aV)) (by rw [if_pos (by omega), ← dual hp7 hb1, hP2]), mSt_of hp6 hd9 hax (hb) ⟨hle, hla, htd, hkt, lsh2, hso, hha, hgr, hfi, hse⟩ (him)⟩ rfl
    | succ j ih =>
      intro v  hij x1
      have e1 := mnX_le (G := (fun v => sumN p (cuM p (sprV p k f c n l t) (lckV p k f c n l t) c x v))) (m := 64) (fun v _ => hGX v) v (by omega)
      have e2 := hGX v
      refine aGo okX8_help 5 (f' := (61, [some (.inr 192), some (.inl x), some (.inl y), some (.inl 0), some (.inl (mnX (fun v => sumN p (cuM p (sprV p k f c n l t) (lckV p k f c n l t) c x v)) v)), some (.inl (sumN p (cuM p (sprV p k f c n l t) (lckV p k f c n l t) c x 0))), some (.inl (v : Int)), none], [.inl (aShl 1 (p : Int)), .inl (v : Int)], _)) rfl ?_
      refine b_cast (f' := (61, [some (.inr 192), some (.inl x), some (.inl y), some (.inl 0), some (.inl (mnX (fun v => sumN p (cuM p (sprV p k f c n l t) (lckV p k f c n l t) c x v)) v)), some (.inl (sumN p (cuM p (sprV p k f c n l t) (lckV p k f c n l t) c x 0))), some (.inl (v : Int)), none], [.inl (P2 : Int), .inl (v : Int)], [A0, A1, A2, A3, A4, A5, (modSeg re k f c n kp l tp le la td kt sh2 so had gr fi se to (p : Int) t d (tl : Int) at_ sn imt ik cu 0 st (tc : Int))])) (congrArg (fun q : Int => ((61, [some (.inr 192), some (.inl x), some (.inl y), some (.inl 0), some (.inl (mnX (fun v => sumN p (cuM p (sprV p k f c n l t) (lckV p k f c n l t) c x v)) v)), some (.inl (sumN p (cuM p (sprV p k f c n l t) (lckV p k f c n l t) c x 0))), some (.inl (v : Int)), none], .inl q :: [.inl (v : Int)], [A0, A1, A2, A3, A4, A5, (modSeg re k f c n kp l tp le la td kt sh2 so had gr fi se to (p : Int) t d (tl : Int) at_ sn imt ik cu 0 st (tc : Int))]) : aF)) ((by rw [shl_pow p (by omega), hP2]))) ?_
      refine b_ge (tgt := 95) okX8_help rfl rfl ⟨by omega, by omega⟩ ⟨by omega, by omega⟩ (fun h61 => absurd h61 (by omega)) (fun h61 => ?_)
      refine aGo okX8_help 3 (f' := (68, [some (.inr 192), some (.inl x), some (.inl y), some (.inl 0), some (.inl (mnX (fun v => sumN p (cuM p (sprV p k f c n l t) (lckV p k f c n l t) c x v)) v)), some (.inl (sumN p (cuM p (sprV p k f c n l t) (lckV p k f c n l t) c x 0))), some (.inl (v : Int)), none], [.inl x, .inl (v : Int), .inr 192], _)) rfl ?_
      refine b_vE (as := [.inl (v : Int), .inl x]) (rest := []) (k := 192) okX8_help rfl lkX8_247 caX8_cutBy (Nat.le_of_ble_eq_true rfl) rfl (Nat.le_of_ble_eq_true rfl) rfl rfl rfl (c_mCutBy hb lsh2 esh2 (x := v) (y := x) (by omega) hp6 hx) ?_
      rintro _ _ ⟨rfl, rfl⟩
      refine aGo okX8_help 3 (f' := (77, [some (.inr 192), some (.inl x), some (.inl y), some (.inl 0), some (.inl (mnX (fun v => sumN p (cuM p (sprV p k f c n l t) (lckV p k f c n l t) c x v)) v)), some (.inl (sumN p (cuM p (sprV p k f c n l t) (lckV p k f c n l t) c x 0))), some (.inl (v : Int)), some (.inl (sumN p (cuM p (sprV p k f c n l t) (lckV p k f c n l t) c x v)))], [.inl (mnX (fun v => sumN p (cuM p (sprV p k f c n l t) (lckV p k f c n l t) c x v)) v), .inl (sumN p (cuM p (sprV p k f c n l t) (lckV p k f c n l t) c x v))], _)) rfl ?_
      refine b_ge (tgt := 85) okX8_help rfl rfl ⟨by omega, by omega⟩ ⟨by omega, by omega⟩ (fun h77 => ?_) (fun h77 => ?_)
      · refine aGo okX8_help 4 (f' := (53, [some (.inr 192), some (.inl x), some (.inl y), some (.inl 0), some (.inl (mnX (fun v => sumN p (cuM p (sprV p k f c n l t) (lckV p k f c n l t) c x v)) v)), some (.inl (sumN p (cuM p (sprV p k f c n l t) (lckV p k f c n l t) c x 0))), some (.inl ((v : Int) + 1)), some (.inl (sumN p (cuM p (sprV p k f c n l t) (lckV p k f c n l t) c x v)))], [], _)) rfl ?_
        refine b_cast (f' := (53, [some (.inr 192), some (.inl x), some (.inl y), some (.inl 0), some (.inl (mnX (fun v => sumN p (cuM p (sprV p k f c n l t) (lckV p k f c n l t) c x v)) (v + 1))), some (.inl (sumN p (cuM p (sprV p k f c n l t) (lckV p k f c n l t) c x 0))), some (.inl ((v : Int) + 1)), some (.inl (sumN p (cuM p (sprV p k f c n l t) (lckV p k f c n l t) c x v)))], [], [A0, A1, A2, A3, A4, A5, (modSeg re k f c n kp l tp le la td kt sh2 so had gr fi se to (p : Int) t d (tl : Int) at_ sn imt ik cu 0 st (tc : Int))])) (congrArg (fun q : Int => ((53, [some (.inr 192), some (.inl x), some (.inl y), some (.inl 0), some (.inl q), some (.inl (sumN p (cuM p (sprV p k f c n l t) (lckV p k f c n l t) c x 0))), some (.inl ((v : Int) + 1)), some (.inl (sumN p (cuM p (sprV p k f c n l t) (lckV p k f c n l t) c x v)))], [], [A0, A1, A2, A3, A4, A5, (modSeg re k f c n kp l tp le la td kt sh2 so had gr fi se to (p : Int) t d (tl : Int) at_ sn imt ik cu 0 st (tc : Int))]) : aF)) ((by simp only [mnX]; omega))) ?_
        refine b_lose (ls' := [some (.inr 192), some (.inl x), some (.inl y), some (.inl 0), some (.inl (mnX (fun v => sumN p (cuM p (sprV p k f c n l t) (lckV p k f c n l t) c x v)) (v + 1))), some (.inl (sumN p (cuM p (sprV p k f c n l t) (lckV p k f c n l t) c x 0))), some (.inl ((v : Int) + 1)), none]) (lose7of8 _ _ _ _ _ _ _ _) ?_
        exact ih (v + 1) (by omega) (by omega)
      · refine aGo okX8_help 5 (f' := (53, [some (.inr 192), some (.inl x), some (.inl y), some (.inl 0), some (.inl (sumN p (cuM p (sprV p k f c n l t) (lckV p k f c n l t) c x v))), some (.inl (sumN p (cuM p (sprV p k f c n l t) (lckV p k f c n l t) c x 0))), some (.inl ((v : Int) + 1)), some (.inl (sumN p (cuM p (sprV p k f c n l t) (lckV p k f c n l t) c x v)))], [], _)) rfl ?_
        refine b_cast (f' := (53, [some (.inr 192), some (.inl x), some (.inl y), some (.inl 0), some (.inl (mnX (fun v => sumN p (cuM p (sprV p k f c n l t) (lckV p k f c n l t) c x v)) (v + 1))), some (.inl (sumN p (cuM p (sprV p k f c n l t) (lckV p k f c n l t) c x 0))), some (.inl ((v : Int) + 1)), some (.inl (sumN p (cuM p (sprV p k f c n l t) (lckV p k f c n l t) c x v)))], [], [A0, A1, A2, A3, A4, A5, (modSeg re k f c n kp l tp le la td kt sh2 so had gr fi se to (p : Int) t d (tl : Int) at_ sn imt ik cu 0 st (tc : Int))])) (congrArg (fun q : Int => ((53, [some (.inr 192), some (.inl x), some (.inl y), some (.inl 0), some (.inl q), some (.inl (sumN p (cuM p (sprV p k f c n l t) (lckV p k f c n l t) c x 0))), some (.inl ((v : Int) + 1)), some (.inl (sumN p (cuM p (sprV p k f c n l t) (lckV p k f c n l t) c x v)))], [], [A0, A1, A2, A3, A4, A5, (modSeg re k f c n kp l tp le la td kt sh2 so had gr fi se to (p : Int) t d (tl : Int) at_ sn imt ik cu 0 st (tc : Int))]) : aF)) ((by simp only [mnX]; omega))) ?_
        refine b_lose (ls' := [some (.inr 192), some (.inl x), some (.inl y), some (.inl 0), some (.inl (mnX (fun v => sumN p (cuM p (sprV p k f c n l t) (lckV p k f c n l t) c x v)) (v + 1))), some (.inl (sumN p (cuM p (sprV p k f c n l t) (lckV p k f c n l t) c x 0))), some (.inl ((v : Int) + 1)), none]) (lose7of8 _ _ _ _ _ _ _ _) ?_
        exact ih (v + 1) (by omega) (by omega)
  refine b_cast (f' := (53, [some (.inr 192), some (.inl x), some (.inl y), some (.inl 0), some (.inl (mnX (fun v => sumN p (cuM p (sprV p k f c n l t) (lckV p k f c n l t) c x v)) 1)), some (.inl (sumN p (cuM p (sprV p k f c n l t) (lckV p k f c n l t) c x 0))), some (.inl 1), none], [], [A0, A1, A2, A3, A4, A5, (modSeg re k f c n kp l tp le la td kt sh2 so had gr fi se to (p : Int) t d (tl : Int) at_ sn imt ik cu 0 st (tc : Int))])) (congrArg (fun q : Int => ((53, [some (.inr 192), some (.inl x), some (.inl y), some (.inl 0), some (.inl q), some (.inl (sumN p (cuM p (sprV p k f c n l t) (lckV p k f c n l t) c x 0))), some (.inl 1), none], [], [A0, A1, A2, A3, A4, A5, (modSeg re k f c n kp l tp le la td kt sh2 so had gr fi se to (p : Int) t d (tl : Int) at_ sn imt ik cu 0 st (tc : Int))]) : aF)) ((by have := hGX 0; simp only [mnX]; omega))) ?_
  exact lp (P2 - 1) 1 (by omega) (by omega)
section AMG
variable {A0 A1 A2 A3 A4 A5 : List (Option aE)} {re k f c n kp l tp le la td kt sh so had gr fi se to : List Int} {p g : Nat} {t d tl at_ sn him ik cu ou st rm : Int} {N : Nat}
theorem gH_chC {p : Nat} {k f c sh : List Int} {t : Int} (h : gH p k f c sh t) {a b e : Nat} : gH p k f (chC c a b e) sh t := by
  obtain ⟨hp7, hk, hf, hc, hs, rk, rf, rc, ht0, ht1⟩ := h
  exact ⟨hp7, hk, hf, by unfold chC; rw [List.length_set, List.length_set]; exact hc, hs, rk, rf, chC_rng rc a b e, ht0, ht1⟩
set_option maxRecDepth 100000 in
set_option maxHeartbeats 4000000 in
theorem c_findWays (hb : bOK p k f c n kp l t d) (hsh : sh.length = 7) (hfi : fi.length = 25) (hse : se.length = 25) {a b : Nat} (ha : a < p) (hb2 : b < p) (hab : a ≠ b) : aEv mX8_findWays 6 0 0 N [.inr 192, .inl (a : Int), .inl (b : Int)] [A0, A1, A2, A3, A4, A5, (modSeg re k f c n kp l tp le la td kt sh so had gr fi se to (p : Int) t d tl at_ sn him ik cu 0 st rm)] ((fun rv h => rv = none ∧ ∃ (sh2 fi2 se2 : List Int), sh2.length = 7 ∧ fi2.length = 25 ∧ se2.length = 25 ∧ (∀ e, e < 25 → fi2.getD e 0 = (chS p k f c t a b a) e) ∧ (∀ e, e < 25 → se2.getD e 0 = (chS p k f c t a b b) e) ∧ h = [A0, A1, A2, A3, A4, A5, (modSeg re k f c n kp l tp le la td kt sh2 so had gr fi2 se2 to (p : Int) t d tl at_ sn him ik cu 0 st rm)])) := by
  obtain ⟨hp7, hk, hf, hc, hn, hkp, hl, rk, rf, rc, rn, rkp, rl, ht0, ht1, hd0, hd1⟩ := id hb
  have rca := rc a
  have rcb := rc b
  refine aEv_of okX8_findWays caX8_findWays (Nat.le_of_ble_eq_true rfl) ?_
  refine aGo okX8_findWays 3 (f' := (5, [some (.inr 192), some (.inl (a : Int)), some (.inl (b : Int)), none, none, none], [.inl (a : Int), .inr 196], _)) rfl ?_
  refine b_ald (k := 196) (j := a) (a := c) okX8_findWays rfl rfl (by omega) (by omega) (by omega) ?_
  refine aGo okX8_findWays 4 (f' := (12, [some (.inr 192), some (.inl (a : Int)), some (.inl (b : Int)), some (.inl (c.getD a 0)), none, none], [.inl (b : Int), .inr 196], _)) rfl ?_
  refine b_ald (k := 196) (j := b) (a := c) okX8_findWays rfl rfl (by omega) (by omega) (by omega) ?_
  refine aGo okX8_findWays 3 (f' := (18, [some (.inr 192), some (.inl (a : Int)), some (.inl (b : Int)), some (.inl (c.getD a 0)), some (.inl (c.getD b 0)), some (.inl 0)], [], _)) rfl ?_
  have lp : ∀ (j v : Nat) (u : Int) (w : Int) (sh1 : List Int) (fi1 : List Int) (se1 : List Int), v + j = 25 → (sh1.length = 7) → (fi1.length = 25) → (se1.length = 25) → (∀ e, e < v → fi1.getD e 0 = (chS p k f c t a b a) e) → (∀ e, e < v → se1.getD e 0 = (chS p k f c t a b b) e) → AW mX8_findWays 6 0 0 N none (fun rv h => rv = none ∧ ∃ (sh2 fi2 se2 : List Int), sh2.length = 7 ∧ fi2.length = 25 ∧ se2.length = 25 ∧ (∀ e, e < 25 → fi2.getD e 0 = (chS p k f c t a b a) e) ∧ (∀ e, e < 25 → se2.getD e 0 = (chS p k f c t a b b) e) ∧ h = [A0, A1, A2, A3, A4, A5, (modSeg re k f c n kp l tp le la td kt sh2 so had gr fi2 se2 to (p : Int) t d tl at_ sn him ik cu 0 st rm)]) (18, [some (.inr 192), some (.inl (a : Int)), some (.inl (b : Int)), some (.inl (c.getD a 0)), some (.inl (c.getD b 0)), some (.inl (v : Int))], [], [A0, A1, A2, A3, A4, A5, (modSeg re k f ((c.set a u).set b w) n kp l tp le la td kt sh1 so had gr fi1 se1 to (p : Int) t d tl at_ sn him ik cu 0 st rm)]) := by
    intro j
    induction j with
    | zero =>
      intro v u w sh1 fi1 se1 hij x1 x2 x3 x4 x5
      obtain rfl : 25 = v := by omega
      refine aGo okX8_findWays 2 (f' := (22, [some (.inr 192), some (.inl (a : Int)), some (.inl (b : Int)), some (.inl (c.getD a 0)), some (.inl (c.getD b 0)), some (.inl (25 : Int))], [.inl 25, .inl (25 : Int)], _)) rfl ?_
      refine b_ge (tgt := 90) okX8_findWays rfl rfl ⟨by omega, by omega⟩ ⟨by omega, by omega⟩ (fun h22 => ?_) (fun h22 => absurd h22 (by omega))
      refine aGo okX8_findWays 4 (f' := (96, [some (.inr 192), some (.inl (a : Int)), some (.inl (b : Int)), some (.inl (c.getD a 0)), some (.inl (c.getD b 0)), some (.inl (25 : Int))], [.inl (c.getD a 0), .inl (a : Int), .inr 196], _)) rfl ?_
      refine b_ast (k := 196) (j := a) (a := ((c.set a u).set b w)) okX8_findWays rfl rfl (by omega) (by simp only [List.length_set]; omega) (by omega) ?_
      refine b_cast (f' := (97, [some (.inr 192), some (.inl (a : Int)), some (.inl (b : Int)), some (.inl (c.getD a 0)), some (.inl (c.getD b 0)), some (.inl (25 : Int))], [], [A0, A1, A2, A3, A4, A5, (modSeg re k f (((c.set a u).set b w).set a (c.getD a 0)) n kp l tp le la td kt sh1 so had gr fi1 se1 to (p : Int) t d tl at_ sn him ik cu 0 st rm)])) rfl ?_
      refine b_cast (f' := (97, [some (.inr 192), some (.inl (a : Int)), some (.inl (b : Int)), some (.inl (c.getD a 0)), some (.inl (c.getD b 0)), some (.inl (25 : Int))], [], [A0, A1, A2, A3, A4, A5, (modSeg re k f (c.set b w) n kp l tp le la td kt sh1 so had gr fi1 se1 to (p : Int) t d tl at_ sn him ik cu 0 st rm)])) (by rw [set3 hab, set_self (by omega)]) ?_
      refine aGo okX8_findWays 4 (f' := (104, [some (.inr 192), some (.inl (a : Int)), some (.inl (b : Int)), some (.inl (c.getD a 0)), some (.inl (c.getD b 0)), some (.inl (25 : Int))], [.inl (c.getD b 0), .inl (b : Int), .inr 196], _)) rfl ?_
      refine b_ast (k := 196) (j := b) (a := (c.set b w)) okX8_findWays rfl rfl (by omega) (by simp only [List.length_set]; omega) (by omega) ?_
      refine b_cast (f' := (105, [some (.inr 192), some (.inl (a : Int)), some (.inl (b : Int)), some (.inl (c.getD a 0)), some (.inl (c.getD b 0)), some (.inl (25 : Int))], [], [A0, A1, A2, A3, A4, A5, (modSeg re k f ((c.set b w).set b (c.getD b 0)) n kp l tp le la td kt sh1 so had gr fi1 se1 to (p : Int) t d tl at_ sn him ik cu 0 st rm)])) rfl ?_
      refine b_cast (f' := (105, [some (.inr 192), some (.inl (a : Int)), some (.inl (b : Int)), some (.inl (c.getD a 0)), some (.inl (c.getD b 0)), some (.inl (25 : Int))], [], [A0, A1, A2, A3, A4, A5, (modSeg re k f c n kp l tp le la td kt sh1 so had gr fi1 se1 to (p : Int) t d tl at_ sn him ik cu 0 st rm)])) (by rw [List.set_set, set_self (by omega)]) ?_
      exact b_ret (v := none) ⟨rfl, rfl⟩ ⟨rfl, sh1, fi1, se1, x1, x2, x3, x4, x5, rfl⟩ rfl
    | succ j ih =>
      intro v u w sh1 fi1 se1 hij x1 x2 x3 x4 x5
      refine aGo okX8_findWays 2 (f' := (22, [some (.inr 192), some (.inl (a : Int)), some (.inl (b : Int)), some (.inl (c.getD a 0)), some (.inl (c.getD b 0)), some (.inl (v : Int))], [.inl 25, .inl (v : Int)], _)) rfl ?_
      refine b_ge (tgt := 90) okX8_findWays rfl rfl ⟨by omega, by omega⟩ ⟨by omega, by omega⟩ (fun h22 => absurd h22 (by omega)) (fun h22 => ?_)
      refine aGo okX8_findWays 6 (f' := (34, [some (.inr 192), some (.inl (a : Int)), some (.inl (b : Int)), some (.inl (c.getD a 0)), some (.inl (c.getD b 0)), some (.inl (v : Int))], [.inl 5, .inl (v : Int), .inl (c.getD a 0), .inl (a : Int), .inr 196], _)) rfl ?_
      refine b_div okX8_findWays rfl ⟨by omega, by omega⟩ ⟨by omega, by omega⟩ ?_
      refine b_vS (as := [.inl (c.getD a 0), .inl ((v : Int) / 5)]) (rest := [.inl (a : Int), .inr 196]) (.inl (mov ((c.getD a 0)) ((v / 5)))) okX8_findWays rfl lkX8_262 caX8_moved (Nat.le_of_ble_eq_true rfl) rfl (Nat.le_of_ble_eq_true rfl) rfl (c_moved (x := (c.getD a 0)) (rca) (w := (v / 5)) (by omega)) ?_
      refine b_ast (k := 196) (j := a) (a := ((c.set a u).set b w)) okX8_findWays rfl rfl (by omega) (by simp only [List.length_set]; omega) (by omega) ?_
      refine b_cast (f' := (39, [some (.inr 192), some (.inl (a : Int)), some (.inl (b : Int)), some (.inl (c.getD a 0)), some (.inl (c.getD b 0)), some (.inl (v : Int))], [], [A0, A1, A2, A3, A4, A5, (modSeg re k f (((c.set a u).set b w).set a (mov ((c.getD a 0)) ((v / 5)))) n kp l tp le la td kt sh1 so had gr fi1 se1 to (p : Int) t d tl at_ sn him ik cu 0 st rm)])) rfl ?_
      refine b_cast (f' := (39, [some (.inr 192), some (.inl (a : Int)), some (.inl (b : Int)), some (.inl (c.getD a 0)), some (.inl (c.getD b 0)), some (.inl (v : Int))], [], [A0, A1, A2, A3, A4, A5, (modSeg re k f (((c.set a (mov (c.getD a 0) (v / 5))).set b w)) n kp l tp le la td kt sh1 so had gr fi1 se1 to (p : Int) t d tl at_ sn him ik cu 0 st rm)])) (by rw [set3 hab]) ?_
      refine aGo okX8_findWays 6 (f' := (49, [some (.inr 192), some (.inl (a : Int)), some (.inl (b : Int)), some (.inl (c.getD a 0)), some (.inl (c.getD b 0)), some (.inl (v : Int))], [.inl 5, .inl (v : Int), .inl (c.getD b 0), .inl (b : Int), .inr 196], _)) rfl ?_
      refine b_rem okX8_findWays rfl ⟨by omega, by omega⟩ ⟨by omega, by omega⟩ ?_
      refine b_vS (as := [.inl (c.getD b 0), .inl ((v : Int) % 5)]) (rest := [.inl (b : Int), .inr 196]) (.inl (mov ((c.getD b 0)) ((v % 5)))) okX8_findWays rfl lkX8_262 caX8_moved (Nat.le_of_ble_eq_true rfl) rfl (Nat.le_of_ble_eq_true rfl) rfl (c_moved (x := (c.getD b 0)) (rcb) (w := (v % 5)) (by omega)) ?_
      refine b_ast (k := 196) (j := b) (a := (((c.set a (mov (c.getD a 0) (v / 5))).set b w))) okX8_findWays rfl rfl (by omega) (by simp only [List.length_set]; omega) (by omega) ?_
      refine b_cast (f' := (54, [some (.inr 192), some (.inl (a : Int)), some (.inl (b : Int)), some (.inl (c.getD a 0)), some (.inl (c.getD b 0)), some (.inl (v : Int))], [], [A0, A1, A2, A3, A4, A5, (modSeg re k f ((((c.set a (mov (c.getD a 0) (v / 5))).set b w)).set b (mov ((c.getD b 0)) ((v % 5)))) n kp l tp le la td kt sh1 so had gr fi1 se1 to (p : Int) t d tl at_ sn him ik cu 0 st rm)])) rfl ?_
      rw [List.set_set]
      refine b_cast (f' := (54, [some (.inr 192), some (.inl (a : Int)), some (.inl (b : Int)), some (.inl (c.getD a 0)), some (.inl (c.getD b 0)), some (.inl (v : Int))], [], [A0, A1, A2, A3, A4, A5, (modSeg re k f (chC c a b v) n kp l tp le la td kt sh1 so had gr fi1 se1 to (p : Int) t d tl at_ sn him ik cu 0 st rm)])) rfl ?_
      refine aGo okX8_findWays 1 (f' := (55, [some (.inr 192), some (.inl (a : Int)), some (.inl (b : Int)), some (.inl (c.getD a 0)), some (.inl (c.getD b 0)), some (.inl (v : Int))], [.inr 192], _)) rfl ?_
      refine b_vE (as := []) (rest := []) (k := 192) okX8_findWays rfl lkX8_202 caX8_findShares (Nat.le_of_ble_eq_true rfl) rfl (Nat.le_of_ble_eq_true rfl) rfl rfl rfl (c_findShares (gH_chC (gH_of hb x1))) ?_
      rintro _ _ ⟨rfl, sh2, lsh2, esh2, rfl⟩
      refine aGo okX8_findWays 6 (f' := (69, [some (.inr 192), some (.inl (a : Int)), some (.inl (b : Int)), some (.inl (c.getD a 0)), some (.inl (c.getD b 0)), some (.inl (v : Int))], [.inl (a : Int), .inr 205, .inl (v : Int), .inr 209], _)) rfl ?_
      refine b_ald (k := 205) (j := a) (a := sh2) okX8_findWays rfl rfl (by omega) (by omega) (by omega) ?_
      refine b_ast (k := 209) (j := v) (a := fi1) okX8_findWays rfl rfl (by omega) (by omega) (by omega) ?_
      refine b_cast (f' := (71, [some (.inr 192), some (.inl (a : Int)), some (.inl (b : Int)), some (.inl (c.getD a 0)), some (.inl (c.getD b 0)), some (.inl (v : Int))], [], [A0, A1, A2, A3, A4, A5, (modSeg re k f (chC c a b v) n kp l tp le la td kt sh2 so had gr (fi1.set v (sh2.getD a 0)) se1 to (p : Int) t d tl at_ sn him ik cu 0 st rm)])) rfl ?_
      refine aGo okX8_findWays 6 (f' := (82, [some (.inr 192), some (.inl (a : Int)), some (.inl (b : Int)), some (.inl (c.getD a 0)), some (.inl (c.getD b 0)), some (.inl (v : Int))], [.inl (b : Int), .inr 205, .inl (v : Int), .inr 210], _)) rfl ?_
      refine b_ald (k := 205) (j := b) (a := sh2) okX8_findWays rfl rfl (by omega) (by omega) (by omega) ?_
      refine b_ast (k := 210) (j := v) (a := se1) okX8_findWays rfl rfl (by omega) (by omega) (by omega) ?_
      refine b_cast (f' := (84, [some (.inr 192), some (.inl (a : Int)), some (.inl (b : Int)), some (.inl (c.getD a 0)), some (.inl (c.getD b 0)), some (.inl (v : Int))], [], [A0, A1, A2, A3, A4, A5, (modSeg re k f (chC c a b v) n kp l tp le la td kt sh2 so had gr (fi1.set v (sh2.getD a 0)) (se1.set v (sh2.getD b 0)) to (p : Int) t d tl at_ sn him ik cu 0 st rm)])) rfl ?_
      refine aGo okX8_findWays 2 (f' := (18, [some (.inr 192), some (.inl (a : Int)), some (.inl (b : Int)), some (.inl (c.getD a 0)), some (.inl (c.getD b 0)), some (.inl ((v : Int) + 1))], [], _)) rfl ?_
      exact ih (v + 1) _ _ _ _ _ (by omega) lsh2 (by rw [List.length_set]; exact x2) (by rw [List.length_set]; exact x3) (set_upto (i := v) (F := (chS p k f c t a b a)) (by omega) (esh2 a ha) x4) (set_upto (i := v) (F := (chS p k f c t a b b)) (by omega) (esh2 b hb2) x5)
  have lp0 := lp 25 0 (c.getD a 0) (c.getD b 0) sh fi se (by omega) hsh hfi hse (fun e he => by omega) (fun e he => by omega)
  rw [set_self (by omega), set_self (by omega)] at lp0
  exact lp0
set_option maxRecDepth 100000 in
set_option maxHeartbeats 4000000 in
theorem c_rests_t {e : Nat} (he : e < 25) (hfi : fi.length = 25) (hse : se.length = 25) (rfi : ∀ q, 0 ≤ fi.getD q 0 ∧ fi.getD q 0 ≤ 1000) (rse : ∀ q, 0 ≤ se.getD q 0 ∧ se.getD q 0 ≤ 1000) (h : stM (fun e => fi.getD e 0) (fun e => se.getD e 0) e = true) : aEv mX8_rests 0 0 0 N [.inr 192, .inl (e : Int)] [A0, A1, A2, A3, A4, A5, (modSeg re k f c n kp l tp le la td kt sh so had gr fi se to (p : Int) t d tl at_ sn him ik cu ou st rm)] ((aQx (some (.inl 1)) [A0, A1, A2, A3, A4, A5, (modSeg re k f c n kp l tp le la td kt sh so had gr fi se to (p : Int) t d tl at_ sn him ik cu ou st rm)])) := by
  have h2 : ∀ w, w < 5 → fi.getD (5 * w + e % 5) 0 ≤ fi.getD e 0 ∧ se.getD (5 * (e / 5) + w) 0 ≤ se.getD e 0 := fun w hw => by have := stM_t h hw; rw [show 5 * w + e % 5 = w * 5 + e % 5 by omega, show 5 * (e / 5) + w = e / 5 * 5 + w by omega]; exact this
  refine aEv_of okX8_rests caX8_rests (Nat.le_of_ble_eq_true rfl) ?_
  have lp : ∀ (j v : Nat), v + j = 5 → AW mX8_rests 0 0 0 N none (aQx (some (.inl 1)) [A0, A1, A2, A3, A4, A5, (modSeg re k f c n kp l tp le la td kt sh so had gr fi se to (p : Int) t d tl at_ sn him ik cu ou st rm)]) (2, [some (.inr 192), some (.inl (e : Int)), some (.inl (v : Int))], [], [A0, A1, A2, A3, A4, A5, (modSeg re k f c n kp l tp le la td kt sh so had gr fi se to (p : Int) t d tl at_ sn him ik cu ou st rm)]) := by
    intro j
    induction j with
    | zero =>
      intro v  hij 
      obtain rfl : 5 = v := by omega
      refine aGo okX8_rests 2 (f' := (4, [some (.inr 192), some (.inl (e : Int)), some (.inl (5 : Int))], [.inl 5, .inl (5 : Int)], _)) rfl ?_
      refine b_ge (tgt := 57) okX8_rests rfl rfl ⟨by omega, by omega⟩ ⟨by omega, by omega⟩ (fun h4 => ?_) (fun h4 => absurd h4 (by omega))
      refine aGo okX8_rests 1 (f' := (58, [some (.inr 192), some (.inl (e : Int)), some (.inl (5 : Int))], [.inl 1], _)) rfl ?_
      exact b_ret (v := (some (.inl 1))) ⟨rfl, Or.inr ⟨rfl, Or.inr rfl⟩⟩ ⟨rfl, rfl⟩ rfl
    | succ j ih =>
      intro v  hij 
      have e1 := rfi (5 * v + e % 5)
      have e2 := rfi e
      have e3 := rse (5 * (e / 5) + v)
      have e4 := rse e
      have e5 := h2 v (by omega)
      refine aGo okX8_rests 2 (f' := (4, [some (.inr 192), some (.inl (e : Int)), some (.inl (v : Int))], [.inl 5, .inl (v : Int)], _)) rfl ?_
      refine b_ge (tgt := 57) okX8_rests rfl rfl ⟨by omega, by omega⟩ ⟨by omega, by omega⟩ (fun h4 => absurd h4 (by omega)) (fun h4 => ?_)
      refine aGo okX8_rests 7 (f' := (16, [some (.inr 192), some (.inl (e : Int)), some (.inl (v : Int))], [.inl 5, .inl (e : Int), .inl (5 * (v : Int)), .inr 209], _)) rfl ?_
      refine b_rem okX8_rests rfl ⟨by omega, by omega⟩ ⟨by omega, by omega⟩ ?_
      refine aGo okX8_rests 1 (f' := (18, [some (.inr 192), some (.inl (e : Int)), some (.inl (v : Int))], [.inl ((5 * (v : Int)) + ((e : Int) % 5)), .inr 209], _)) rfl ?_
      refine b_ald (k := 209) (j := ((5 * v) + (e % 5))) (a := fi) okX8_rests rfl rfl (by omega) (by omega) (by omega) ?_
      refine aGo okX8_rests 3 (f' := (24, [some (.inr 192), some (.inl (e : Int)), some (.inl (v : Int))], [.inl (e : Int), .inr 209, .inl (fi.getD ((5 * v) + (e % 5)) 0)], _)) rfl ?_
      refine b_ald (k := 209) (j := e) (a := fi) okX8_rests rfl rfl (by omega) (by omega) (by omega) ?_
      refine b_gt (tgt := 49) okX8_rests rfl rfl ⟨by omega, by omega⟩ ⟨by omega, by omega⟩ (fun h25 => absurd h25 (by omega)) (fun h25 => ?_)
      refine aGo okX8_rests 5 (f' := (35, [some (.inr 192), some (.inl (e : Int)), some (.inl (v : Int))], [.inl 5, .inl (e : Int), .inl 5, .inr 210], _)) rfl ?_
      refine b_div okX8_rests rfl ⟨by omega, by omega⟩ ⟨by omega, by omega⟩ ?_
      refine aGo okX8_rests 3 (f' := (39, [some (.inr 192), some (.inl (e : Int)), some (.inl (v : Int))], [.inl ((5 * ((e : Int) / 5)) + (v : Int)), .inr 210], _)) rfl ?_
      refine b_ald (k := 210) (j := ((5 * (e / 5)) + v)) (a := se) okX8_rests rfl rfl (by omega) (by omega) (by omega) ?_
      refine aGo okX8_rests 3 (f' := (45, [some (.inr 192), some (.inl (e : Int)), some (.inl (v : Int))], [.inl (e : Int), .inr 210, .inl (se.getD ((5 * (e / 5)) + v) 0)], _)) rfl ?_
      refine b_ald (k := 210) (j := e) (a := se) okX8_rests rfl rfl (by omega) (by omega) (by omega) ?_
      refine b_le (tgt := 51) okX8_rests rfl rfl ⟨by omega, by omega⟩ ⟨by omega, by omega⟩ (fun h46 => ?_) (fun h46 => absurd h46 (by omega))
      refine aGo okX8_rests 2 (f' := (2, [some (.inr 192), some (.inl (e : Int)), some (.inl ((v : Int) + 1))], [], _)) rfl ?_
      exact ih (v + 1) (by omega)
  refine aGo okX8_rests 2 (f' := (2, [some (.inr 192), some (.inl (e : Int)), some (.inl 0)], [], _)) rfl ?_
  exact lp 5 0 (by omega)
set_option maxRecDepth 100000 in
set_option maxHeartbeats 4000000 in
theorem c_rests_f {e : Nat} (he : e < 25) (hfi : fi.length = 25) (hse : se.length = 25) (rfi : ∀ q, 0 ≤ fi.getD q 0 ∧ fi.getD q 0 ≤ 1000) (rse : ∀ q, 0 ≤ se.getD q 0 ∧ se.getD q 0 ≤ 1000) (h : stM (fun e => fi.getD e 0) (fun e => se.getD e 0) e = false) : aEv mX8_rests 0 0 0 N [.inr 192, .inl (e : Int)] [A0, A1, A2, A3, A4, A5, (modSeg re k f c n kp l tp le la td kt sh so had gr fi se to (p : Int) t d tl at_ sn him ik cu ou st rm)] ((aQx (some (.inl 0)) [A0, A1, A2, A3, A4, A5, (modSeg re k f c n kp l tp le la td kt sh so had gr fi se to (p : Int) t d tl at_ sn him ik cu ou st rm)])) := by
  have h2 : ∃ w, 0 ≤ w ∧ w < 5 ∧ ¬ (fi.getD (5 * w + e % 5) 0 ≤ fi.getD e 0 ∧ se.getD (5 * (e / 5) + w) 0 ≤ se.getD e 0) := by obtain ⟨w, hw, h9⟩ := stM_f h; exact ⟨w, Nat.zero_le w, hw, by rw [show 5 * w + e % 5 = w * 5 + e % 5 by omega, show 5 * (e / 5) + w = e / 5 * 5 + w by omega]; exact h9⟩
  refine aEv_of okX8_rests caX8_rests (Nat.le_of_ble_eq_true rfl) ?_
  have lp : ∀ (j v : Nat), v + j = 5 → (∃ w, v ≤ w ∧ w < 5 ∧ ¬ (fi.getD (5 * w + e % 5) 0 ≤ fi.getD e 0 ∧ se.getD (5 * (e / 5) + w) 0 ≤ se.getD e 0)) → AW mX8_rests 0 0 0 N none (aQx (some (.inl 0)) [A0, A1, A2, A3, A4, A5, (modSeg re k f c n kp l tp le la td kt sh so had gr fi se to (p : Int) t d tl at_ sn him ik cu ou st rm)]) (2, [some (.inr 192), some (.inl (e : Int)), some (.inl (v : Int))], [], [A0, A1, A2, A3, A4, A5, (modSeg re k f c n kp l tp le la td kt sh so had gr fi se to (p : Int) t d tl at_ sn him ik cu ou st rm)]) := by
    intro j
    induction j with
    | zero =>
      intro v  hij h1
      obtain ⟨w, g1, g2, g3⟩ := h1
      omega
    | succ j ih =>
      intro v  hij h1
      have e1 := rfi (5 * v + e % 5)
      have e2 := rfi e
      have e3 := rse (5 * (e / 5) + v)
      have e4 := rse e
      refine aGo okX8_rests 2 (f' := (4, [some (.inr 192), some (.inl (e : Int)), some (.inl (v : Int))], [.inl 5, .inl (v : Int)], _)) rfl ?_
      refine b_ge (tgt := 57) okX8_rests rfl rfl ⟨by omega, by omega⟩ ⟨by omega, by omega⟩ (fun h4 => absurd h4 (by omega)) (fun h4 => ?_)
      refine aGo okX8_rests 7 (f' := (16, [some (.inr 192), some (.inl (e : Int)), some (.inl (v : Int))], [.inl 5, .inl (e : Int), .inl (5 * (v : Int)), .inr 209], _)) rfl ?_
      refine b_rem okX8_rests rfl ⟨by omega, by omega⟩ ⟨by omega, by omega⟩ ?_
      refine aGo okX8_rests 1 (f' := (18, [some (.inr 192), some (.inl (e : Int)), some (.inl (v : Int))], [.inl ((5 * (v : Int)) + ((e : Int) % 5)), .inr 209], _)) rfl ?_
      refine b_ald (k := 209) (j := ((5 * v) + (e % 5))) (a := fi) okX8_rests rfl rfl (by omega) (by omega) (by omega) ?_
      refine aGo okX8_rests 3 (f' := (24, [some (.inr 192), some (.inl (e : Int)), some (.inl (v : Int))], [.inl (e : Int), .inr 209, .inl (fi.getD ((5 * v) + (e % 5)) 0)], _)) rfl ?_
      refine b_ald (k := 209) (j := e) (a := fi) okX8_rests rfl rfl (by omega) (by omega) (by omega) ?_
      refine b_gt (tgt := 49) okX8_rests rfl rfl ⟨by omega, by omega⟩ ⟨by omega, by omega⟩ (fun h25 => ?_) (fun h25 => ?_)
      · refine aGo okX8_rests 1 (f' := (50, [some (.inr 192), some (.inl (e : Int)), some (.inl (v : Int))], [.inl 0], _)) rfl ?_
        exact b_ret (v := (some (.inl 0))) ⟨rfl, Or.inr ⟨rfl, Or.inl rfl⟩⟩ ⟨rfl, rfl⟩ rfl
      · refine aGo okX8_rests 5 (f' := (35, [some (.inr 192), some (.inl (e : Int)), some (.inl (v : Int))], [.inl 5, .inl (e : Int), .inl 5, .inr 210], _)) rfl ?_
        refine b_div okX8_rests rfl ⟨by omega, by omega⟩ ⟨by omega, by omega⟩ ?_
        refine aGo okX8_rests 3 (f' := (39, [some (.inr 192), some (.inl (e : Int)), some (.inl (v : Int))], [.inl ((5 * ((e : Int) / 5)) + (v : Int)), .inr 210], _)) rfl ?_
        refine b_ald (k := 210) (j := ((5 * (e / 5)) + v)) (a := se) okX8_rests rfl rfl (by omega) (by omega) (by omega) ?_
        refine aGo okX8_rests 3 (f' := (45, [some (.inr 192), some (.inl (e : Int)), some (.inl (v : Int))], [.inl (e : Int), .inr 210, .inl (se.getD ((5 * (e / 5)) + v) 0)], _)) rfl ?_
        refine b_ald (k := 210) (j := e) (a := se) okX8_rests rfl rfl (by omega) (by omega) (by omega) ?_
        refine b_le (tgt := 51) okX8_rests rfl rfl ⟨by omega, by omega⟩ ⟨by omega, by omega⟩ (fun h46 => ?_) (fun h46 => ?_)
        · refine aGo okX8_rests 2 (f' := (2, [some (.inr 192), some (.inl (e : Int)), some (.inl ((v : Int) + 1))], [], _)) rfl ?_
          exact ih (v + 1) (by omega) (by
            obtain ⟨w, g1, g2, g3⟩ := h1
            refine ⟨w, ?_, g2, g3⟩
            by_cases hw : w = v
            · subst hw; exact absurd ⟨by omega, by omega⟩ g3
            · omega)
        · refine aGo okX8_rests 1 (f' := (50, [some (.inr 192), some (.inl (e : Int)), some (.inl (v : Int))], [.inl 0], _)) rfl ?_
          exact b_ret (v := (some (.inl 0))) ⟨rfl, Or.inr ⟨rfl, Or.inl rfl⟩⟩ ⟨rfl, rfl⟩ rfl
  refine aGo okX8_rests 2 (f' := (2, [some (.inr 192), some (.inl (e : Int)), some (.inl 0)], [], _)) rfl ?_
  exact lp 5 0 (by omega) h2
end AMG
set_option maxRecDepth 100000 in
set_option maxHeartbeats 4000000 in
theorem mk_two {imt : Int} {tc : Nat} {k f c n kp l : List Int} {p : Nat} {t d : Int} {to re : List Int} {tl : Nat} {tp : List Int} {I : moT} {A0 A1 A2 A3 A4 A5 : List (Option aE)} {h : aH} {N : Nat} (hS : mSt imt tc k f c n kp l p t d to re tl tp I A0 A1 A2 A3 A4 A5 h) {i j : Nat} (hi : i < p) (hj : j < p) (hij : i ≠ j) : aEv mX8_two 7 0 0 N [.inr 192, .inl (i : Int), .inl (j : Int)] h (fun rv h2 => rv = some (.inl (sres (firstQ (stM (chS p k f c t i j i) (chS p k f c t i j j)) 25 0))) ∧ mSt imt tc k f c n kp l p t d to re tl tp I A0 A1 A2 A3 A4 A5 h2) := by
  obtain ⟨hp6, hd9, hax, hb, le, la, td, kt, sh, so, had, gr, fi, se, at_, sn, ik, cu, st, hml, him, rfl⟩ := hS
  obtain ⟨htp, rtp, htl9, hto, rto, htc, hre⟩ := id hax
  obtain ⟨hle, hla, htd, hkt, hsh, hso, hha, hgr, hfi, hse⟩ := id hml
  obtain ⟨hp7, hk, hf, hc, hn, hkp, hl, rk, rf, rc, rn, rkp, rl, ht0, ht1, hd0, hd1⟩ := id hb
  refine aEv_of okX8_two caX8_two (Nat.le_of_ble_eq_true rfl) ?_
  refine aGo okX8_two 3 (f' := (3, [some (.inr 192), some (.inl (i : Int)), some (.inl (j : Int)), none], [.inl (j : Int), .inl (i : Int), .inr 192], _)) rfl ?_
  refine b_vV (as := [.inl (i : Int), .inl (j : Int)]) (rest := []) (k := 192) (.inl 1) okX8_two rfl lkX8_134 caX8_areTwo (Nat.le_of_ble_eq_true rfl) rfl (Nat.le_of_ble_eq_true rfl) rfl rfl rfl (c_mTwo_t hp7 ⟨by omega, by omega⟩ ⟨by omega, by omega⟩ (by omega)) ?_
  refine b0_ne (tgt := 15) okX8_two rfl rfl ⟨by omega, by omega⟩ (fun h6 => ?_) (fun h6 => absurd h6 (by omega))
  refine aGo okX8_two 3 (f' := (18, [some (.inr 192), some (.inl (i : Int)), some (.inl (j : Int)), none], [.inl (j : Int), .inl (i : Int), .inr 192], _)) rfl ?_
  refine b_vE (as := [.inl (i : Int), .inl (j : Int)]) (rest := []) (k := 192) okX8_two rfl lkX8_265 caX8_findWays (Nat.le_of_ble_eq_true rfl) rfl (Nat.le_of_ble_eq_true rfl) rfl rfl rfl (c_findWays hb hsh hfi hse (a := i) (b := j) hi hj hij) ?_
  rintro _ _ ⟨rfl, sh2, fi2, se2, lsh2, lfi2, lse2, efi2, ese2, rfl⟩
  refine aGo okX8_two 2 (f' := (23, [some (.inr 192), some (.inl (i : Int)), some (.inl (j : Int)), some (.inl 0)], [], _)) rfl ?_
  have rfi : ∀ q, 0 ≤ fi2.getD q 0 ∧ fi2.getD q 0 ≤ 1000 := fun q => by
    by_cases hq : q < 25
    · rw [efi2 q hq]; exact shr_le hp7 rf (chC_rng rc _ _ _) ⟨ht0, ht1⟩ (by omega)
    · rw [List.getD_eq_getElem?_getD, List.getElem?_eq_none (by omega)]; decide
  have rse : ∀ q, 0 ≤ se2.getD q 0 ∧ se2.getD q 0 ≤ 1000 := fun q => by
    by_cases hq : q < 25
    · rw [ese2 q hq]; exact shr_le hp7 rf (chC_rng rc _ _ _) ⟨ht0, ht1⟩ (by omega)
    · rw [List.getD_eq_getElem?_getD, List.getElem?_eq_none (by omega)]; decide
  have lp : ∀ (jn v : Nat), v + jn = 25 → (firstQ (stM (chS p k f c t i j i) (chS p k f c t i j j)) 25 0 = firstQ (stM (chS p k f c t i j i) (chS p k f c t i j j)) jn v) → AW mX8_two 7 0 0 N none (fun rv h2 => rv = some (.inl (sres (firstQ (stM (chS p k f c t i j i) (chS p k f c t i j j)) 25 0))) ∧ mSt imt tc k f c n kp l p t d to re tl tp I A0 A1 A2 A3 A4 A5 h2) (23, [some (.inr 192), some (.inl (i : Int)), some (.inl (j : Int)), some (.inl (v : Int))], [], [A0, A1, A2, A3, A4, A5, (modSeg re k f c n kp l tp le la td kt sh2 so had gr fi2 se2 to (p : Int) t d (tl : Int) at_ sn imt ik cu 0 st (tc : Int))]) := by
    intro jn
    induction jn with
    | zero =>
      intro v  hij x1
      obtain rfl : 25 = v := by omega
      refine aGo okX8_two 2 (f' := (26, [some (.inr 192), some (.inl (i : Int)), some (.inl (j : Int)), some (.inl (25 : Int))], [.inl 25, .inl (25 : Int)], _)) rfl ?_
      refine b_ge (tgt := 54) okX8_two rfl rfl ⟨by omega, by omega⟩ ⟨by omega, by omega⟩ (fun h26 => ?_) (fun h26 => absurd h26 (by omega))
      refine aGo okX8_two 1 (f' := (56, [some (.inr 192), some (.inl (i : Int)), some (.inl (j : Int)), some (.inl (25 : Int))], [.inl (-9)], _)) rfl ?_
      exact b_ret (v := (some (.inl (-9)))) ⟨rfl, Or.inl rfl⟩ ⟨congrArg (fun q : Int => (some (.inl q) : Option aV)) (by rw [x1]; rfl), mSt_of hp6 hd9 hax (hb) ⟨hle, hla, htd, hkt, lsh2, hso, hha, hgr, lfi2, lse2⟩ (him)⟩ rfl
    | succ jn ih =>
      intro v  hij x1
      refine aGo okX8_two 2 (f' := (26, [some (.inr 192), some (.inl (i : Int)), some (.inl (j : Int)), some (.inl (v : Int))], [.inl 25, .inl (v : Int)], _)) rfl ?_
      refine b_ge (tgt := 54) okX8_two rfl rfl ⟨by omega, by omega⟩ ⟨by omega, by omega⟩ (fun h26 => absurd h26 (by omega)) (fun h26 => ?_)
      refine aGo okX8_two 2 (f' := (31, [some (.inr 192), some (.inl (i : Int)), some (.inl (j : Int)), some (.inl (v : Int))], [.inl (v : Int), .inr 192], _)) rfl ?_
      by_cases hc31 : (stM (chS p k f c t i j i) (chS p k f c t i j j)) v = true
      · refine b_vE (as := [.inl (v : Int)]) (rest := []) (k := 192) okX8_two rfl lkX8_268 caX8_rests (Nat.le_of_ble_eq_true rfl) rfl (Nat.le_of_ble_eq_true rfl) rfl rfl rfl (c_rests_t (by omega) lfi2 lse2 rfi rse ((stM_congr efi2 ese2 (by omega)).trans hc31)) ?_
        rintro _ _ ⟨rfl, rfl⟩
        refine b0_eq (tgt := 48) okX8_two rfl rfl ⟨by omega, by omega⟩ (fun h34 => absurd h34 (by omega)) (fun h34 => ?_)
        refine aGo okX8_two 3 (f' := (41, [some (.inr 192), some (.inl (i : Int)), some (.inl (j : Int)), some (.inl (v : Int))], [.inl 5, .inl (v : Int), .inl 10], _)) rfl ?_
        refine b_div okX8_two rfl ⟨by omega, by omega⟩ ⟨by omega, by omega⟩ ?_
        refine aGo okX8_two 3 (f' := (45, [some (.inr 192), some (.inl (i : Int)), some (.inl (j : Int)), some (.inl (v : Int))], [.inl 5, .inl (v : Int), .inl (10 * ((v : Int) / 5))], _)) rfl ?_
        refine b_rem okX8_two rfl ⟨by omega, by omega⟩ ⟨by omega, by omega⟩ ?_
        refine aGo okX8_two 1 (f' := (47, [some (.inr 192), some (.inl (i : Int)), some (.inl (j : Int)), some (.inl (v : Int))], [.inl ((10 * ((v : Int) / 5)) + ((v : Int) % 5))], _)) rfl ?_
        exact b_ret (v := (some (.inl ((10 * ((v : Int) / 5)) + ((v : Int) % 5))))) ⟨rfl, Or.inl rfl⟩ ⟨congrArg (fun q : Int => (some (.inl q) : Option aV)) (by rw [x1, firstQ_t hc31]; unfold sres; rw [if_neg (by omega)]), mSt_of hp6 hd9 hax (hb) ⟨hle, hla, htd, hkt, lsh2, hso, hha, hgr, lfi2, lse2⟩ (him)⟩ rfl
      · refine b_vE (as := [.inl (v : Int)]) (rest := []) (k := 192) okX8_two rfl lkX8_268 caX8_rests (Nat.le_of_ble_eq_true rfl) rfl (Nat.le_of_ble_eq_true rfl) rfl rfl rfl (c_rests_f (by omega) lfi2 lse2 rfi rse ((stM_congr efi2 ese2 (by omega)).trans (by cases hq : (stM (chS p k f c t i j i) (chS p k f c t i j j)) v with | true => exact absurd hq hc31 | false => rfl))) ?_
        rintro _ _ ⟨rfl, rfl⟩
        refine b0_eq (tgt := 48) okX8_two rfl rfl ⟨by omega, by omega⟩ (fun h34 => ?_) (fun h34 => absurd h34 (by omega))
        refine aGo okX8_two 2 (f' := (23, [some (.inr 192), some (.inl (i : Int)), some (.inl (j : Int)), some (.inl ((v : Int) + 1))], [], _)) rfl ?_
        exact ih (v + 1) (by omega) (by rw [x1, firstQ_f (by cases hq : (stM (chS p k f c t i j i) (chS p k f c t i j j)) v with | true => exact absurd hq hc31 | false => rfl)])
  exact lp 25 0 (by omega) rfl
set_option maxRecDepth 100000 in
set_option maxHeartbeats 4000000 in
theorem mk_crowd {imt : Int} {tc : Nat} {k f c n kp l : List Int} {p : Nat} {t d : Int} {to re : List Int} {tl : Nat} {tp : List Int} {I : moT} {A0 A1 A2 A3 A4 A5 : List (Option aE)} {h : aH} {N : Nat} (hS : mSt imt tc k f c n kp l p t d to re tl tp I A0 A1 A2 A3 A4 A5 h) {x : Int} (hx : 0 ≤ x ∧ x ≤ 2) : aEv mX8_crowd 2 0 0 N [.inr 192, .inl x] h (fun rv h2 => rv = some (.inl (([if (npO c p p).1 = -9 then -9 else (npO c p p).2, msO c p p, (npO c p p).1].getD x.toNat 0))) ∧ mSt imt tc k f c n kp l p t d to re tl tp I A0 A1 A2 A3 A4 A5 h2) := by
  obtain ⟨hp6, hd9, hax, hb, le, la, td, kt, sh, so, had, gr, fi, se, at_, sn, ik, cu, st, hml, him, rfl⟩ := hS
  obtain ⟨htp, rtp, htl9, hto, rto, htc, hre⟩ := id hax
  obtain ⟨hle, hla, htd, hkt, hsh, hso, hha, hgr, hfi, hse⟩ := id hml
  obtain ⟨hp7, hk, hf, hc, hn, hkp, hl, rk, rf, rc, rn, rkp, rl, ht0, ht1, hd0, hd1⟩ := id hb
  refine aEv_of okX8_crowd caX8_crowd (Nat.le_of_ble_eq_true rfl) ?_
  refine aGo okX8_crowd 3 (f' := (3, [some (.inr 192), some (.inl x), none, none, none, none, none, none], [.inl 2, .inl 0, .inl x], _)) rfl ?_
  refine b_vS (as := [.inl x, .inl 0, .inl 2]) (rest := []) (.inl 1) okX8_crowd rfl lkX8_97 caX8_isIn (Nat.le_of_ble_eq_true rfl) rfl (Nat.le_of_ble_eq_true rfl) rfl (c_isIn_t ⟨by omega, by omega⟩ ⟨by omega, by omega⟩ ⟨by omega, by omega⟩ ⟨by omega, by omega⟩) ?_
  refine b0_ne (tgt := 16) okX8_crowd rfl rfl ⟨by omega, by omega⟩ (fun h6 => ?_) (fun h6 => absurd h6 (by omega))
  refine aGo okX8_crowd 8 (f' := (29, [some (.inr 192), some (.inl x), some (.inl (-9)), some (.inl (-9)), some (.inl (-9)), some (.inl 0), none, none], [], _)) rfl ?_
  have lp : ∀ (j9 a : Nat) (le1 : Int), a + j9 = p → (((npO c p a).1 = -9 ∧ le1 = -9) ∨ ((npO c p a).1 ≠ -9 ∧ le1 = (npO c p a).2)) → AW mX8_crowd 2 0 0 N none (fun rv h2 => rv = some (.inl (([if (npO c p p).1 = -9 then -9 else (npO c p p).2, msO c p p, (npO c p p).1].getD x.toNat 0))) ∧ mSt imt tc k f c n kp l p t d to re tl tp I A0 A1 A2 A3 A4 A5 h2) (29, [some (.inr 192), some (.inl x), some (.inl le1), some (.inl (msO c p a)), some (.inl ((npO c p a).1)), some (.inl (a : Int)), none, none], [], [A0, A1, A2, A3, A4, A5, (modSeg re k f c n kp l tp le la td kt sh so had gr fi se to (p : Int) t d (tl : Int) at_ sn imt ik cu 0 st (tc : Int))]) := by
    intro j9
    induction j9 with
    | zero =>
      intro a le1 hij x1
      obtain rfl : p = a := by omega
      refine aGo okX8_crowd 3 (f' := (35, [some (.inr 192), some (.inl x), some (.inl le1), some (.inl (msO c p p)), some (.inl ((npO c p p).1)), some (.inl (p : Int)), none, none], [.inl (p : Int), .inl (p : Int)], _)) rfl ?_
      refine b_ge (tgt := 124) okX8_crowd rfl rfl ⟨by omega, by omega⟩ ⟨by omega, by omega⟩ (fun h35 => ?_) (fun h35 => absurd h35 (by omega))
      refine aGo okX8_crowd 1 (f' := (125, [some (.inr 192), some (.inl x), some (.inl le1), some (.inl (msO c p p)), some (.inl ((npO c p p).1)), some (.inl (p : Int)), none, none], [.inl x], _)) rfl ?_
      refine b0_ne (tgt := 132) okX8_crowd rfl rfl ⟨by omega, by omega⟩ (fun h125 => ?_) (fun h125 => ?_)
      · refine aGo okX8_crowd 2 (f' := (134, [some (.inr 192), some (.inl x), some (.inl le1), some (.inl (msO c p p)), some (.inl ((npO c p p).1)), some (.inl (p : Int)), none, none], [.inl 1, .inl x], _)) rfl ?_
        refine b_ne (tgt := 141) okX8_crowd rfl rfl ⟨by omega, by omega⟩ ⟨by omega, by omega⟩ (fun h134 => ?_) (fun h134 => ?_)
        · refine aGo okX8_crowd 1 (f' := (143, [some (.inr 192), some (.inl x), some (.inl le1), some (.inl (msO c p p)), some (.inl ((npO c p p).1)), some (.inl (p : Int)), none, none], [.inl ((npO c p p).1)], _)) rfl ?_
          exact b_ret (v := (some (.inl ((npO c p p).1)))) ⟨rfl, Or.inl rfl⟩ ⟨congrArg (fun q : Int => (some (.inl q) : Option aV)) (by rw [show x = 2 by omega]; rfl), mSt_of hp6 hd9 hax (hb) hml (him)⟩ rfl
        · refine aGo okX8_crowd 2 (f' := (143, [some (.inr 192), some (.inl x), some (.inl le1), some (.inl (msO c p p)), some (.inl ((npO c p p).1)), some (.inl (p : Int)), none, none], [.inl (msO c p p)], _)) rfl ?_
          exact b_ret (v := (some (.inl (msO c p p)))) ⟨rfl, Or.inl rfl⟩ ⟨congrArg (fun q : Int => (some (.inl q) : Option aV)) (by rw [show x = 1 by omega]; rfl), mSt_of hp6 hd9 hax (hb) hml (him)⟩ rfl
      · refine aGo okX8_crowd 2 (f' := (143, [some (.inr 192), some (.inl x), some (.inl le1), some (.inl (msO c p p)), some (.inl ((npO c p p).1)), some (.inl (p : Int)), none, none], [.inl le1], _)) rfl ?_
        exact b_ret (v := (some (.inl le1))) ⟨rfl, Or.inl rfl⟩ ⟨congrArg (fun q : Int => (some (.inl q) : Option aV)) (by rw [show x = 0 by omega]; show le1 = if (npO c p p).1 = -9 then -9 else (npO c p p).2; split <;> omega), mSt_of hp6 hd9 hax (hb) hml (him)⟩ rfl
    | succ j9 ih =>
      intro a le1 hij x1
      refine aGo okX8_crowd 3 (f' := (35, [some (.inr 192), some (.inl x), some (.inl le1), some (.inl (msO c p a)), some (.inl ((npO c p a).1)), some (.inl (a : Int)), none, none], [.inl (p : Int), .inl (a : Int)], _)) rfl ?_
      refine b_ge (tgt := 124) okX8_crowd rfl rfl ⟨by omega, by omega⟩ ⟨by omega, by omega⟩ (fun h35 => absurd h35 (by omega)) (fun h35 => ?_)
      refine aGo okX8_crowd 4 (f' := (44, [some (.inr 192), some (.inl x), some (.inl le1), some (.inl (msO c p a)), some (.inl ((npO c p a).1)), some (.inl (a : Int)), some (.inl ((a : Int) + 1)), none], [], _)) rfl ?_
      have lq : ∀ (j2 b : Nat) (y : Nat) (le1 : Int), b + j2 = p → (b = a + 1 + y) → (((npI c a (npO c p a) y).1 = -9 ∧ le1 = -9) ∨ ((npI c a (npO c p a) y).1 ≠ -9 ∧ le1 = (npI c a (npO c p a) y).2)) → AW mX8_crowd 2 0 0 N none (fun rv h2 => rv = some (.inl (([if (npO c p p).1 = -9 then -9 else (npO c p p).2, msO c p p, (npO c p p).1].getD x.toNat 0))) ∧ mSt imt tc k f c n kp l p t d to re tl tp I A0 A1 A2 A3 A4 A5 h2) (44, [some (.inr 192), some (.inl x), some (.inl le1), some (.inl (msI c a (msO c p a) y)), some (.inl ((npI c a (npO c p a) y).1)), some (.inl (a : Int)), some (.inl (b : Int)), none], [], [A0, A1, A2, A3, A4, A5, (modSeg re k f c n kp l tp le la td kt sh so had gr fi se to (p : Int) t d (tl : Int) at_ sn imt ik cu 0 st (tc : Int))]) := by
        intro j2
        induction j2 with
        | zero =>
          intro b y le1 hij2 y1 y2
          obtain rfl : p = b := by omega
          refine aGo okX8_crowd 3 (f' := (50, [some (.inr 192), some (.inl x), some (.inl le1), some (.inl (msI c a (msO c p a) y)), some (.inl ((npI c a (npO c p a) y).1)), some (.inl (a : Int)), some (.inl (p : Int)), none], [.inl (p : Int), .inl (p : Int)], _)) rfl ?_
          refine b_ge (tgt := 118) okX8_crowd rfl rfl ⟨by omega, by omega⟩ ⟨by omega, by omega⟩ (fun h50 => ?_) (fun h50 => absurd h50 (by omega))
          refine aGo okX8_crowd 2 (f' := (29, [some (.inr 192), some (.inl x), some (.inl le1), some (.inl (msI c a (msO c p a) y)), some (.inl ((npI c a (npO c p a) y).1)), some (.inl ((a : Int) + 1)), some (.inl (p : Int)), none], [], _)) rfl ?_
          refine b_lose (ls' := [some (.inr 192), some (.inl x), some (.inl le1), some (.inl (msI c a (msO c p a) y)), some (.inl ((npI c a (npO c p a) y).1)), some (.inl ((a : Int) + 1)), none, none]) (lose67of8 _ _ _ _ _ _ _ _) ?_
          have y3 := y2
          rw [show y = p - (a + 1) by omega] at y3
          rw [show y = p - (a + 1) by omega]
          exact ih (a + 1) le1 (by omega) y3
        | succ j2 ih2 =>
          intro b y le1 hij2 y1 y2
          have e1 := stp_le (rc a) (rc b)
          have e2 := rc a
          have e3 := rc b
          have e4 := npOK_10 (p := p) rc (npI_ok (a := a) (npO_ok (c := c) (p := p) a (by omega)) y (by omega))
          have e5 := msI_le (c := c) (a := a) rc (msO_le (p := p) rc a) y
          have e6 : (npI c a (npO c p a) y) = (-9, 11) → (npI c a (npO c p a) y).1 = -9 ∧ (npI c a (npO c p a) y).2 = 11 := fun z => by rw [z]; exact ⟨rfl, rfl⟩
          have e7 : ((npI c a (npO c p a) y).1 = -9 ∧ (npI c a (npO c p a) y).2 = 11) ∨ (0 ≤ (npI c a (npO c p a) y).1 ∧ (npI c a (npO c p a) y).1 ≤ 100 ∧ 0 ≤ (npI c a (npO c p a) y).2 ∧ (npI c a (npO c p a) y).2 ≤ 10) := by
            rcases e4 with z | ⟨z1, z2, z3, z4⟩
            · exact Or.inl (e6 z)
            · right; omega
          clear e4 e6
          refine aGo okX8_crowd 3 (f' := (50, [some (.inr 192), some (.inl x), some (.inl le1), some (.inl (msI c a (msO c p a) y)), some (.inl ((npI c a (npO c p a) y).1)), some (.inl (a : Int)), some (.inl (b : Int)), none], [.inl (p : Int), .inl (b : Int)], _)) rfl ?_
          refine b_ge (tgt := 118) okX8_crowd rfl rfl ⟨by omega, by omega⟩ ⟨by omega, by omega⟩ (fun h50 => absurd h50 (by omega)) (fun h50 => ?_)
          refine aGo okX8_crowd 3 (f' := (59, [some (.inr 192), some (.inl x), some (.inl le1), some (.inl (msI c a (msO c p a) y)), some (.inl ((npI c a (npO c p a) y).1)), some (.inl (a : Int)), some (.inl (b : Int)), none], [.inl (a : Int), .inr 196], _)) rfl ?_
          refine b_ald (k := 196) (j := a) (a := c) okX8_crowd rfl rfl (by omega) (by omega) (by omega) ?_
          refine aGo okX8_crowd 3 (f' := (66, [some (.inr 192), some (.inl x), some (.inl le1), some (.inl (msI c a (msO c p a) y)), some (.inl ((npI c a (npO c p a) y).1)), some (.inl (a : Int)), some (.inl (b : Int)), none], [.inl (b : Int), .inr 196, .inl (c.getD a 0)], _)) rfl ?_
          refine b_ald (k := 196) (j := b) (a := c) okX8_crowd rfl rfl (by omega) (by omega) (by omega) ?_
          refine b_vS (as := [.inl (c.getD a 0), .inl (c.getD b 0)]) (rest := []) (.inl (stp (c.getD a 0) (c.getD b 0))) okX8_crowd rfl lkX8_181 caX8_steps (Nat.le_of_ble_eq_true rfl) rfl (Nat.le_of_ble_eq_true rfl) rfl (c_mSteps ⟨by omega, by omega⟩ ⟨by omega, by omega⟩) ?_
          refine aGo okX8_crowd 3 (f' := (75, [some (.inr 192), some (.inl x), some (.inl le1), some (.inl (msI c a (msO c p a) y)), some (.inl ((npI c a (npO c p a) y).1)), some (.inl (a : Int)), some (.inl (b : Int)), some (.inl (stp (c.getD a 0) (c.getD b 0)))], [.inl (msI c a (msO c p a) y), .inl (stp (c.getD a 0) (c.getD b 0))], _)) rfl ?_
          refine b_le (tgt := 83) okX8_crowd rfl rfl ⟨by omega, by omega⟩ ⟨by omega, by omega⟩ (fun h75 => ?_) (fun h75 => ?_)
          · refine aGo okX8_crowd 3 (f' := (87, [some (.inr 192), some (.inl x), some (.inl le1), some (.inl (msI c a (msO c p a) y)), some (.inl ((npI c a (npO c p a) y).1)), some (.inl (a : Int)), some (.inl (b : Int)), some (.inl (stp (c.getD a 0) (c.getD b 0)))], [.inl ((npI c a (npO c p a) y).1)], _)) rfl ?_
            refine b0_lt (tgt := 99) okX8_crowd rfl rfl ⟨by omega, by omega⟩ (fun h87 => ?_) (fun h87 => ?_)
            · refine aGo okX8_crowd 10 (f' := (44, [some (.inr 192), some (.inl x), some (.inl (stp (c.getD a 0) (c.getD b 0))), some (.inl (msI c a (msO c p a) y)), some (.inl ((10 * (a : Int)) + (b : Int))), some (.inl (a : Int)), some (.inl ((b : Int) + 1)), some (.inl (stp (c.getD a 0) (c.getD b 0)))], [], _)) rfl ?_
              refine b_cast (f' := (44, [some (.inr 192), some (.inl x), some (.inl (stp (c.getD a 0) (c.getD b 0))), some (.inl (msI c a (msO c p a) y)), some (.inl ((npI c a (npO c p a) (y + 1)).1)), some (.inl (a : Int)), some (.inl ((b : Int) + 1)), some (.inl (stp (c.getD a 0) (c.getD b 0)))], [], [A0, A1, A2, A3, A4, A5, (modSeg re k f c n kp l tp le la td kt sh so had gr fi se to (p : Int) t d (tl : Int) at_ sn imt ik cu 0 st (tc : Int))])) (congrArg (fun q : Int => ((44, [some (.inr 192), some (.inl x), some (.inl (stp (c.getD a 0) (c.getD b 0))), some (.inl (msI c a (msO c p a) y)), some (.inl q), some (.inl (a : Int)), some (.inl ((b : Int) + 1)), some (.inl (stp (c.getD a 0) (c.getD b 0)))], [], [A0, A1, A2, A3, A4, A5, (modSeg re k f c n kp l tp le la td kt sh so had gr fi se to (p : Int) t d (tl : Int) at_ sn imt ik cu 0 st (tc : Int))]) : aF)) (by rw [(npI_t2 y1 (by omega))])) ?_
              refine b_cast (f' := (44, [some (.inr 192), some (.inl x), some (.inl (stp (c.getD a 0) (c.getD b 0))), some (.inl (msI c a (msO c p a) (y + 1))), some (.inl ((npI c a (npO c p a) (y + 1)).1)), some (.inl (a : Int)), some (.inl ((b : Int) + 1)), some (.inl (stp (c.getD a 0) (c.getD b 0)))], [], [A0, A1, A2, A3, A4, A5, (modSeg re k f c n kp l tp le la td kt sh so had gr fi se to (p : Int) t d (tl : Int) at_ sn imt ik cu 0 st (tc : Int))])) (congrArg (fun q : Int => ((44, [some (.inr 192), some (.inl x), some (.inl (stp (c.getD a 0) (c.getD b 0))), some (.inl q), some (.inl ((npI c a (npO c p a) (y + 1)).1)), some (.inl (a : Int)), some (.inl ((b : Int) + 1)), some (.inl (stp (c.getD a 0) (c.getD b 0)))], [], [A0, A1, A2, A3, A4, A5, (modSeg re k f c n kp l tp le la td kt sh so had gr fi se to (p : Int) t d (tl : Int) at_ sn imt ik cu 0 st (tc : Int))]) : aF)) (by rw [msI_2 y1]; omega)) ?_
              refine b_lose (ls' := [some (.inr 192), some (.inl x), some (.inl (stp (c.getD a 0) (c.getD b 0))), some (.inl (msI c a (msO c p a) (y + 1))), some (.inl ((npI c a (npO c p a) (y + 1)).1)), some (.inl (a : Int)), some (.inl ((b : Int) + 1)), none]) (lose7of8 _ _ _ _ _ _ _ _) ?_
              exact ih2 (b + 1) (y + 1) _ (by omega) (by omega) (by rw [(npI_t2 y1 (by omega))]; first | exact y2 | exact Or.inr ⟨by simp only; omega, rfl⟩)
            · refine aGo okX8_crowd 2 (f' := (93, [some (.inr 192), some (.inl x), some (.inl le1), some (.inl (msI c a (msO c p a) y)), some (.inl ((npI c a (npO c p a) y).1)), some (.inl (a : Int)), some (.inl (b : Int)), some (.inl (stp (c.getD a 0) (c.getD b 0)))], [.inl le1, .inl (stp (c.getD a 0) (c.getD b 0))], _)) rfl ?_
              refine b_lt (tgt := 99) okX8_crowd rfl rfl ⟨by omega, by omega⟩ ⟨by omega, by omega⟩ (fun h93 => ?_) (fun h93 => ?_)
              · refine aGo okX8_crowd 10 (f' := (44, [some (.inr 192), some (.inl x), some (.inl (stp (c.getD a 0) (c.getD b 0))), some (.inl (msI c a (msO c p a) y)), some (.inl ((10 * (a : Int)) + (b : Int))), some (.inl (a : Int)), some (.inl ((b : Int) + 1)), some (.inl (stp (c.getD a 0) (c.getD b 0)))], [], _)) rfl ?_
                refine b_cast (f' := (44, [some (.inr 192), some (.inl x), some (.inl (stp (c.getD a 0) (c.getD b 0))), some (.inl (msI c a (msO c p a) y)), some (.inl ((npI c a (npO c p a) (y + 1)).1)), some (.inl (a : Int)), some (.inl ((b : Int) + 1)), some (.inl (stp (c.getD a 0) (c.getD b 0)))], [], [A0, A1, A2, A3, A4, A5, (modSeg re k f c n kp l tp le la td kt sh so had gr fi se to (p : Int) t d (tl : Int) at_ sn imt ik cu 0 st (tc : Int))])) (congrArg (fun q : Int => ((44, [some (.inr 192), some (.inl x), some (.inl (stp (c.getD a 0) (c.getD b 0))), some (.inl (msI c a (msO c p a) y)), some (.inl q), some (.inl (a : Int)), some (.inl ((b : Int) + 1)), some (.inl (stp (c.getD a 0) (c.getD b 0)))], [], [A0, A1, A2, A3, A4, A5, (modSeg re k f c n kp l tp le la td kt sh so had gr fi se to (p : Int) t d (tl : Int) at_ sn imt ik cu 0 st (tc : Int))]) : aF)) (by rw [(npI_t2 y1 (by omega))])) ?_
                refine b_cast (f' := (44, [some (.inr 192), some (.inl x), some (.inl (stp (c.getD a 0) (c.getD b 0))), some (.inl (msI c a (msO c p a) (y + 1))), some (.inl ((npI c a (npO c p a) (y + 1)).1)), some (.inl (a : Int)), some (.inl ((b : Int) + 1)), some (.inl (stp (c.getD a 0) (c.getD b 0)))], [], [A0, A1, A2, A3, A4, A5, (modSeg re k f c n kp l tp le la td kt sh so had gr fi se to (p : Int) t d (tl : Int) at_ sn imt ik cu 0 st (tc : Int))])) (congrArg (fun q : Int => ((44, [some (.inr 192), some (.inl x), some (.inl (stp (c.getD a 0) (c.getD b 0))), some (.inl q), some (.inl ((npI c a (npO c p a) (y + 1)).1)), some (.inl (a : Int)), some (.inl ((b : Int) + 1)), some (.inl (stp (c.getD a 0) (c.getD b 0)))], [], [A0, A1, A2, A3, A4, A5, (modSeg re k f c n kp l tp le la td kt sh so had gr fi se to (p : Int) t d (tl : Int) at_ sn imt ik cu 0 st (tc : Int))]) : aF)) (by rw [msI_2 y1]; omega)) ?_
                refine b_lose (ls' := [some (.inr 192), some (.inl x), some (.inl (stp (c.getD a 0) (c.getD b 0))), some (.inl (msI c a (msO c p a) (y + 1))), some (.inl ((npI c a (npO c p a) (y + 1)).1)), some (.inl (a : Int)), some (.inl ((b : Int) + 1)), none]) (lose7of8 _ _ _ _ _ _ _ _) ?_
                exact ih2 (b + 1) (y + 1) _ (by omega) (by omega) (by rw [(npI_t2 y1 (by omega))]; first | exact y2 | exact Or.inr ⟨by simp only; omega, rfl⟩)
              · refine aGo okX8_crowd 3 (f' := (44, [some (.inr 192), some (.inl x), some (.inl le1), some (.inl (msI c a (msO c p a) y)), some (.inl ((npI c a (npO c p a) y).1)), some (.inl (a : Int)), some (.inl ((b : Int) + 1)), some (.inl (stp (c.getD a 0) (c.getD b 0)))], [], _)) rfl ?_
                refine b_cast (f' := (44, [some (.inr 192), some (.inl x), some (.inl le1), some (.inl (msI c a (msO c p a) y)), some (.inl ((npI c a (npO c p a) (y + 1)).1)), some (.inl (a : Int)), some (.inl ((b : Int) + 1)), some (.inl (stp (c.getD a 0) (c.getD b 0)))], [], [A0, A1, A2, A3, A4, A5, (modSeg re k f c n kp l tp le la td kt sh so had gr fi se to (p : Int) t d (tl : Int) at_ sn imt ik cu 0 st (tc : Int))])) (congrArg (fun q : Int => ((44, [some (.inr 192), some (.inl x), some (.inl le1), some (.inl (msI c a (msO c p a) y)), some (.inl q), some (.inl (a : Int)), some (.inl ((b : Int) + 1)), some (.inl (stp (c.getD a 0) (c.getD b 0)))], [], [A0, A1, A2, A3, A4, A5, (modSeg re k f c n kp l tp le la td kt sh so had gr fi se to (p : Int) t d (tl : Int) at_ sn imt ik cu 0 st (tc : Int))]) : aF)) (by rw [(npI_f2 y1 (by omega))])) ?_
                refine b_cast (f' := (44, [some (.inr 192), some (.inl x), some (.inl le1), some (.inl (msI c a (msO c p a) (y + 1))), some (.inl ((npI c a (npO c p a) (y + 1)).1)), some (.inl (a : Int)), some (.inl ((b : Int) + 1)), some (.inl (stp (c.getD a 0) (c.getD b 0)))], [], [A0, A1, A2, A3, A4, A5, (modSeg re k f c n kp l tp le la td kt sh so had gr fi se to (p : Int) t d (tl : Int) at_ sn imt ik cu 0 st (tc : Int))])) (congrArg (fun q : Int => ((44, [some (.inr 192), some (.inl x), some (.inl le1), some (.inl q), some (.inl ((npI c a (npO c p a) (y + 1)).1)), some (.inl (a : Int)), some (.inl ((b : Int) + 1)), some (.inl (stp (c.getD a 0) (c.getD b 0)))], [], [A0, A1, A2, A3, A4, A5, (modSeg re k f c n kp l tp le la td kt sh so had gr fi se to (p : Int) t d (tl : Int) at_ sn imt ik cu 0 st (tc : Int))]) : aF)) (by rw [msI_2 y1]; omega)) ?_
                refine b_lose (ls' := [some (.inr 192), some (.inl x), some (.inl le1), some (.inl (msI c a (msO c p a) (y + 1))), some (.inl ((npI c a (npO c p a) (y + 1)).1)), some (.inl (a : Int)), some (.inl ((b : Int) + 1)), none]) (lose7of8 _ _ _ _ _ _ _ _) ?_
                exact ih2 (b + 1) (y + 1) _ (by omega) (by omega) (by rw [(npI_f2 y1 (by omega))]; first | exact y2 | exact Or.inr ⟨by simp only; omega, rfl⟩)
          · refine aGo okX8_crowd 4 (f' := (87, [some (.inr 192), some (.inl x), some (.inl le1), some (.inl (stp (c.getD a 0) (c.getD b 0))), some (.inl ((npI c a (npO c p a) y).1)), some (.inl (a : Int)), some (.inl (b : Int)), some (.inl (stp (c.getD a 0) (c.getD b 0)))], [.inl ((npI c a (npO c p a) y).1)], _)) rfl ?_
            refine b0_lt (tgt := 99) okX8_crowd rfl rfl ⟨by omega, by omega⟩ (fun h87 => ?_) (fun h87 => ?_)
            · refine aGo okX8_crowd 10 (f' := (44, [some (.inr 192), some (.inl x), some (.inl (stp (c.getD a 0) (c.getD b 0))), some (.inl (stp (c.getD a 0) (c.getD b 0))), some (.inl ((10 * (a : Int)) + (b : Int))), some (.inl (a : Int)), some (.inl ((b : Int) + 1)), some (.inl (stp (c.getD a 0) (c.getD b 0)))], [], _)) rfl ?_
              refine b_cast (f' := (44, [some (.inr 192), some (.inl x), some (.inl (stp (c.getD a 0) (c.getD b 0))), some (.inl (stp (c.getD a 0) (c.getD b 0))), some (.inl ((npI c a (npO c p a) (y + 1)).1)), some (.inl (a : Int)), some (.inl ((b : Int) + 1)), some (.inl (stp (c.getD a 0) (c.getD b 0)))], [], [A0, A1, A2, A3, A4, A5, (modSeg re k f c n kp l tp le la td kt sh so had gr fi se to (p : Int) t d (tl : Int) at_ sn imt ik cu 0 st (tc : Int))])) (congrArg (fun q : Int => ((44, [some (.inr 192), some (.inl x), some (.inl (stp (c.getD a 0) (c.getD b 0))), some (.inl (stp (c.getD a 0) (c.getD b 0))), some (.inl q), some (.inl (a : Int)), some (.inl ((b : Int) + 1)), some (.inl (stp (c.getD a 0) (c.getD b 0)))], [], [A0, A1, A2, A3, A4, A5, (modSeg re k f c n kp l tp le la td kt sh so had gr fi se to (p : Int) t d (tl : Int) at_ sn imt ik cu 0 st (tc : Int))]) : aF)) (by rw [(npI_t2 y1 (by omega))])) ?_
              refine b_cast (f' := (44, [some (.inr 192), some (.inl x), some (.inl (stp (c.getD a 0) (c.getD b 0))), some (.inl (msI c a (msO c p a) (y + 1))), some (.inl ((npI c a (npO c p a) (y + 1)).1)), some (.inl (a : Int)), some (.inl ((b : Int) + 1)), some (.inl (stp (c.getD a 0) (c.getD b 0)))], [], [A0, A1, A2, A3, A4, A5, (modSeg re k f c n kp l tp le la td kt sh so had gr fi se to (p : Int) t d (tl : Int) at_ sn imt ik cu 0 st (tc : Int))])) (congrArg (fun q : Int => ((44, [some (.inr 192), some (.inl x), some (.inl (stp (c.getD a 0) (c.getD b 0))), some (.inl q), some (.inl ((npI c a (npO c p a) (y + 1)).1)), some (.inl (a : Int)), some (.inl ((b : Int) + 1)), some (.inl (stp (c.getD a 0) (c.getD b 0)))], [], [A0, A1, A2, A3, A4, A5, (modSeg re k f c n kp l tp le la td kt sh so had gr fi se to (p : Int) t d (tl : Int) at_ sn imt ik cu 0 st (tc : Int))]) : aF)) (by rw [msI_2 y1]; omega)) ?_
              refine b_lose (ls' := [some (.inr 192), some (.inl x), some (.inl (stp (c.getD a 0) (c.getD b 0))), some (.inl (msI c a (msO c p a) (y + 1))), some (.inl ((npI c a (npO c p a) (y + 1)).1)), some (.inl (a : Int)), some (.inl ((b : Int) + 1)), none]) (lose7of8 _ _ _ _ _ _ _ _) ?_
              exact ih2 (b + 1) (y + 1) _ (by omega) (by omega) (by rw [(npI_t2 y1 (by omega))]; first | exact y2 | exact Or.inr ⟨by simp only; omega, rfl⟩)
            · refine aGo okX8_crowd 2 (f' := (93, [some (.inr 192), some (.inl x), some (.inl le1), some (.inl (stp (c.getD a 0) (c.getD b 0))), some (.inl ((npI c a (npO c p a) y).1)), some (.inl (a : Int)), some (.inl (b : Int)), some (.inl (stp (c.getD a 0) (c.getD b 0)))], [.inl le1, .inl (stp (c.getD a 0) (c.getD b 0))], _)) rfl ?_
              refine b_lt (tgt := 99) okX8_crowd rfl rfl ⟨by omega, by omega⟩ ⟨by omega, by omega⟩ (fun h93 => ?_) (fun h93 => ?_)
              · refine aGo okX8_crowd 10 (f' := (44, [some (.inr 192), some (.inl x), some (.inl (stp (c.getD a 0) (c.getD b 0))), some (.inl (stp (c.getD a 0) (c.getD b 0))), some (.inl ((10 * (a : Int)) + (b : Int))), some (.inl (a : Int)), some (.inl ((b : Int) + 1)), some (.inl (stp (c.getD a 0) (c.getD b 0)))], [], _)) rfl ?_
                refine b_cast (f' := (44, [some (.inr 192), some (.inl x), some (.inl (stp (c.getD a 0) (c.getD b 0))), some (.inl (stp (c.getD a 0) (c.getD b 0))), some (.inl ((npI c a (npO c p a) (y + 1)).1)), some (.inl (a : Int)), some (.inl ((b : Int) + 1)), some (.inl (stp (c.getD a 0) (c.getD b 0)))], [], [A0, A1, A2, A3, A4, A5, (modSeg re k f c n kp l tp le la td kt sh so had gr fi se to (p : Int) t d (tl : Int) at_ sn imt ik cu 0 st (tc : Int))])) (congrArg (fun q : Int => ((44, [some (.inr 192), some (.inl x), some (.inl (stp (c.getD a 0) (c.getD b 0))), some (.inl (stp (c.getD a 0) (c.getD b 0))), some (.inl q), some (.inl (a : Int)), some (.inl ((b : Int) + 1)), some (.inl (stp (c.getD a 0) (c.getD b 0)))], [], [A0, A1, A2, A3, A4, A5, (modSeg re k f c n kp l tp le la td kt sh so had gr fi se to (p : Int) t d (tl : Int) at_ sn imt ik cu 0 st (tc : Int))]) : aF)) (by rw [(npI_t2 y1 (by omega))])) ?_
                refine b_cast (f' := (44, [some (.inr 192), some (.inl x), some (.inl (stp (c.getD a 0) (c.getD b 0))), some (.inl (msI c a (msO c p a) (y + 1))), some (.inl ((npI c a (npO c p a) (y + 1)).1)), some (.inl (a : Int)), some (.inl ((b : Int) + 1)), some (.inl (stp (c.getD a 0) (c.getD b 0)))], [], [A0, A1, A2, A3, A4, A5, (modSeg re k f c n kp l tp le la td kt sh so had gr fi se to (p : Int) t d (tl : Int) at_ sn imt ik cu 0 st (tc : Int))])) (congrArg (fun q : Int => ((44, [some (.inr 192), some (.inl x), some (.inl (stp (c.getD a 0) (c.getD b 0))), some (.inl q), some (.inl ((npI c a (npO c p a) (y + 1)).1)), some (.inl (a : Int)), some (.inl ((b : Int) + 1)), some (.inl (stp (c.getD a 0) (c.getD b 0)))], [], [A0, A1, A2, A3, A4, A5, (modSeg re k f c n kp l tp le la td kt sh so had gr fi se to (p : Int) t d (tl : Int) at_ sn imt ik cu 0 st (tc : Int))]) : aF)) (by rw [msI_2 y1]; omega)) ?_
                refine b_lose (ls' := [some (.inr 192), some (.inl x), some (.inl (stp (c.getD a 0) (c.getD b 0))), some (.inl (msI c a (msO c p a) (y + 1))), some (.inl ((npI c a (npO c p a) (y + 1)).1)), some (.inl (a : Int)), some (.inl ((b : Int) + 1)), none]) (lose7of8 _ _ _ _ _ _ _ _) ?_
                exact ih2 (b + 1) (y + 1) _ (by omega) (by omega) (by rw [(npI_t2 y1 (by omega))]; first | exact y2 | exact Or.inr ⟨by simp only; omega, rfl⟩)
              · refine aGo okX8_crowd 3 (f' := (44, [some (.inr 192), some (.inl x), some (.inl le1), some (.inl (stp (c.getD a 0) (c.getD b 0))), some (.inl ((npI c a (npO c p a) y).1)), some (.inl (a : Int)), some (.inl ((b : Int) + 1)), some (.inl (stp (c.getD a 0) (c.getD b 0)))], [], _)) rfl ?_
                refine b_cast (f' := (44, [some (.inr 192), some (.inl x), some (.inl le1), some (.inl (stp (c.getD a 0) (c.getD b 0))), some (.inl ((npI c a (npO c p a) (y + 1)).1)), some (.inl (a : Int)), some (.inl ((b : Int) + 1)), some (.inl (stp (c.getD a 0) (c.getD b 0)))], [], [A0, A1, A2, A3, A4, A5, (modSeg re k f c n kp l tp le la td kt sh so had gr fi se to (p : Int) t d (tl : Int) at_ sn imt ik cu 0 st (tc : Int))])) (congrArg (fun q : Int => ((44, [some (.inr 192), some (.inl x), some (.inl le1), some (.inl (stp (c.getD a 0) (c.getD b 0))), some (.inl q), some (.inl (a : Int)), some (.inl ((b : Int) + 1)), some (.inl (stp (c.getD a 0) (c.getD b 0)))], [], [A0, A1, A2, A3, A4, A5, (modSeg re k f c n kp l tp le la td kt sh so had gr fi se to (p : Int) t d (tl : Int) at_ sn imt ik cu 0 st (tc : Int))]) : aF)) (by rw [(npI_f2 y1 (by omega))])) ?_
                refine b_cast (f' := (44, [some (.inr 192), some (.inl x), some (.inl le1), some (.inl (msI c a (msO c p a) (y + 1))), some (.inl ((npI c a (npO c p a) (y + 1)).1)), some (.inl (a : Int)), some (.inl ((b : Int) + 1)), some (.inl (stp (c.getD a 0) (c.getD b 0)))], [], [A0, A1, A2, A3, A4, A5, (modSeg re k f c n kp l tp le la td kt sh so had gr fi se to (p : Int) t d (tl : Int) at_ sn imt ik cu 0 st (tc : Int))])) (congrArg (fun q : Int => ((44, [some (.inr 192), some (.inl x), some (.inl le1), some (.inl q), some (.inl ((npI c a (npO c p a) (y + 1)).1)), some (.inl (a : Int)), some (.inl ((b : Int) + 1)), some (.inl (stp (c.getD a 0) (c.getD b 0)))], [], [A0, A1, A2, A3, A4, A5, (modSeg re k f c n kp l tp le la td kt sh so had gr fi se to (p : Int) t d (tl : Int) at_ sn imt ik cu 0 st (tc : Int))]) : aF)) (by rw [msI_2 y1]; omega)) ?_
                refine b_lose (ls' := [some (.inr 192), some (.inl x), some (.inl le1), some (.inl (msI c a (msO c p a) (y + 1))), some (.inl ((npI c a (npO c p a) (y + 1)).1)), some (.inl (a : Int)), some (.inl ((b : Int) + 1)), none]) (lose7of8 _ _ _ _ _ _ _ _) ?_
                exact ih2 (b + 1) (y + 1) _ (by omega) (by omega) (by rw [(npI_f2 y1 (by omega))]; first | exact y2 | exact Or.inr ⟨by simp only; omega, rfl⟩)
      refine b_lose (ls' := [some (.inr 192), some (.inl x), some (.inl le1), some (.inl (msO c p a)), some (.inl ((npO c p a).1)), some (.inl (a : Int)), some (.inl ((a : Int) + 1)), none]) (fun _ _ z => z) ?_
      exact lq (p - (a + 1)) (a + 1) 0 le1 (by omega) (by omega) x1
  exact lp p 0 (-9) (by omega) (Or.inl ⟨rfl, rfl⟩)
set_option maxRecDepth 100000 in
set_option maxHeartbeats 4000000 in
theorem mk_raise {imt : Int} {tc : Nat} {k f c n kp l : List Int} {p : Nat} {t d : Int} {to re : List Int} {tl : Nat} {tp : List Int} {I : moT} {A0 A1 A2 A3 A4 A5 : List (Option aE)} {h : aH} {N : Nat} (hS : mSt imt tc k f c n kp l p t d to re tl tp I A0 A1 A2 A3 A4 A5 h)  : aEv mX8_raise 7 0 0 N [.inr 192] h (fun rv h2 => rv = some (.inl (firstQ (fun (v : Nat) => ltA p k f c n l (v : Int)) 1000 0)) ∧ mSt imt tc k f c n kp l p t d to re tl tp I A0 A1 A2 A3 A4 A5 h2) := by
  obtain ⟨hp6, hd9, hax, hb, le, la, td, kt, sh, so, had, gr, fi, se, at_, sn, ik, cu, st, hml, him, rfl⟩ := hS
  obtain ⟨htp, rtp, htl9, hto, rto, htc, hre⟩ := id hax
  obtain ⟨hle, hla, htd, hkt, hsh, hso, hha, hgr, hfi, hse⟩ := id hml
  obtain ⟨hp7, hk, hf, hc, hn, hkp, hl, rk, rf, rc, rn, rkp, rl, ht0, ht1, hd0, hd1⟩ := id hb
  refine aEv_of okX8_raise caX8_raise (Nat.le_of_ble_eq_true rfl) ?_
  refine aGo okX8_raise 7 (f' := (10, [some (.inr 192), some (.inl t), some (.inl (-9)), some (.inl 0)], [], _)) rfl ?_
  have lp : ∀ (jn v : Nat) (tv : Int) (sh1 : List Int), v + jn = 1000 → (sh1.length = 7) → (firstQ (fun (v : Nat) => ltA p k f c n l (v : Int)) 1000 0 = firstQ (fun (v : Nat) => ltA p k f c n l (v : Int)) jn v) → AW mX8_raise 7 0 0 N none (fun rv h2 => rv = some (.inl (firstQ (fun (v : Nat) => ltA p k f c n l (v : Int)) 1000 0)) ∧ mSt imt tc k f c n kp l p t d to re tl tp I A0 A1 A2 A3 A4 A5 h2) (10, [some (.inr 192), some (.inl t), some (.inl (-9)), some (.inl (v : Int))], [], [A0, A1, A2, A3, A4, A5, (modSeg re k f c n kp l tp le la td kt sh1 so had gr fi se to (p : Int) tv d (tl : Int) at_ sn imt ik cu 0 st (tc : Int))]) := by
    intro jn
    induction jn with
    | zero =>
      intro v tv sh1 hij x1 x2
      obtain rfl : 1000 = v := by omega
      refine aGo okX8_raise 2 (f' := (14, [some (.inr 192), some (.inl t), some (.inl (-9)), some (.inl (1000 : Int))], [.inl 999, .inl (1000 : Int)], _)) rfl ?_
      refine b_gt (tgt := 46) okX8_raise rfl rfl ⟨by omega, by omega⟩ ⟨by omega, by omega⟩ (fun h14 => ?_) (fun h14 => absurd h14 (by omega))
      refine aGo okX8_raise 4 (f' := (52, [some (.inr 192), some (.inl t), some (.inl (-9)), some (.inl (1000 : Int))], [.inl (-9)], [A0, A1, A2, A3, A4, A5, (modSeg re k f c n kp l tp le la td kt sh1 so had gr fi se to (p : Int) t d (tl : Int) at_ sn imt ik cu 0 st (tc : Int))])) rfl ?_
      exact b_ret (v := (some (.inl (-9)))) ⟨rfl, Or.inl rfl⟩ ⟨congrArg (fun q : Int => (some (.inl q) : Option aV)) (by rw [x2]; rfl), mSt_of hp6 hd9 hax (hb) ⟨hle, hla, htd, hkt, x1, hso, hha, hgr, hfi, hse⟩ (him)⟩ rfl
    | succ jn ih =>
      intro v tv sh1 hij x1 x2
      refine aGo okX8_raise 2 (f' := (14, [some (.inr 192), some (.inl t), some (.inl (-9)), some (.inl (v : Int))], [.inl 999, .inl (v : Int)], _)) rfl ?_
      refine b_gt (tgt := 46) okX8_raise rfl rfl ⟨by omega, by omega⟩ ⟨by omega, by omega⟩ (fun h14 => absurd h14 (by omega)) (fun h14 => ?_)
      refine aGo okX8_raise 1 (f' := (18, [some (.inr 192), some (.inl t), some (.inl (-9)), some (.inl (v : Int))], [.inl (-9)], _)) rfl ?_
      refine b0_ge (tgt := 46) okX8_raise rfl rfl ⟨by omega, by omega⟩ (fun h18 => absurd h18 (by omega)) (fun h18 => ?_)
      refine aGo okX8_raise 4 (f' := (27, [some (.inr 192), some (.inl t), some (.inl (-9)), some (.inl (v : Int))], [.inr 192], [A0, A1, A2, A3, A4, A5, (modSeg re k f c n kp l tp le la td kt sh1 so had gr fi se to (p : Int) (v : Int) d (tl : Int) at_ sn imt ik cu 0 st (tc : Int))])) rfl ?_
      by_cases hc27 : ltA p k f c n l (v : Int) = true
      · refine b_vE (as := []) (rest := []) (k := 192) okX8_raise rfl lkX8_271 caX8_isRich (Nat.le_of_ble_eq_true rfl) rfl (Nat.le_of_ble_eq_true rfl) rfl rfl rfl (c_isRich_t (bOK_t hb (by omega) (by omega)) x1 hc27) ?_
        rintro _ _ ⟨rfl, sh2, lsh2, rfl⟩
        refine b0_eq (tgt := 37) okX8_raise rfl rfl ⟨by omega, by omega⟩ (fun h30 => absurd h30 (by omega)) (fun h30 => ?_)
        refine aGo okX8_raise 5 (f' := (10, [some (.inr 192), some (.inl t), some (.inl (v : Int)), some (.inl ((v : Int) + 1))], [], _)) rfl ?_
        refine aGo okX8_raise 2 (f' := (14, [some (.inr 192), some (.inl t), some (.inl (v : Int)), some (.inl ((v : Int) + 1))], [.inl 999, .inl ((v : Int) + 1)], _)) rfl ?_
        refine b_gt (tgt := 46) okX8_raise rfl rfl ⟨by omega, by omega⟩ ⟨by omega, by omega⟩ (fun h14 => ?_) (fun h14 => ?_)
        · refine aGo okX8_raise 4 (f' := (52, [some (.inr 192), some (.inl t), some (.inl (v : Int)), some (.inl ((v : Int) + 1))], [.inl (v : Int)], [A0, A1, A2, A3, A4, A5, (modSeg re k f c n kp l tp le la td kt sh2 so had gr fi se to (p : Int) t d (tl : Int) at_ sn imt ik cu 0 st (tc : Int))])) rfl ?_
          exact b_ret (v := (some (.inl (v : Int)))) ⟨rfl, Or.inl rfl⟩ ⟨congrArg (fun q : Int => (some (.inl q) : Option aV)) (by rw [x2, firstQ_t (P := (fun (v : Nat) => ltA p k f c n l (v : Int))) (show ltA p k f c n l (v : Int) = true from hc27)]), mSt_of hp6 hd9 hax (hb) ⟨hle, hla, htd, hkt, lsh2, hso, hha, hgr, hfi, hse⟩ (him)⟩ rfl
        · refine aGo okX8_raise 1 (f' := (18, [some (.inr 192), some (.inl t), some (.inl (v : Int)), some (.inl ((v : Int) + 1))], [.inl (v : Int)], _)) rfl ?_
          refine b0_ge (tgt := 46) okX8_raise rfl rfl ⟨by omega, by omega⟩ (fun h18 => ?_) (fun h18 => absurd h18 (by omega))
          refine aGo okX8_raise 4 (f' := (52, [some (.inr 192), some (.inl t), some (.inl (v : Int)), some (.inl ((v : Int) + 1))], [.inl (v : Int)], [A0, A1, A2, A3, A4, A5, (modSeg re k f c n kp l tp le la td kt sh2 so had gr fi se to (p : Int) t d (tl : Int) at_ sn imt ik cu 0 st (tc : Int))])) rfl ?_
          exact b_ret (v := (some (.inl (v : Int)))) ⟨rfl, Or.inl rfl⟩ ⟨congrArg (fun q : Int => (some (.inl q) : Option aV)) (by rw [x2, firstQ_t (P := (fun (v : Nat) => ltA p k f c n l (v : Int))) (show ltA p k f c n l (v : Int) = true from hc27)]), mSt_of hp6 hd9 hax (hb) ⟨hle, hla, htd, hkt, lsh2, hso, hha, hgr, hfi, hse⟩ (him)⟩ rfl
      · refine b_vE (as := []) (rest := []) (k := 192) okX8_raise rfl lkX8_271 caX8_isRich (Nat.le_of_ble_eq_true rfl) rfl (Nat.le_of_ble_eq_true rfl) rfl rfl rfl (c_isRich_f (bOK_t hb (by omega) (by omega)) x1 (by cases hq : ltA p k f c n l (v : Int) with | true => exact absurd hq hc27 | false => rfl)) ?_
        rintro _ _ ⟨rfl, sh2, lsh2, rfl⟩
        refine b0_eq (tgt := 37) okX8_raise rfl rfl ⟨by omega, by omega⟩ (fun h30 => ?_) (fun h30 => absurd h30 (by omega))
        refine aGo okX8_raise 4 (f' := (10, [some (.inr 192), some (.inl t), some (.inl (-9)), some (.inl ((v : Int) + 1))], [], _)) rfl ?_
        exact ih (v + 1) _ _ (by omega) lsh2 (by rw [x2, firstQ_f (P := (fun (v : Nat) => ltA p k f c n l (v : Int))) (show ltA p k f c n l (v : Int) = false by cases hq : ltA p k f c n l (v : Int) with | true => exact absurd hq hc27 | false => rfl)])
  exact lp 1000 0 t sh (by omega) hsh rfl
set_option maxRecDepth 100000 in
set_option maxHeartbeats 4000000 in
theorem mk_easter {imt : Int} {tc : Nat} {k f c n kp l : List Int} {p : Nat} {t d : Int} {to re : List Int} {tl : Nat} {tp : List Int} {I : moT} {A0 A1 A2 A3 A4 A5 : List (Option aE)} {h : aH} {N : Nat} (hS : mSt imt tc k f c n kp l p t d to re tl tp I A0 A1 A2 A3 A4 A5 h) {i j m : Nat} (hi : i < p) (hj : j < p) (hij : i ≠ j) (hm0 : m ≤ 99) : aEv mX8_easter 7 0 0 N [.inr 192, .inl (i : Int), .inl (j : Int), .inl (m : Int)] h (fun rv h2 => rv = some (.inl ((kpE p k f c n l t d i j kp m).getD j 0)) ∧ mSt imt tc k f c n kp l p t d to re tl tp I A0 A1 A2 A3 A4 A5 h2) := by
  obtain ⟨hp6, hd9, hax, hb, le, la, td, kt, sh, so, had, gr, fi, se, at_, sn, ik, cu, st, hml, him, rfl⟩ := hS
  obtain ⟨htp, rtp, htl9, hto, rto, htc, hre⟩ := id hax
  obtain ⟨hle, hla, htd, hkt, hsh, hso, hha, hgr, hfi, hse⟩ := id hml
  obtain ⟨hp7, hk, hf, hc, hn, hkp, hl, rk, rf, rc, rn, rkp, rl, ht0, ht1, hd0, hd1⟩ := id hb
  refine aEv_of okX8_easter caX8_easter (Nat.le_of_ble_eq_true rfl) ?_
  refine aGo okX8_easter 3 (f' := (3, [some (.inr 192), some (.inl (i : Int)), some (.inl (j : Int)), some (.inl (m : Int)), none, none], [.inl (j : Int), .inl (i : Int), .inr 192], _)) rfl ?_
  refine b_vV (as := [.inl (i : Int), .inl (j : Int)]) (rest := []) (k := 192) (.inl 1) okX8_easter rfl lkX8_134 caX8_areTwo (Nat.le_of_ble_eq_true rfl) rfl (Nat.le_of_ble_eq_true rfl) rfl rfl rfl (c_mTwo_t hp7 ⟨by omega, by omega⟩ ⟨by omega, by omega⟩ (by omega)) ?_
  refine b0_ne (tgt := 13) okX8_easter rfl rfl ⟨by omega, by omega⟩ (fun h6 => ?_) (fun h6 => absurd h6 (by omega))
  refine aGo okX8_easter 3 (f' := (17, [some (.inr 192), some (.inl (i : Int)), some (.inl (j : Int)), some (.inl (m : Int)), none, none], [.inl 99, .inl 0, .inl (m : Int)], _)) rfl ?_
  refine b_vS (as := [.inl (m : Int), .inl 0, .inl 99]) (rest := []) (.inl 0) okX8_easter rfl lkX8_79 caX8_bound (Nat.le_of_ble_eq_true rfl) rfl (Nat.le_of_ble_eq_true rfl) rfl (c_bound_m ⟨by omega, by omega⟩ ⟨by omega, by omega⟩ ⟨by omega, by omega⟩ ⟨by omega, by omega⟩) ?_
  refine aGo okX8_easter 2 (f' := (24, [some (.inr 192), some (.inl (i : Int)), some (.inl (j : Int)), some (.inl (m : Int)), some (.inl 0), none], [.inl 0], _)) rfl ?_
  refine b0_eq (tgt := 34) okX8_easter rfl rfl ⟨by omega, by omega⟩ (fun h24 => ?_) (fun h24 => absurd h24 (by omega))
  refine aGo okX8_easter 1 (f' := (35, [some (.inr 192), some (.inl (i : Int)), some (.inl (j : Int)), some (.inl (m : Int)), some (.inl 0), none], [.inr 192], _)) rfl ?_
  refine b_vE (as := []) (rest := []) (k := 192) okX8_easter rfl lkX8_214 caX8_thinks (Nat.le_of_ble_eq_true rfl) rfl (Nat.le_of_ble_eq_true rfl) rfl rfl rfl (c_thinks hb hkt) ?_
  rintro _ _ ⟨rfl, kt2, hkt2, hh2, he2, rfl⟩
  refine aGo okX8_easter 2 (f' := (41, [some (.inr 192), some (.inl (i : Int)), some (.inl (j : Int)), some (.inl (m : Int)), some (.inl 0), some (.inl 0)], [], _)) rfl ?_
  have lp : ∀ (j9 v : Nat) (so1 : List Int) (sh1 : List Int) (st1 : Int), v + j9 = m → (so1.length = 7) → (sh1.length = 7) → AW mX8_easter 7 0 0 N none (fun rv h2 => rv = some (.inl ((kpE p k f c n l t d i j kp m).getD j 0)) ∧ mSt imt tc k f c n kp l p t d to re tl tp I A0 A1 A2 A3 A4 A5 h2) (41, [some (.inr 192), some (.inl (i : Int)), some (.inl (j : Int)), some (.inl (m : Int)), some (.inl 0), some (.inl (v : Int))], [], [A0, A1, A2, A3, A4, A5, (modSeg re k f c n (kpE p k f c n l t d i j kp v) l tp le la td kt2 sh1 so1 had gr fi se to (p : Int) t (d + (v : Int)) (tl : Int) at_ sn imt 1 267 0 st1 (tc : Int))]) := by
    intro j9
    induction j9 with
    | zero =>
      intro v so1 sh1 st1 hij x1 x2
      obtain rfl : m = v := by omega
      refine aGo okX8_easter 2 (f' := (44, [some (.inr 192), some (.inl (i : Int)), some (.inl (j : Int)), some (.inl (m : Int)), some (.inl 0), some (.inl (m : Int))], [.inl (m : Int), .inl (m : Int)], _)) rfl ?_
      refine b_ge (tgt := 59) okX8_easter rfl rfl ⟨by omega, by omega⟩ ⟨by omega, by omega⟩ (fun h44 => ?_) (fun h44 => absurd h44 (by omega))
      refine aGo okX8_easter 3 (f' := (64, [some (.inr 192), some (.inl (i : Int)), some (.inl (j : Int)), some (.inl (m : Int)), some (.inl 0), some (.inl (m : Int))], [.inl (j : Int), .inr 198], _)) rfl ?_
      refine b_ald (k := 198) (j := j) (a := (kpE p k f c n l t d i j kp m)) okX8_easter rfl rfl (by omega) (by rw [kpE_len]; omega) (by omega) ?_
      refine aGo okX8_easter 2 (f' := (68, [some (.inr 192), some (.inl (i : Int)), some (.inl (j : Int)), some (.inl (m : Int)), some (.inl 0), some (.inl ((kpE p k f c n l t d i j kp m).getD j 0))], [.inr 192], _)) rfl ?_
      refine b_vE (as := []) (rest := []) (k := 192) okX8_easter rfl lkX8_220 caX8_forgets (Nat.le_of_ble_eq_true rfl) rfl (Nat.le_of_ble_eq_true rfl) rfl rfl rfl (c_forgets hk hf hc hn (by rw [kpE_len]; exact hkp) hl hk hf hc hn hkp hl hkt2 hh2) ?_
      rintro _ _ ⟨rfl, rfl⟩
      refine aGo okX8_easter 1 (f' := (73, [some (.inr 192), some (.inl (i : Int)), some (.inl (j : Int)), some (.inl (m : Int)), some (.inl 0), some (.inl ((kpE p k f c n l t d i j kp m).getD j 0))], [.inl ((kpE p k f c n l t d i j kp m).getD j 0)], _)) rfl ?_
      exact b_ret (v := (some (.inl ((kpE p k f c n l t d i j kp m).getD j 0)))) ⟨rfl, Or.inl rfl⟩ ⟨congrArg (fun q : Int => (some (.inl q) : Option aV)) (rfl), mSt_of hp6 hd9 hax (hb) ⟨hle, hla, htd, hkt2, x2, x1, hha, hgr, hfi, hse⟩ (mim_of him (fun j hj => he2 j (by omega)))⟩ rfl
    | succ j9 ih =>
      intro v so1 sh1 st1 hij x1 x2
      refine aGo okX8_easter 2 (f' := (44, [some (.inr 192), some (.inl (i : Int)), some (.inl (j : Int)), some (.inl (m : Int)), some (.inl 0), some (.inl (v : Int))], [.inl (m : Int), .inl (v : Int)], _)) rfl ?_
      refine b_ge (tgt := 59) okX8_easter rfl rfl ⟨by omega, by omega⟩ ⟨by omega, by omega⟩ (fun h44 => absurd h44 (by omega)) (fun h44 => ?_)
      refine aGo okX8_easter 3 (f' := (50, [some (.inr 192), some (.inl (i : Int)), some (.inl (j : Int)), some (.inl (m : Int)), some (.inl 0), some (.inl (v : Int))], [.inl (j : Int), .inl (i : Int), .inr 192], _)) rfl ?_
      refine b_vE (as := [.inl (i : Int), .inl (j : Int)]) (rest := []) (k := 192) okX8_easter rfl lkX8_127 caX8_goesDay (Nat.le_of_ble_eq_true rfl) rfl (Nat.le_of_ble_eq_true rfl) rfl rfl rfl (c_goesDayV (bOK_E hb (by omega)) x2 x1 (i := i) (j := j) (by omega) (by omega)) ?_
      rintro _ _ ⟨rfl, sh3, lsh3, rfl⟩
      refine aGo okX8_easter 2 (f' := (41, [some (.inr 192), some (.inl (i : Int)), some (.inl (j : Int)), some (.inl (m : Int)), some (.inl 0), some (.inl ((v : Int) + 1))], [], _)) rfl ?_
      refine b_cast (f' := (41, [some (.inr 192), some (.inl (i : Int)), some (.inl (j : Int)), some (.inl (m : Int)), some (.inl 0), some (.inl ((v : Int) + 1))], [], [A0, A1, A2, A3, A4, A5, (modSeg re k f c n (kpE p k f c n l t d i j kp (v + 1)) l tp le la td kt2 sh3 (soL (fun q => decide (dayV (kpE p k f c n l t d i j kp v) (fun q => shr p k f (c.set j (visD c (d + (v : Int)) i j)) t q - net p l q) n q < 0)) so1 p) had gr fi se to (p : Int) t ((d + (v : Int)) + 1) (tl : Int) at_ sn imt 1 267 0 (cntN p (fun q => decide (dayV (kpE p k f c n l t d i j kp v) (fun q => shr p k f (c.set j (visD c (d + (v : Int)) i j)) t q - net p l q) n q < 0))) (tc : Int))])) rfl ?_
      refine b_cast (f' := (41, [some (.inr 192), some (.inl (i : Int)), some (.inl (j : Int)), some (.inl (m : Int)), some (.inl 0), some (.inl ((v : Int) + 1))], [], [A0, A1, A2, A3, A4, A5, (modSeg re k f c n (kpE p k f c n l t d i j kp (v + 1)) l tp le la td kt2 sh3 (soL (fun q => decide (dayV (kpE p k f c n l t d i j kp v) (fun q => shr p k f (c.set j (visD c (d + (v : Int)) i j)) t q - net p l q) n q < 0)) so1 p) had gr fi se to (p : Int) t (d + (((v + 1) : Nat) : Int)) (tl : Int) at_ sn imt 1 267 0 (cntN p (fun q => decide (dayV (kpE p k f c n l t d i j kp v) (fun q => shr p k f (c.set j (visD c (d + (v : Int)) i j)) t q - net p l q) n q < 0))) (tc : Int))])) (by rw [show d + (v : Int) + 1 = d + ((v + 1 : Nat) : Int) by omega]) ?_
      exact ih (v + 1) _ _ _ (by omega) (by rw [soL_len]; exact x1) lsh3
  refine b_cast (f' := (41, [some (.inr 192), some (.inl (i : Int)), some (.inl (j : Int)), some (.inl (m : Int)), some (.inl 0), some (.inl 0)], [], [A0, A1, A2, A3, A4, A5, (modSeg re k f c n kp l tp le la td kt2 sh so had gr fi se to (p : Int) t (d + ((0 : Nat) : Int)) (tl : Int) at_ sn imt 1 267 0 st (tc : Int))])) (by rw [show d + ((0 : Nat) : Int) = d by omega]) ?_
  exact lp m 0 so sh st (by omega) hso hsh
section AMH
variable {A0 A1 A2 A3 A4 A5 : List (Option aE)} {re k f c n kp l tp le la td kt sh so had gr fi se to : List Int} {p g : Nat} {t d tl at_ sn him ik cu ou st rm : Int} {N : Nat}
theorem bOK_ks {p : Nat} {k f c n kp l : List Int} {t d : Int} (h : bOK p k f c n kp l t d) {i : Nat} {v : Int} (h0 : 0 ≤ v) (h1 : v ≤ 5) : bOK p (k.set i v) f c n kp l t d := by
  obtain ⟨hp7, hk, hf, hc, hn, hkp, hl, rk, rf, rc, rn, rkp, rl, ht0, ht1, hd0, hd1⟩ := h
  exact ⟨hp7, by rw [List.length_set]; exact hk, hf, hc, hn, hkp, hl, rng_set rk h0 h1, rf, rc, rn, rkp, rl, ht0, ht1, hd0, hd1⟩
set_option maxRecDepth 100000 in
set_option maxHeartbeats 4000000 in
theorem c_bitsFor_k (hb : bOK p k f c n kp l t d) (hp6 : p ≤ 6) (hsh : sh.length = 7) (hto : to.length = 12) (rto : rng to 99) {i : Nat} (hi : i < 7) : aEv mX8_bitsFor 7 0 0 N [.inr 192, .inr 194, .inl (i : Int), .inl 6] [A0, A1, A2, A3, A4, A5, (modSeg re k f c n kp l tp le la td kt sh so had gr fi se to (p : Int) t d tl at_ sn him ik cu 0 st rm)] ((fun rv h => rv = some (.inl (bitsN 6 (fun (v : Nat) => tldB p (fun q => shr p (k.set i (v : Int)) f c t q) to))) ∧ ∃ sh2 : List Int, sh2.length = 7 ∧ h = [A0, A1, A2, A3, A4, A5, (modSeg re k f c n kp l tp le la td kt sh2 so had gr fi se to (p : Int) t d tl at_ sn him ik cu 0 st rm)])) := by
  obtain ⟨hp7, hk, hf, hc, hn, hkp, hl, rk, rf, rc, rn, rkp, rl, ht0, ht1, hd0, hd1⟩ := id hb
  refine aEv_of okX8_bitsFor caX8_bitsFor (Nat.le_of_ble_eq_true rfl) ?_
  refine aGo okX8_bitsFor 2 (f' := (2, [some (.inr 192), some (.inr 194), some (.inl (i : Int)), some (.inl 6), none, none, none], [.inl (i : Int), .inr 194], _)) rfl ?_
  refine b_ald (k := 194) (j := i) (a := k) okX8_bitsFor rfl rfl (by omega) (by omega) (by omega) ?_
  refine aGo okX8_bitsFor 5 (f' := (11, [some (.inr 192), some (.inr 194), some (.inl (i : Int)), some (.inl 6), some (.inl (k.getD i 0)), some (.inl 0), some (.inl 0)], [], _)) rfl ?_
  have lp : ∀ (j v : Nat) (cv : Int) (sh1 : List Int), v + j = 6 → (sh1.length = 7) → AW mX8_bitsFor 7 0 0 N none (fun rv h => rv = some (.inl (bitsN 6 (fun (v : Nat) => tldB p (fun q => shr p (k.set i (v : Int)) f c t q) to))) ∧ ∃ sh2 : List Int, sh2.length = 7 ∧ h = [A0, A1, A2, A3, A4, A5, (modSeg re k f c n kp l tp le la td kt sh2 so had gr fi se to (p : Int) t d tl at_ sn him ik cu 0 st rm)]) (11, [some (.inr 192), some (.inr 194), some (.inl (i : Int)), some (.inl 6), some (.inl (k.getD i 0)), some (.inl (bitsN v (fun (v : Nat) => tldB p (fun q => shr p (k.set i (v : Int)) f c t q) to))), some (.inl (v : Int))], [], [A0, A1, A2, A3, A4, A5, (modSeg re (k.set i cv) f c n kp l tp le la td kt sh1 so had gr fi se to (p : Int) t d tl at_ sn him ik cu 0 st rm)]) := by
    intro j
    induction j with
    | zero =>
      intro v cv sh1 hij x1
      obtain rfl : 6 = v := by omega
      refine aGo okX8_bitsFor 2 (f' := (14, [some (.inr 192), some (.inr 194), some (.inl (i : Int)), some (.inl 6), some (.inl (k.getD i 0)), some (.inl (bitsN 6 (fun (v : Nat) => tldB p (fun q => shr p (k.set i (v : Int)) f c t q) to))), some (.inl (6 : Int))], [.inl 6, .inl (6 : Int)], _)) rfl ?_
      refine b_ge (tgt := 48) okX8_bitsFor rfl rfl ⟨by omega, by omega⟩ ⟨by omega, by omega⟩ (fun h14 => ?_) (fun h14 => absurd h14 (by omega))
      refine aGo okX8_bitsFor 3 (f' := (52, [some (.inr 192), some (.inr 194), some (.inl (i : Int)), some (.inl 6), some (.inl (k.getD i 0)), some (.inl (bitsN 6 (fun (v : Nat) => tldB p (fun q => shr p (k.set i (v : Int)) f c t q) to))), some (.inl (6 : Int))], [.inl (k.getD i 0), .inl (i : Int), .inr 194], _)) rfl ?_
      refine b_ast (k := 194) (j := i) (a := (k.set i cv)) okX8_bitsFor rfl rfl (by omega) (by rw [List.length_set]; omega) (by omega) ?_
      refine b_cast (f' := (53, [some (.inr 192), some (.inr 194), some (.inl (i : Int)), some (.inl 6), some (.inl (k.getD i 0)), some (.inl (bitsN 6 (fun (v : Nat) => tldB p (fun q => shr p (k.set i (v : Int)) f c t q) to))), some (.inl (6 : Int))], [], [A0, A1, A2, A3, A4, A5, (modSeg re ((k.set i cv).set i (k.getD i 0)) f c n kp l tp le la td kt sh1 so had gr fi se to (p : Int) t d tl at_ sn him ik cu 0 st rm)])) rfl ?_
      refine b_cast (f' := (53, [some (.inr 192), some (.inr 194), some (.inl (i : Int)), some (.inl 6), some (.inl (k.getD i 0)), some (.inl (bitsN 6 (fun (v : Nat) => tldB p (fun q => shr p (k.set i (v : Int)) f c t q) to))), some (.inl (6 : Int))], [], [A0, A1, A2, A3, A4, A5, (modSeg re k f c n kp l tp le la td kt sh1 so had gr fi se to (p : Int) t d tl at_ sn him ik cu 0 st rm)])) (by rw [set_back (by omega)]) ?_
      refine aGo okX8_bitsFor 1 (f' := (55, [some (.inr 192), some (.inr 194), some (.inl (i : Int)), some (.inl 6), some (.inl (k.getD i 0)), some (.inl (bitsN 6 (fun (v : Nat) => tldB p (fun q => shr p (k.set i (v : Int)) f c t q) to))), some (.inl (6 : Int))], [.inl (bitsN 6 (fun (v : Nat) => tldB p (fun q => shr p (k.set i (v : Int)) f c t q) to))], _)) rfl ?_
      exact b_ret (v := (some (.inl (bitsN 6 (fun (v : Nat) => tldB p (fun q => shr p (k.set i (v : Int)) f c t q) to))))) ⟨rfl, Or.inl rfl⟩ ⟨rfl, sh1, x1, rfl⟩ rfl
    | succ j ih =>
      intro v cv sh1 hij x1
      have e6 := bits10_le (m := v) (by omega) (fun (v : Nat) => tldB p (fun q => shr p (k.set i (v : Int)) f c t q) to)
      refine aGo okX8_bitsFor 2 (f' := (14, [some (.inr 192), some (.inr 194), some (.inl (i : Int)), some (.inl 6), some (.inl (k.getD i 0)), some (.inl (bitsN v (fun (v : Nat) => tldB p (fun q => shr p (k.set i (v : Int)) f c t q) to))), some (.inl (v : Int))], [.inl 6, .inl (v : Int)], _)) rfl ?_
      refine b_ge (tgt := 48) okX8_bitsFor rfl rfl ⟨by omega, by omega⟩ ⟨by omega, by omega⟩ (fun h14 => absurd h14 (by omega)) (fun h14 => ?_)
      refine aGo okX8_bitsFor 3 (f' := (21, [some (.inr 192), some (.inr 194), some (.inl (i : Int)), some (.inl 6), some (.inl (k.getD i 0)), some (.inl (bitsN v (fun (v : Nat) => tldB p (fun q => shr p (k.set i (v : Int)) f c t q) to))), some (.inl (v : Int))], [.inl (v : Int), .inl (i : Int), .inr 194], _)) rfl ?_
      refine b_ast (k := 194) (j := i) (a := (k.set i cv)) okX8_bitsFor rfl rfl (by omega) (by rw [List.length_set]; omega) (by omega) ?_
      refine b_cast (f' := (22, [some (.inr 192), some (.inr 194), some (.inl (i : Int)), some (.inl 6), some (.inl (k.getD i 0)), some (.inl (bitsN v (fun (v : Nat) => tldB p (fun q => shr p (k.set i (v : Int)) f c t q) to))), some (.inl (v : Int))], [], [A0, A1, A2, A3, A4, A5, (modSeg re ((k.set i cv).set i (v : Int)) f c n kp l tp le la td kt sh1 so had gr fi se to (p : Int) t d tl at_ sn him ik cu 0 st rm)])) rfl ?_
      refine b_cast (f' := (22, [some (.inr 192), some (.inr 194), some (.inl (i : Int)), some (.inl 6), some (.inl (k.getD i 0)), some (.inl (bitsN v (fun (v : Nat) => tldB p (fun q => shr p (k.set i (v : Int)) f c t q) to))), some (.inl (v : Int))], [], [A0, A1, A2, A3, A4, A5, (modSeg re (k.set i (v : Int)) f c n kp l tp le la td kt sh1 so had gr fi se to (p : Int) t d tl at_ sn him ik cu 0 st rm)])) (by rw [List.set_set]) ?_
      refine aGo okX8_bitsFor 2 (f' := (25, [some (.inr 192), some (.inr 194), some (.inl (i : Int)), some (.inl 6), some (.inl (k.getD i 0)), some (.inl (bitsN v (fun (v : Nat) => tldB p (fun q => shr p (k.set i (v : Int)) f c t q) to))), some (.inl (v : Int))], [.inr 192, .inl (bitsN v (fun (v : Nat) => tldB p (fun q => shr p (k.set i (v : Int)) f c t q) to))], _)) rfl ?_
      by_cases hc25 : tldB p (fun q => shr p (k.set i (v : Int)) f c t q) to = true
      · refine b_vE (as := []) (rest := [.inl (bitsN v (fun (v : Nat) => tldB p (fun q => shr p (k.set i (v : Int)) f c t q) to))]) (k := 192) okX8_bitsFor rfl lkX8_277 caX8_isSo (Nat.le_of_ble_eq_true rfl) rfl (Nat.le_of_ble_eq_true rfl) rfl rfl rfl (c_isSo_t (bOK_ks hb (v := (v : Int)) (by omega) (by omega)) x1 hp6 hto rto hc25) ?_
        rintro _ _ ⟨rfl, sh2, lsh2, rfl⟩
        refine b0_eq (tgt := 38) okX8_bitsFor rfl rfl ⟨by omega, by omega⟩ (fun h28 => absurd h28 (by omega)) (fun h28 => ?_)
        refine aGo okX8_bitsFor 8 (f' := (11, [some (.inr 192), some (.inr 194), some (.inl (i : Int)), some (.inl 6), some (.inl (k.getD i 0)), some (.inl (aOr (bitsN v (fun (v : Nat) => tldB p (fun q => shr p (k.set i (v : Int)) f c t q) to)) (aShl 1 (v : Int)))), some (.inl ((v : Int) + 1))], [], _)) rfl ?_
        refine b_cast (f' := (11, [some (.inr 192), some (.inr 194), some (.inl (i : Int)), some (.inl 6), some (.inl (k.getD i 0)), some (.inl (bitsN (v + 1) (fun (v : Nat) => tldB p (fun q => shr p (k.set i (v : Int)) f c t q) to))), some (.inl ((v : Int) + 1))], [], [A0, A1, A2, A3, A4, A5, (modSeg re (k.set i (v : Int)) f c n kp l tp le la td kt sh2 so had gr fi se to (p : Int) t d tl at_ sn him ik cu 0 st rm)])) (congrArg (fun q : Int => ((11, [some (.inr 192), some (.inr 194), some (.inl (i : Int)), some (.inl 6), some (.inl (k.getD i 0)), some (.inl q), some (.inl ((v : Int) + 1))], [], [A0, A1, A2, A3, A4, A5, (modSeg re (k.set i (v : Int)) f c n kp l tp le la td kt sh2 so had gr fi se to (p : Int) t d tl at_ sn him ik cu 0 st rm)]) : aF)) ((bitsN_t (P := (fun (v : Nat) => tldB p (fun q => shr p (k.set i (v : Int)) f c t q) to)) hc25).symm)) ?_
        exact ih (v + 1) _ _ (by omega) lsh2
      · refine b_vE (as := []) (rest := [.inl (bitsN v (fun (v : Nat) => tldB p (fun q => shr p (k.set i (v : Int)) f c t q) to))]) (k := 192) okX8_bitsFor rfl lkX8_277 caX8_isSo (Nat.le_of_ble_eq_true rfl) rfl (Nat.le_of_ble_eq_true rfl) rfl rfl rfl (c_isSo_f (bOK_ks hb (v := (v : Int)) (by omega) (by omega)) x1 hp6 hto rto (by cases hq : tldB p (fun q => shr p (k.set i (v : Int)) f c t q) to with | true => exact absurd hq hc25 | false => rfl)) ?_
        rintro _ _ ⟨rfl, sh2, lsh2, rfl⟩
        refine b0_eq (tgt := 38) okX8_bitsFor rfl rfl ⟨by omega, by omega⟩ (fun h28 => ?_) (fun h28 => absurd h28 (by omega))
        refine aGo okX8_bitsFor 5 (f' := (11, [some (.inr 192), some (.inr 194), some (.inl (i : Int)), some (.inl 6), some (.inl (k.getD i 0)), some (.inl (aOr (bitsN v (fun (v : Nat) => tldB p (fun q => shr p (k.set i (v : Int)) f c t q) to)) 0)), some (.inl ((v : Int) + 1))], [], _)) rfl ?_
        refine b_cast (f' := (11, [some (.inr 192), some (.inr 194), some (.inl (i : Int)), some (.inl 6), some (.inl (k.getD i 0)), some (.inl (bitsN (v + 1) (fun (v : Nat) => tldB p (fun q => shr p (k.set i (v : Int)) f c t q) to))), some (.inl ((v : Int) + 1))], [], [A0, A1, A2, A3, A4, A5, (modSeg re (k.set i (v : Int)) f c n kp l tp le la td kt sh2 so had gr fi se to (p : Int) t d tl at_ sn him ik cu 0 st rm)])) (congrArg (fun q : Int => ((11, [some (.inr 192), some (.inr 194), some (.inl (i : Int)), some (.inl 6), some (.inl (k.getD i 0)), some (.inl q), some (.inl ((v : Int) + 1))], [], [A0, A1, A2, A3, A4, A5, (modSeg re (k.set i (v : Int)) f c n kp l tp le la td kt sh2 so had gr fi se to (p : Int) t d tl at_ sn him ik cu 0 st rm)]) : aF)) (((aOr_0 ⟨by omega, by omega⟩).trans (bitsN_f (P := (fun (v : Nat) => tldB p (fun q => shr p (k.set i (v : Int)) f c t q) to)) (show tldB p (fun q => shr p (k.set i (v : Int)) f c t q) to = false by cases hq : tldB p (fun q => shr p (k.set i (v : Int)) f c t q) to with | true => exact absurd hq hc25 | false => rfl)).symm))) ?_
        exact ih (v + 1) _ _ (by omega) lsh2
  have lp0 := lp 6 0 (k.getD i 0) sh (by omega) hsh
  rw [set_self (by omega)] at lp0
  exact lp0
theorem bOK_fs {p : Nat} {k f c n kp l : List Int} {t d : Int} (h : bOK p k f c n kp l t d) {i : Nat} {v : Int} (h0 : 0 ≤ v) (h1 : v ≤ 9) : bOK p k (f.set i v) c n kp l t d := by
  obtain ⟨hp7, hk, hf, hc, hn, hkp, hl, rk, rf, rc, rn, rkp, rl, ht0, ht1, hd0, hd1⟩ := h
  exact ⟨hp7, hk, by rw [List.length_set]; exact hf, hc, hn, hkp, hl, rk, rng_set rf h0 h1, rc, rn, rkp, rl, ht0, ht1, hd0, hd1⟩
set_option maxRecDepth 100000 in
set_option maxHeartbeats 4000000 in
theorem c_bitsFor_f (hb : bOK p k f c n kp l t d) (hp6 : p ≤ 6) (hsh : sh.length = 7) (hto : to.length = 12) (rto : rng to 99) {i : Nat} (hi : i < 7) : aEv mX8_bitsFor 7 0 0 N [.inr 192, .inr 195, .inl (i : Int), .inl 10] [A0, A1, A2, A3, A4, A5, (modSeg re k f c n kp l tp le la td kt sh so had gr fi se to (p : Int) t d tl at_ sn him ik cu 0 st rm)] ((fun rv h => rv = some (.inl (bitsN 10 (fun (v : Nat) => tldB p (fun q => shr p k (f.set i (v : Int)) c t q) to))) ∧ ∃ sh2 : List Int, sh2.length = 7 ∧ h = [A0, A1, A2, A3, A4, A5, (modSeg re k f c n kp l tp le la td kt sh2 so had gr fi se to (p : Int) t d tl at_ sn him ik cu 0 st rm)])) := by
  obtain ⟨hp7, hk, hf, hc, hn, hkp, hl, rk, rf, rc, rn, rkp, rl, ht0, ht1, hd0, hd1⟩ := id hb
  refine aEv_of okX8_bitsFor caX8_bitsFor (Nat.le_of_ble_eq_true rfl) ?_
  refine aGo okX8_bitsFor 2 (f' := (2, [some (.inr 192), some (.inr 195), some (.inl (i : Int)), some (.inl 10), none, none, none], [.inl (i : Int), .inr 195], _)) rfl ?_
  refine b_ald (k := 195) (j := i) (a := f) okX8_bitsFor rfl rfl (by omega) (by omega) (by omega) ?_
  refine aGo okX8_bitsFor 5 (f' := (11, [some (.inr 192), some (.inr 195), some (.inl (i : Int)), some (.inl 10), some (.inl (f.getD i 0)), some (.inl 0), some (.inl 0)], [], _)) rfl ?_
  have lp : ∀ (j v : Nat) (cv : Int) (sh1 : List Int), v + j = 10 → (sh1.length = 7) → AW mX8_bitsFor 7 0 0 N none (fun rv h => rv = some (.inl (bitsN 10 (fun (v : Nat) => tldB p (fun q => shr p k (f.set i (v : Int)) c t q) to))) ∧ ∃ sh2 : List Int, sh2.length = 7 ∧ h = [A0, A1, A2, A3, A4, A5, (modSeg re k f c n kp l tp le la td kt sh2 so had gr fi se to (p : Int) t d tl at_ sn him ik cu 0 st rm)]) (11, [some (.inr 192), some (.inr 195), some (.inl (i : Int)), some (.inl 10), some (.inl (f.getD i 0)), some (.inl (bitsN v (fun (v : Nat) => tldB p (fun q => shr p k (f.set i (v : Int)) c t q) to))), some (.inl (v : Int))], [], [A0, A1, A2, A3, A4, A5, (modSeg re k (f.set i cv) c n kp l tp le la td kt sh1 so had gr fi se to (p : Int) t d tl at_ sn him ik cu 0 st rm)]) := by
    intro j
    induction j with
    | zero =>
      intro v cv sh1 hij x1
      obtain rfl : 10 = v := by omega
      refine aGo okX8_bitsFor 2 (f' := (14, [some (.inr 192), some (.inr 195), some (.inl (i : Int)), some (.inl 10), some (.inl (f.getD i 0)), some (.inl (bitsN 10 (fun (v : Nat) => tldB p (fun q => shr p k (f.set i (v : Int)) c t q) to))), some (.inl (10 : Int))], [.inl 10, .inl (10 : Int)], _)) rfl ?_
      refine b_ge (tgt := 48) okX8_bitsFor rfl rfl ⟨by omega, by omega⟩ ⟨by omega, by omega⟩ (fun h14 => ?_) (fun h14 => absurd h14 (by omega))
      refine aGo okX8_bitsFor 3 (f' := (52, [some (.inr 192), some (.inr 195), some (.inl (i : Int)), some (.inl 10), some (.inl (f.getD i 0)), some (.inl (bitsN 10 (fun (v : Nat) => tldB p (fun q => shr p k (f.set i (v : Int)) c t q) to))), some (.inl (10 : Int))], [.inl (f.getD i 0), .inl (i : Int), .inr 195], _)) rfl ?_
      refine b_ast (k := 195) (j := i) (a := (f.set i cv)) okX8_bitsFor rfl rfl (by omega) (by rw [List.length_set]; omega) (by omega) ?_
      refine b_cast (f' := (53, [some (.inr 192), some (.inr 195), some (.inl (i : Int)), some (.inl 10), some (.inl (f.getD i 0)), some (.inl (bitsN 10 (fun (v : Nat) => tldB p (fun q => shr p k (f.set i (v : Int)) c t q) to))), some (.inl (10 : Int))], [], [A0, A1, A2, A3, A4, A5, (modSeg re k ((f.set i cv).set i (f.getD i 0)) c n kp l tp le la td kt sh1 so had gr fi se to (p : Int) t d tl at_ sn him ik cu 0 st rm)])) rfl ?_
      refine b_cast (f' := (53, [some (.inr 192), some (.inr 195), some (.inl (i : Int)), some (.inl 10), some (.inl (f.getD i 0)), some (.inl (bitsN 10 (fun (v : Nat) => tldB p (fun q => shr p k (f.set i (v : Int)) c t q) to))), some (.inl (10 : Int))], [], [A0, A1, A2, A3, A4, A5, (modSeg re k f c n kp l tp le la td kt sh1 so had gr fi se to (p : Int) t d tl at_ sn him ik cu 0 st rm)])) (by rw [set_back (by omega)]) ?_
      refine aGo okX8_bitsFor 1 (f' := (55, [some (.inr 192), some (.inr 195), some (.inl (i : Int)), some (.inl 10), some (.inl (f.getD i 0)), some (.inl (bitsN 10 (fun (v : Nat) => tldB p (fun q => shr p k (f.set i (v : Int)) c t q) to))), some (.inl (10 : Int))], [.inl (bitsN 10 (fun (v : Nat) => tldB p (fun q => shr p k (f.set i (v : Int)) c t q) to))], _)) rfl ?_
      exact b_ret (v := (some (.inl (bitsN 10 (fun (v : Nat) => tldB p (fun q => shr p k (f.set i (v : Int)) c t q) to))))) ⟨rfl, Or.inl rfl⟩ ⟨rfl, sh1, x1, rfl⟩ rfl
    | succ j ih =>
      intro v cv sh1 hij x1
      have e6 := bits10_le (m := v) (by omega) (fun (v : Nat) => tldB p (fun q => shr p k (f.set i (v : Int)) c t q) to)
      refine aGo okX8_bitsFor 2 (f' := (14, [some (.inr 192), some (.inr 195), some (.inl (i : Int)), some (.inl 10), some (.inl (f.getD i 0)), some (.inl (bitsN v (fun (v : Nat) => tldB p (fun q => shr p k (f.set i (v : Int)) c t q) to))), some (.inl (v : Int))], [.inl 10, .inl (v : Int)], _)) rfl ?_
      refine b_ge (tgt := 48) okX8_bitsFor rfl rfl ⟨by omega, by omega⟩ ⟨by omega, by omega⟩ (fun h14 => absurd h14 (by omega)) (fun h14 => ?_)
      refine aGo okX8_bitsFor 3 (f' := (21, [some (.inr 192), some (.inr 195), some (.inl (i : Int)), some (.inl 10), some (.inl (f.getD i 0)), some (.inl (bitsN v (fun (v : Nat) => tldB p (fun q => shr p k (f.set i (v : Int)) c t q) to))), some (.inl (v : Int))], [.inl (v : Int), .inl (i : Int), .inr 195], _)) rfl ?_
      refine b_ast (k := 195) (j := i) (a := (f.set i cv)) okX8_bitsFor rfl rfl (by omega) (by rw [List.length_set]; omega) (by omega) ?_
      refine b_cast (f' := (22, [some (.inr 192), some (.inr 195), some (.inl (i : Int)), some (.inl 10), some (.inl (f.getD i 0)), some (.inl (bitsN v (fun (v : Nat) => tldB p (fun q => shr p k (f.set i (v : Int)) c t q) to))), some (.inl (v : Int))], [], [A0, A1, A2, A3, A4, A5, (modSeg re k ((f.set i cv).set i (v : Int)) c n kp l tp le la td kt sh1 so had gr fi se to (p : Int) t d tl at_ sn him ik cu 0 st rm)])) rfl ?_
      refine b_cast (f' := (22, [some (.inr 192), some (.inr 195), some (.inl (i : Int)), some (.inl 10), some (.inl (f.getD i 0)), some (.inl (bitsN v (fun (v : Nat) => tldB p (fun q => shr p k (f.set i (v : Int)) c t q) to))), some (.inl (v : Int))], [], [A0, A1, A2, A3, A4, A5, (modSeg re k (f.set i (v : Int)) c n kp l tp le la td kt sh1 so had gr fi se to (p : Int) t d tl at_ sn him ik cu 0 st rm)])) (by rw [List.set_set]) ?_
      refine aGo okX8_bitsFor 2 (f' := (25, [some (.inr 192), some (.inr 195), some (.inl (i : Int)), some (.inl 10), some (.inl (f.getD i 0)), some (.inl (bitsN v (fun (v : Nat) => tldB p (fun q => shr p k (f.set i (v : Int)) c t q) to))), some (.inl (v : Int))], [.inr 192, .inl (bitsN v (fun (v : Nat) => tldB p (fun q => shr p k (f.set i (v : Int)) c t q) to))], _)) rfl ?_
      by_cases hc25 : tldB p (fun q => shr p k (f.set i (v : Int)) c t q) to = true
      · refine b_vE (as := []) (rest := [.inl (bitsN v (fun (v : Nat) => tldB p (fun q => shr p k (f.set i (v : Int)) c t q) to))]) (k := 192) okX8_bitsFor rfl lkX8_277 caX8_isSo (Nat.le_of_ble_eq_true rfl) rfl (Nat.le_of_ble_eq_true rfl) rfl rfl rfl (c_isSo_t (bOK_fs hb (v := (v : Int)) (by omega) (by omega)) x1 hp6 hto rto hc25) ?_
        rintro _ _ ⟨rfl, sh2, lsh2, rfl⟩
        refine b0_eq (tgt := 38) okX8_bitsFor rfl rfl ⟨by omega, by omega⟩ (fun h28 => absurd h28 (by omega)) (fun h28 => ?_)
        refine aGo okX8_bitsFor 8 (f' := (11, [some (.inr 192), some (.inr 195), some (.inl (i : Int)), some (.inl 10), some (.inl (f.getD i 0)), some (.inl (aOr (bitsN v (fun (v : Nat) => tldB p (fun q => shr p k (f.set i (v : Int)) c t q) to)) (aShl 1 (v : Int)))), some (.inl ((v : Int) + 1))], [], _)) rfl ?_
        refine b_cast (f' := (11, [some (.inr 192), some (.inr 195), some (.inl (i : Int)), some (.inl 10), some (.inl (f.getD i 0)), some (.inl (bitsN (v + 1) (fun (v : Nat) => tldB p (fun q => shr p k (f.set i (v : Int)) c t q) to))), some (.inl ((v : Int) + 1))], [], [A0, A1, A2, A3, A4, A5, (modSeg re k (f.set i (v : Int)) c n kp l tp le la td kt sh2 so had gr fi se to (p : Int) t d tl at_ sn him ik cu 0 st rm)])) (congrArg (fun q : Int => ((11, [some (.inr 192), some (.inr 195), some (.inl (i : Int)), some (.inl 10), some (.inl (f.getD i 0)), some (.inl q), some (.inl ((v : Int) + 1))], [], [A0, A1, A2, A3, A4, A5, (modSeg re k (f.set i (v : Int)) c n kp l tp le la td kt sh2 so had gr fi se to (p : Int) t d tl at_ sn him ik cu 0 st rm)]) : aF)) ((bitsN_t (P := (fun (v : Nat) => tldB p (fun q => shr p k (f.set i (v : Int)) c t q) to)) hc25).symm)) ?_
        exact ih (v + 1) _ _ (by omega) lsh2
      · refine b_vE (as := []) (rest := [.inl (bitsN v (fun (v : Nat) => tldB p (fun q => shr p k (f.set i (v : Int)) c t q) to))]) (k := 192) okX8_bitsFor rfl lkX8_277 caX8_isSo (Nat.le_of_ble_eq_true rfl) rfl (Nat.le_of_ble_eq_true rfl) rfl rfl rfl (c_isSo_f (bOK_fs hb (v := (v : Int)) (by omega) (by omega)) x1 hp6 hto rto (by cases hq : tldB p (fun q => shr p k (f.set i (v : Int)) c t q) to with | true => exact absurd hq hc25 | false => rfl)) ?_
        rintro _ _ ⟨rfl, sh2, lsh2, rfl⟩
        refine b0_eq (tgt := 38) okX8_bitsFor rfl rfl ⟨by omega, by omega⟩ (fun h28 => ?_) (fun h28 => absurd h28 (by omega))
        refine aGo okX8_bitsFor 5 (f' := (11, [some (.inr 192), some (.inr 195), some (.inl (i : Int)), some (.inl 10), some (.inl (f.getD i 0)), some (.inl (aOr (bitsN v (fun (v : Nat) => tldB p (fun q => shr p k (f.set i (v : Int)) c t q) to)) 0)), some (.inl ((v : Int) + 1))], [], _)) rfl ?_
        refine b_cast (f' := (11, [some (.inr 192), some (.inr 195), some (.inl (i : Int)), some (.inl 10), some (.inl (f.getD i 0)), some (.inl (bitsN (v + 1) (fun (v : Nat) => tldB p (fun q => shr p k (f.set i (v : Int)) c t q) to))), some (.inl ((v : Int) + 1))], [], [A0, A1, A2, A3, A4, A5, (modSeg re k (f.set i (v : Int)) c n kp l tp le la td kt sh2 so had gr fi se to (p : Int) t d tl at_ sn him ik cu 0 st rm)])) (congrArg (fun q : Int => ((11, [some (.inr 192), some (.inr 195), some (.inl (i : Int)), some (.inl 10), some (.inl (f.getD i 0)), some (.inl q), some (.inl ((v : Int) + 1))], [], [A0, A1, A2, A3, A4, A5, (modSeg re k (f.set i (v : Int)) c n kp l tp le la td kt sh2 so had gr fi se to (p : Int) t d tl at_ sn him ik cu 0 st rm)]) : aF)) (((aOr_0 ⟨by omega, by omega⟩).trans (bitsN_f (P := (fun (v : Nat) => tldB p (fun q => shr p k (f.set i (v : Int)) c t q) to)) (show tldB p (fun q => shr p k (f.set i (v : Int)) c t q) to = false by cases hq : tldB p (fun q => shr p k (f.set i (v : Int)) c t q) to with | true => exact absurd hq hc25 | false => rfl)).symm))) ?_
        exact ih (v + 1) _ _ (by omega) lsh2
  have lp0 := lp 10 0 (f.getD i 0) sh (by omega) hsh
  rw [set_self (by omega)] at lp0
  exact lp0
end AMH
set_option maxRecDepth 100000 in
set_option maxHeartbeats 4000000 in
theorem mk_whatIs {imt : Int} {tc : Nat} {k f c n kp l : List Int} {p : Nat} {t d : Int} {to re : List Int} {tl : Nat} {tp : List Int} {I : moT} {A0 A1 A2 A3 A4 A5 : List (Option aE)} {h : aH} {N : Nat} (hS : mSt imt tc k f c n kp l p t d to re tl tp I A0 A1 A2 A3 A4 A5 h) {i : Nat} {y : Int} (hi : i < p) (hy : 0 ≤ y ∧ y ≤ 1) (htcp : tc = p) : aEv mX8_whatIs 8 0 0 N [.inr 192, .inl (i : Int), .inl y] h (fun rv h2 => rv = some (.inl (if y = 0 then bitsN 6 (fun (v : Nat) => tldB p (fun q => shr p (k.set i (v : Int)) f c t q) to) else bitsN 10 (fun (v : Nat) => tldB p (fun q => shr p k (f.set i (v : Int)) c t q) to))) ∧ mSt imt tc k f c n kp l p t d to re tl tp I A0 A1 A2 A3 A4 A5 h2) := by
  obtain ⟨hp6, hd9, hax, hb, le, la, td, kt, sh, so, had, gr, fi, se, at_, sn, ik, cu, st, hml, him, rfl⟩ := hS
  obtain ⟨htp, rtp, htl9, hto, rto, htc, hre⟩ := id hax
  obtain ⟨hle, hla, htd, hkt, hsh, hso, hha, hgr, hfi, hse⟩ := id hml
  obtain ⟨hp7, hk, hf, hc, hn, hkp, hl, rk, rf, rc, rn, rkp, rl, ht0, ht1, hd0, hd1⟩ := id hb
  refine aEv_of okX8_whatIs caX8_whatIs (Nat.le_of_ble_eq_true rfl) ?_
  refine aGo okX8_whatIs 2 (f' := (2, [some (.inr 192), some (.inl (i : Int)), some (.inl y), none], [.inl (i : Int), .inr 192], _)) rfl ?_
  refine b_vV (as := [.inl (i : Int)]) (rest := []) (k := 192) (.inl 1) okX8_whatIs rfl lkX8_75 caX8_isOne (Nat.le_of_ble_eq_true rfl) rfl (Nat.le_of_ble_eq_true rfl) rfl rfl rfl (c_isOne_t hp7 ⟨by omega, by omega⟩) ?_
  refine b0_ne (tgt := 12) okX8_whatIs rfl rfl ⟨by omega, by omega⟩ (fun h5 => ?_) (fun h5 => absurd h5 (by omega))
  refine aGo okX8_whatIs 3 (f' := (15, [some (.inr 192), some (.inl (i : Int)), some (.inl y), none], [.inl 1, .inl 0, .inl y], _)) rfl ?_
  refine b_vS (as := [.inl y, .inl 0, .inl 1]) (rest := []) (.inl 1) okX8_whatIs rfl lkX8_97 caX8_isIn (Nat.le_of_ble_eq_true rfl) rfl (Nat.le_of_ble_eq_true rfl) rfl (c_isIn_t ⟨by omega, by omega⟩ ⟨by omega, by omega⟩ ⟨by omega, by omega⟩ ⟨by omega, by omega⟩) ?_
  refine b0_ne (tgt := 26) okX8_whatIs rfl rfl ⟨by omega, by omega⟩ (fun h18 => ?_) (fun h18 => absurd h18 (by omega))
  refine aGo okX8_whatIs 4 (f' := (34, [some (.inr 192), some (.inl (i : Int)), some (.inl y), none], [.inl (p : Int), .inl (tc : Int)], _)) rfl ?_
  refine b_eq (tgt := 42) okX8_whatIs rfl rfl ⟨by omega, by omega⟩ ⟨by omega, by omega⟩ (fun h34 => ?_) (fun h34 => ?_)
  · refine aGo okX8_whatIs 3 (f' := (45, [some (.inr 192), some (.inl (i : Int)), some (.inl y), some (.inl 0)], [.inl 0], _)) rfl ?_
    refine b0_eq (tgt := 54) okX8_whatIs rfl rfl ⟨by omega, by omega⟩ (fun h45 => ?_) (fun h45 => absurd h45 (by omega))
    refine aGo okX8_whatIs 1 (f' := (55, [some (.inr 192), some (.inl (i : Int)), some (.inl y), some (.inl 0)], [.inl y], _)) rfl ?_
    refine b0_ne (tgt := 72) okX8_whatIs rfl rfl ⟨by omega, by omega⟩ (fun h55 => ?_) (fun h55 => ?_)
    · refine aGo okX8_whatIs 5 (f' := (80, [some (.inr 192), some (.inl (i : Int)), some (.inl y), some (.inl 0)], [.inl 10, .inl (i : Int), .inr 195, .inr 192], _)) rfl ?_
      refine b_vE (as := [.inr 195, .inl (i : Int), .inl 10]) (rest := []) (k := 192) okX8_whatIs rfl lkX8_283 caX8_bitsFor (Nat.le_of_ble_eq_true rfl) rfl (Nat.le_of_ble_eq_true rfl) rfl rfl rfl (c_bitsFor_f hb hp6 hsh hto rto (i := i) (by omega)) ?_
      rintro _ _ ⟨rfl, sh2, lsh2, rfl⟩
      exact b_ret (v := (some (.inl (bitsN 10 (fun (v : Nat) => tldB p (fun q => shr p k (f.set i (v : Int)) c t q) to))))) ⟨rfl, Or.inl rfl⟩ ⟨congrArg (fun q : Int => (some (.inl q) : Option aV)) ((if_neg (by omega)).symm), mSt_of hp6 hd9 hax (hb) ⟨hle, hla, htd, hkt, lsh2, hso, hha, hgr, hfi, hse⟩ (him)⟩ rfl
    · refine aGo okX8_whatIs 5 (f' := (66, [some (.inr 192), some (.inl (i : Int)), some (.inl y), some (.inl 0)], [.inl 6, .inl (i : Int), .inr 194, .inr 192], _)) rfl ?_
      refine b_vE (as := [.inr 194, .inl (i : Int), .inl 6]) (rest := []) (k := 192) okX8_whatIs rfl lkX8_283 caX8_bitsFor (Nat.le_of_ble_eq_true rfl) rfl (Nat.le_of_ble_eq_true rfl) rfl rfl rfl (c_bitsFor_k hb hp6 hsh hto rto (i := i) (by omega)) ?_
      rintro _ _ ⟨rfl, sh2, lsh2, rfl⟩
      refine aGo okX8_whatIs 1 (f' := (83, [some (.inr 192), some (.inl (i : Int)), some (.inl y), some (.inl 0)], [.inl (bitsN 6 (fun (v : Nat) => tldB p (fun q => shr p (k.set i (v : Int)) f c t q) to))], _)) rfl ?_
      exact b_ret (v := (some (.inl (bitsN 6 (fun (v : Nat) => tldB p (fun q => shr p (k.set i (v : Int)) f c t q) to))))) ⟨rfl, Or.inl rfl⟩ ⟨congrArg (fun q : Int => (some (.inl q) : Option aV)) ((if_pos (by omega)).symm), mSt_of hp6 hd9 hax (hb) ⟨hle, hla, htd, hkt, lsh2, hso, hha, hgr, hfi, hse⟩ (him)⟩ rfl
  · refine aGo okX8_whatIs 4 (f' := (45, [some (.inr 192), some (.inl (i : Int)), some (.inl y), some (.inl (-3))], [.inl (-3)], _)) rfl ?_
    refine b0_eq (tgt := 54) okX8_whatIs rfl rfl ⟨by omega, by omega⟩ (fun h45 => absurd h45 (by omega)) (fun h45 => ?_)
    refine aGo okX8_whatIs 2 (f' := (50, [some (.inr 192), some (.inl (i : Int)), some (.inl y), some (.inl (-3))], [.inl (-3), .inr 192], _)) rfl ?_
    exfalso; omega
set_option maxRecDepth 100000 in
set_option maxHeartbeats 4000000 in
theorem mk_judge {imt : Int} {tc : Nat} {k f c n kp l : List Int} {p : Nat} {t d : Int} {to re : List Int} {tl : Nat} {tp : List Int} {I : moT} {A0 A1 A2 A3 A4 A5 : List (Option aE)} {h : aH} {N : Nat} (hS : mSt imt tc k f c n kp l p t d to re tl tp I A0 A1 A2 A3 A4 A5 h) {i : Nat} (hi : i < p) : aEv mX8_judge 7 0 0 N [.inr 192, .inl (i : Int)] h (fun rv h2 => rv = some (.inl (firstQ (fun j => !decide (min ((dayIt p (hasM p k f c l t) n j kp).getD i 0) 99 = to.getD j 0)) tc 0)) ∧ mSt imt 0 k f c n kp l p t d to re tl tp I A0 A1 A2 A3 A4 A5 h2) := by
  obtain ⟨hp6, hd9, hax, hb, le, la, td, kt, sh, so, had, gr, fi, se, at_, sn, ik, cu, st, hml, him, rfl⟩ := hS
  obtain ⟨htp, rtp, htl9, hto, rto, htc, hre⟩ := id hax
  obtain ⟨hle, hla, htd, hkt, hsh, hso, hha, hgr, hfi, hse⟩ := id hml
  obtain ⟨hp7, hk, hf, hc, hn, hkp, hl, rk, rf, rc, rn, rkp, rl, ht0, ht1, hd0, hd1⟩ := id hb
  refine aEv_of okX8_judge caX8_judge (Nat.le_of_ble_eq_true rfl) ?_
  refine aGo okX8_judge 2 (f' := (2, [some (.inr 192), some (.inl (i : Int)), none, none, none], [.inl (i : Int), .inr 192], _)) rfl ?_
  refine b_vV (as := [.inl (i : Int)]) (rest := []) (k := 192) (.inl 1) okX8_judge rfl lkX8_75 caX8_isOne (Nat.le_of_ble_eq_true rfl) rfl (Nat.le_of_ble_eq_true rfl) rfl rfl rfl (c_isOne_t hp7 ⟨by omega, by omega⟩) ?_
  refine b0_ne (tgt := 14) okX8_judge rfl rfl ⟨by omega, by omega⟩ (fun h5 => ?_) (fun h5 => absurd h5 (by omega))
  refine aGo okX8_judge 7 (f' := (25, [some (.inr 192), some (.inl (i : Int)), some (.inl (tc : Int)), none, none], [.inr 192], [A0, A1, A2, A3, A4, A5, (modSeg re k f c n kp l tp le la td kt sh so had gr fi se to (p : Int) t d (tl : Int) at_ sn imt ik cu 0 st 0)])) rfl ?_
  refine b_vE (as := []) (rest := []) (k := 192) okX8_judge rfl lkX8_214 caX8_thinks (Nat.le_of_ble_eq_true rfl) rfl (Nat.le_of_ble_eq_true rfl) rfl rfl rfl (c_thinks hb hkt) ?_
  rintro _ _ ⟨rfl, kt2, hkt2, hh2, he2, rfl⟩
  refine aGo okX8_judge 4 (f' := (34, [some (.inr 192), some (.inl (i : Int)), some (.inl (tc : Int)), some (.inl (-9)), some (.inl 0)], [], _)) rfl ?_
  have lp : ∀ (jn v : Nat) (so1 : List Int) (sh1 : List Int) (st1 : Int), v + jn = tc → (so1.length = 7) → (sh1.length = 7) → (firstQ (fun j => !decide (min ((dayIt p (hasM p k f c l t) n j kp).getD i 0) 99 = to.getD j 0)) tc 0 = firstQ (fun j => !decide (min ((dayIt p (hasM p k f c l t) n j kp).getD i 0) 99 = to.getD j 0)) jn v) → AW mX8_judge 7 0 0 N none (fun rv h2 => rv = some (.inl (firstQ (fun j => !decide (min ((dayIt p (hasM p k f c l t) n j kp).getD i 0) 99 = to.getD j 0)) tc 0)) ∧ mSt imt 0 k f c n kp l p t d to re tl tp I A0 A1 A2 A3 A4 A5 h2) (34, [some (.inr 192), some (.inl (i : Int)), some (.inl (tc : Int)), some (.inl (-9)), some (.inl (v : Int))], [], [A0, A1, A2, A3, A4, A5, (modSeg re k f c n (dayIt p (hasM p k f c l t) n v kp) l tp le la td kt2 sh1 so1 had gr fi se to (p : Int) t (d + (v : Int)) (tl : Int) at_ sn imt 1 267 0 st1 0)]) := by
    intro jn
    induction jn with
    | zero =>
      intro v so1 sh1 st1 hij x1 x3 x4
      obtain rfl : tc = v := by omega
      refine aGo okX8_judge 2 (f' := (37, [some (.inr 192), some (.inl (i : Int)), some (.inl (tc : Int)), some (.inl (-9)), some (.inl (tc : Int))], [.inl (tc : Int), .inl (tc : Int)], _)) rfl ?_
      refine b_ge (tgt := 85) okX8_judge rfl rfl ⟨by omega, by omega⟩ ⟨by omega, by omega⟩ (fun h37 => ?_) (fun h37 => absurd h37 (by omega))
      refine aGo okX8_judge 1 (f' := (86, [some (.inr 192), some (.inl (i : Int)), some (.inl (tc : Int)), some (.inl (-9)), some (.inl (tc : Int))], [.inr 192], _)) rfl ?_
      refine b_vE (as := []) (rest := []) (k := 192) okX8_judge rfl lkX8_220 caX8_forgets (Nat.le_of_ble_eq_true rfl) rfl (Nat.le_of_ble_eq_true rfl) rfl rfl rfl (c_forgets hk hf hc hn (by rw [dayIt_len]; exact hkp) hl hk hf hc hn hkp hl hkt2 hh2) ?_
      rintro _ _ ⟨rfl, rfl⟩
      refine aGo okX8_judge 1 (f' := (90, [some (.inr 192), some (.inl (i : Int)), some (.inl (tc : Int)), some (.inl (-9)), some (.inl (tc : Int))], [.inl (-9)], _)) rfl ?_
      exact b_ret (v := (some (.inl (-9)))) ⟨rfl, Or.inl rfl⟩ ⟨congrArg (fun q : Int => (some (.inl q) : Option aV)) (by rw [x4]; rfl), mSt_of hp6 hd9 ⟨htp, rtp, htl9, hto, rto, by omega, hre⟩ (hb) ⟨hle, hla, htd, hkt2, x3, x1, hha, hgr, hfi, hse⟩ (mim_of him (fun j hj => he2 j (by omega)))⟩ rfl
    | succ jn ih =>
      intro v so1 sh1 st1 hij x1 x3 x4
      have e1 := dayIt_rng (p := p) (has := (hasM p k f c l t)) (n := n) (m := v) rkp i
      have e2 := rto v
      have e3 : (dayIt p (hasM p k f c l t) n v kp).length = 7 := by rw [dayIt_len]; exact hkp
      refine aGo okX8_judge 2 (f' := (37, [some (.inr 192), some (.inl (i : Int)), some (.inl (tc : Int)), some (.inl (-9)), some (.inl (v : Int))], [.inl (tc : Int), .inl (v : Int)], _)) rfl ?_
      refine b_ge (tgt := 85) okX8_judge rfl rfl ⟨by omega, by omega⟩ ⟨by omega, by omega⟩ (fun h37 => absurd h37 (by omega)) (fun h37 => ?_)
      refine aGo okX8_judge 1 (f' := (41, [some (.inr 192), some (.inl (i : Int)), some (.inl (tc : Int)), some (.inl (-9)), some (.inl (v : Int))], [.inl (-9)], _)) rfl ?_
      refine b0_ge (tgt := 85) okX8_judge rfl rfl ⟨by omega, by omega⟩ (fun h41 => absurd h41 (by omega)) (fun h41 => ?_)
      refine aGo okX8_judge 3 (f' := (49, [some (.inr 192), some (.inl (i : Int)), some (.inl (tc : Int)), some (.inl (-9)), some (.inl (v : Int))], [.inl (i : Int), .inr 198], _)) rfl ?_
      refine b_ald (k := 198) (j := i) (a := (dayIt p (hasM p k f c l t) n v kp)) okX8_judge rfl rfl (by omega) (by omega) (by omega) ?_
      refine b_vS (as := [.inl ((dayIt p (hasM p k f c l t) n v kp).getD i 0)]) (rest := []) (.inl (min ((dayIt p (hasM p k f c l t) n v kp).getD i 0) 99)) okX8_judge rfl lkX8_274 caX8_cut (Nat.le_of_ble_eq_true rfl) rfl (Nat.le_of_ble_eq_true rfl) rfl (c_mCut ⟨by omega, by omega⟩) ?_
      refine aGo okX8_judge 3 (f' := (59, [some (.inr 192), some (.inl (i : Int)), some (.inl (tc : Int)), some (.inl (-9)), some (.inl (v : Int))], [.inl (v : Int), .inr 211, .inl (min ((dayIt p (hasM p k f c l t) n v kp).getD i 0) 99)], _)) rfl ?_
      refine b_ald (k := 211) (j := v) (a := to) okX8_judge rfl rfl (by omega) (by omega) (by omega) ?_
      refine b_ne (tgt := 68) okX8_judge rfl rfl ⟨by omega, by omega⟩ ⟨by omega, by omega⟩ (fun h60 => ?_) (fun h60 => ?_)
      · refine aGo okX8_judge 5 (f' := (76, [some (.inr 192), some (.inl (i : Int)), some (.inl (tc : Int)), some (.inl (v : Int)), some (.inl (v : Int))], [.inl (-9), .inl (-9), .inr 192], _)) rfl ?_
        refine b_vE (as := [.inl (-9), .inl (-9)]) (rest := []) (k := 192) okX8_judge rfl lkX8_127 caX8_goesDay (Nat.le_of_ble_eq_true rfl) rfl (Nat.le_of_ble_eq_true rfl) rfl rfl rfl (c_goesDay (bOK_it hb _ (by omega)) x3 x1) ?_
        rintro _ _ ⟨rfl, sh3, lsh3, rfl⟩
        refine aGo okX8_judge 2 (f' := (34, [some (.inr 192), some (.inl (i : Int)), some (.inl (tc : Int)), some (.inl (v : Int)), some (.inl ((v : Int) + 1))], [], _)) rfl ?_
        refine aGo okX8_judge 2 (f' := (37, [some (.inr 192), some (.inl (i : Int)), some (.inl (tc : Int)), some (.inl (v : Int)), some (.inl ((v : Int) + 1))], [.inl (tc : Int), .inl ((v : Int) + 1)], _)) rfl ?_
        refine b_ge (tgt := 85) okX8_judge rfl rfl ⟨by omega, by omega⟩ ⟨by omega, by omega⟩ (fun h37 => ?_) (fun h37 => ?_)
        · refine aGo okX8_judge 1 (f' := (86, [some (.inr 192), some (.inl (i : Int)), some (.inl (tc : Int)), some (.inl (v : Int)), some (.inl ((v : Int) + 1))], [.inr 192], _)) rfl ?_
          refine b_vE (as := []) (rest := []) (k := 192) okX8_judge rfl lkX8_220 caX8_forgets (Nat.le_of_ble_eq_true rfl) rfl (Nat.le_of_ble_eq_true rfl) rfl rfl rfl (c_forgets hk hf hc hn (by rw [dayL_len, dayIt_len]; exact hkp) hl hk hf hc hn hkp hl hkt2 hh2) ?_
          rintro _ _ ⟨rfl, rfl⟩
          refine aGo okX8_judge 1 (f' := (90, [some (.inr 192), some (.inl (i : Int)), some (.inl (tc : Int)), some (.inl (v : Int)), some (.inl ((v : Int) + 1))], [.inl (v : Int)], _)) rfl ?_
          exact b_ret (v := (some (.inl (v : Int)))) ⟨rfl, Or.inl rfl⟩ ⟨congrArg (fun q : Int => (some (.inl q) : Option aV)) (by rw [x4, firstQ_t (P := (fun j => !decide (min ((dayIt p (hasM p k f c l t) n j kp).getD i 0) 99 = to.getD j 0))) (by show (!decide (min ((dayIt p (hasM p k f c l t) n v kp).getD i 0) 99 = to.getD v 0)) = true; rw [decide_eq_false (by omega)]; rfl)]), mSt_of hp6 hd9 ⟨htp, rtp, htl9, hto, rto, by omega, hre⟩ (hb) ⟨hle, hla, htd, hkt2, lsh3, (by rw [soL_len]; exact x1), hha, hgr, hfi, hse⟩ (mim_of him (fun j hj => he2 j (by omega)))⟩ rfl
        · refine aGo okX8_judge 1 (f' := (41, [some (.inr 192), some (.inl (i : Int)), some (.inl (tc : Int)), some (.inl (v : Int)), some (.inl ((v : Int) + 1))], [.inl (v : Int)], _)) rfl ?_
          refine b0_ge (tgt := 85) okX8_judge rfl rfl ⟨by omega, by omega⟩ (fun h41 => ?_) (fun h41 => absurd h41 (by omega))
          refine aGo okX8_judge 1 (f' := (86, [some (.inr 192), some (.inl (i : Int)), some (.inl (tc : Int)), some (.inl (v : Int)), some (.inl ((v : Int) + 1))], [.inr 192], _)) rfl ?_
          refine b_vE (as := []) (rest := []) (k := 192) okX8_judge rfl lkX8_220 caX8_forgets (Nat.le_of_ble_eq_true rfl) rfl (Nat.le_of_ble_eq_true rfl) rfl rfl rfl (c_forgets hk hf hc hn (by rw [dayL_len, dayIt_len]; exact hkp) hl hk hf hc hn hkp hl hkt2 hh2) ?_
          rintro _ _ ⟨rfl, rfl⟩
          refine aGo okX8_judge 1 (f' := (90, [some (.inr 192), some (.inl (i : Int)), some (.inl (tc : Int)), some (.inl (v : Int)), some (.inl ((v : Int) + 1))], [.inl (v : Int)], _)) rfl ?_
          exact b_ret (v := (some (.inl (v : Int)))) ⟨rfl, Or.inl rfl⟩ ⟨congrArg (fun q : Int => (some (.inl q) : Option aV)) (by rw [x4, firstQ_t (P := (fun j => !decide (min ((dayIt p (hasM p k f c l t) n j kp).getD i 0) 99 = to.getD j 0))) (by show (!decide (min ((dayIt p (hasM p k f c l t) n v kp).getD i 0) 99 = to.getD v 0)) = true; rw [decide_eq_false (by omega)]; rfl)]), mSt_of hp6 hd9 ⟨htp, rtp, htl9, hto, rto, by omega, hre⟩ (hb) ⟨hle, hla, htd, hkt2, lsh3, (by rw [soL_len]; exact x1), hha, hgr, hfi, hse⟩ (mim_of him (fun j hj => he2 j (by omega)))⟩ rfl
      · refine aGo okX8_judge 6 (f' := (76, [some (.inr 192), some (.inl (i : Int)), some (.inl (tc : Int)), some (.inl (-9)), some (.inl (v : Int))], [.inl (-9), .inl (-9), .inr 192], _)) rfl ?_
        refine b_vE (as := [.inl (-9), .inl (-9)]) (rest := []) (k := 192) okX8_judge rfl lkX8_127 caX8_goesDay (Nat.le_of_ble_eq_true rfl) rfl (Nat.le_of_ble_eq_true rfl) rfl rfl rfl (c_goesDay (bOK_it hb _ (by omega)) x3 x1) ?_
        rintro _ _ ⟨rfl, sh3, lsh3, rfl⟩
        refine aGo okX8_judge 2 (f' := (34, [some (.inr 192), some (.inl (i : Int)), some (.inl (tc : Int)), some (.inl (-9)), some (.inl ((v : Int) + 1))], [], _)) rfl ?_
        refine b_cast (f' := (34, [some (.inr 192), some (.inl (i : Int)), some (.inl (tc : Int)), some (.inl (-9)), some (.inl ((v : Int) + 1))], [], [A0, A1, A2, A3, A4, A5, (modSeg re k f c n (dayIt p (hasM p k f c l t) n (v + 1) kp) l tp le la td kt2 sh3 (soL (fun q => decide (dayV (dayIt p (hasM p k f c l t) n v kp) (hasM p k f c l t) n q < 0)) so1 p) had gr fi se to (p : Int) t ((d + (v : Int)) + 1) (tl : Int) at_ sn imt 1 267 0 (cntN p (fun q => decide (dayV (dayIt p (hasM p k f c l t) n v kp) (hasM p k f c l t) n q < 0))) 0)])) rfl ?_
        refine b_cast (f' := (34, [some (.inr 192), some (.inl (i : Int)), some (.inl (tc : Int)), some (.inl (-9)), some (.inl ((v : Int) + 1))], [], [A0, A1, A2, A3, A4, A5, (modSeg re k f c n (dayIt p (hasM p k f c l t) n (v + 1) kp) l tp le la td kt2 sh3 (soL (fun q => decide (dayV (dayIt p (hasM p k f c l t) n v kp) (hasM p k f c l t) n q < 0)) so1 p) had gr fi se to (p : Int) t (d + (((v + 1) : Nat) : Int)) (tl : Int) at_ sn imt 1 267 0 (cntN p (fun q => decide (dayV (dayIt p (hasM p k f c l t) n v kp) (hasM p k f c l t) n q < 0))) 0)])) (by rw [show d + (v : Int) + 1 = d + ((v + 1 : Nat) : Int) by omega]) ?_
        exact ih (v + 1) _ _ _ (by omega) (by rw [soL_len]; exact x1) lsh3 (by rw [x4, firstQ_f (P := (fun j => !decide (min ((dayIt p (hasM p k f c l t) n j kp).getD i 0) 99 = to.getD j 0))) (by show (!decide (min ((dayIt p (hasM p k f c l t) n v kp).getD i 0) 99 = to.getD v 0)) = false; rw [decide_eq_true (by omega)]; rfl)])
  refine b_cast (f' := (34, [some (.inr 192), some (.inl (i : Int)), some (.inl (tc : Int)), some (.inl (-9)), some (.inl 0)], [], [A0, A1, A2, A3, A4, A5, (modSeg re k f c n kp l tp le la td kt2 sh so had gr fi se to (p : Int) t (d + ((0 : Nat) : Int)) (tl : Int) at_ sn imt 1 267 0 st 0)])) (by rw [show d + ((0 : Nat) : Int) = d by omega]) ?_
  exact lp tc 0 so sh st (by omega) hso hsh rfl
theorem gH_lot {p : Nat} {k f c sh : List Int} {t : Int} (h : gH p k f c sh t) {q m : Nat} {y : Int} : gH p k f (lotI q y c m).2 sh t := by
  obtain ⟨hp7, hk, hf, hc, hs, rk, rf, rc, ht0, ht1⟩ := h
  exact ⟨hp7, hk, hf, by rw [lotI_len]; exact hc, hs, rk, rf, lotI_rng rc _, ht0, ht1⟩
set_option maxRecDepth 100000 in
set_option maxHeartbeats 4000000 in
theorem mk_lots {imt : Int} {tc : Nat} {k f c n kp l : List Int} {p : Nat} {t d : Int} {to re : List Int} {tl : Nat} {tp : List Int} {I : moT} {A0 A1 A2 A3 A4 A5 : List (Option aE)} {h : aH} {N : Nat} (hS : mSt imt tc k f c n kp l p t d to re tl tp I A0 A1 A2 A3 A4 A5 h) {m : Nat} {y z : Int} (hm0 : 1 ≤ m ∧ m ≤ 20) (hz : 0 ≤ z ∧ z ≤ 1) (hp1 : 1 ≤ p) : aEv mX8_lots 6 0 0 N [.inr 192, .inl (m : Int), .inl y, .inl z] h (fun rv h2 => rv = some (.inl (if z = 0 then sumN m (fun (i : Nat) => shr p k f (lotI p y c (i + 1)).2 t 0) else sumN m (fun (i : Nat) => cntA p k f (lotI p y c (i + 1)).2 n l t))) ∧ mSt imt tc k f c n kp l p t d to re tl tp I A0 A1 A2 A3 A4 A5 h2) := by
  obtain ⟨hp6, hd9, hax, hb, le, la, td, kt, sh, so, had, gr, fi, se, at_, sn, ik, cu, st, hml, him, rfl⟩ := hS
  obtain ⟨htp, rtp, htl9, hto, rto, htc, hre⟩ := id hax
  obtain ⟨hle, hla, htd, hkt, hsh, hso, hha, hgr, hfi, hse⟩ := id hml
  obtain ⟨hp7, hk, hf, hc, hn, hkp, hl, rk, rf, rc, rn, rkp, rl, ht0, ht1, hd0, hd1⟩ := id hb
  refine aEv_of okX8_lots caX8_lots (Nat.le_of_ble_eq_true rfl) ?_
  refine aGo okX8_lots 3 (f' := (4, [some (.inr 192), some (.inl (m : Int)), some (.inl y), some (.inl z), none, none, none, none, none, none], [.inl 20, .inl 1, .inl (m : Int)], _)) rfl ?_
  refine b_vS (as := [.inl (m : Int), .inl 1, .inl 20]) (rest := []) (.inl 0) okX8_lots rfl lkX8_79 caX8_bound (Nat.le_of_ble_eq_true rfl) rfl (Nat.le_of_ble_eq_true rfl) rfl (c_bound_m ⟨by omega, by omega⟩ ⟨by omega, by omega⟩ ⟨by omega, by omega⟩ ⟨by omega, by omega⟩) ?_
  refine aGo okX8_lots 2 (f' := (11, [some (.inr 192), some (.inl (m : Int)), some (.inl y), some (.inl z), some (.inl 0), none, none, none, none, none], [.inl 0], _)) rfl ?_
  refine b0_ne (tgt := 43) okX8_lots rfl rfl ⟨by omega, by omega⟩ (fun h11 => absurd h11 (by omega)) (fun h11 => ?_)
  refine aGo okX8_lots 3 (f' := (17, [some (.inr 192), some (.inl (m : Int)), some (.inl y), some (.inl z), some (.inl 0), none, none, none, none, none], [.inl 1, .inl 0, .inl z], _)) rfl ?_
  refine b_vS (as := [.inl z, .inl 0, .inl 1]) (rest := []) (.inl 1) okX8_lots rfl lkX8_97 caX8_isIn (Nat.le_of_ble_eq_true rfl) rfl (Nat.le_of_ble_eq_true rfl) rfl (c_isIn_t ⟨by omega, by omega⟩ ⟨by omega, by omega⟩ ⟨by omega, by omega⟩ ⟨by omega, by omega⟩) ?_
  refine b0_ne (tgt := 28) okX8_lots rfl rfl ⟨by omega, by omega⟩ (fun h20 => ?_) (fun h20 => absurd h20 (by omega))
  refine aGo okX8_lots 2 (f' := (32, [some (.inr 192), some (.inl (m : Int)), some (.inl y), some (.inl z), some (.inl 0), none, none, none, none, none], [.inl (p : Int)], _)) rfl ?_
  refine b0_ne (tgt := 40) okX8_lots rfl rfl ⟨by omega, by omega⟩ (fun h32 => ?_) (fun h32 => ?_)
  · refine aGo okX8_lots 3 (f' := (45, [some (.inr 192), some (.inl (m : Int)), some (.inl y), some (.inl z), some (.inl 0), none, none, none, none, none], [.inl 0], _)) rfl ?_
    refine b0_eq (tgt := 55) okX8_lots rfl rfl ⟨by omega, by omega⟩ (fun h45 => ?_) (fun h45 => absurd h45 (by omega))
    refine aGo okX8_lots 7 (f' := (65, [some (.inr 192), some (.inl (m : Int)), some (.inl y), some (.inl z), some (.inl 0), some (.inl y), some (.inl 0), some (.inl 0), none, none], [.inr 192], _)) rfl ?_
    refine b_vE (as := []) (rest := []) (k := 192) okX8_lots rfl lkX8_214 caX8_thinks (Nat.le_of_ble_eq_true rfl) rfl (Nat.le_of_ble_eq_true rfl) rfl rfl rfl (c_thinks hb hkt) ?_
    rintro _ _ ⟨rfl, kt2, hkt2, hh2, he2, rfl⟩
    refine aGo okX8_lots 2 (f' := (71, [some (.inr 192), some (.inl (m : Int)), some (.inl y), some (.inl z), some (.inl 0), some (.inl y), some (.inl 0), some (.inl 0), some (.inl 0), none], [], _)) rfl ?_
    have lp : ∀ (j9 v : Nat) (sh1 : List Int), v + j9 = m → (sh1.length = 7) → AW mX8_lots 6 0 0 N none (fun rv h2 => rv = some (.inl (if z = 0 then sumN m (fun (i : Nat) => shr p k f (lotI p y c (i + 1)).2 t 0) else sumN m (fun (i : Nat) => cntA p k f (lotI p y c (i + 1)).2 n l t))) ∧ mSt imt tc k f c n kp l p t d to re tl tp I A0 A1 A2 A3 A4 A5 h2) (71, [some (.inr 192), some (.inl (m : Int)), some (.inl y), some (.inl z), some (.inl 0), some (.inl ((lotI p y c v).1)), some (.inl (sumN v (fun (i : Nat) => shr p k f (lotI p y c (i + 1)).2 t 0))), some (.inl (sumN v (fun (i : Nat) => cntA p k f (lotI p y c (i + 1)).2 n l t))), some (.inl (v : Int)), none], [], [A0, A1, A2, A3, A4, A5, (modSeg re k f ((lotI p y c v).2) n kp l tp le la td kt2 sh1 so had gr fi se to (p : Int) t d (tl : Int) at_ sn imt 1 267 0 st (tc : Int))]) := by
      intro j9
      induction j9 with
      | zero =>
        intro v sh1 hij x1
        obtain rfl : m = v := by omega
        refine aGo okX8_lots 2 (f' := (74, [some (.inr 192), some (.inl (m : Int)), some (.inl y), some (.inl z), some (.inl 0), some (.inl ((lotI p y c m).1)), some (.inl (sumN m (fun (i : Nat) => shr p k f (lotI p y c (i + 1)).2 t 0))), some (.inl (sumN m (fun (i : Nat) => cntA p k f (lotI p y c (i + 1)).2 n l t))), some (.inl (m : Int)), none], [.inl (m : Int), .inl (m : Int)], _)) rfl ?_
        refine b_ge (tgt := 192) okX8_lots rfl rfl ⟨by omega, by omega⟩ ⟨by omega, by omega⟩ (fun h74 => ?_) (fun h74 => absurd h74 (by omega))
        refine aGo okX8_lots 1 (f' := (193, [some (.inr 192), some (.inl (m : Int)), some (.inl y), some (.inl z), some (.inl 0), some (.inl ((lotI p y c m).1)), some (.inl (sumN m (fun (i : Nat) => shr p k f (lotI p y c (i + 1)).2 t 0))), some (.inl (sumN m (fun (i : Nat) => cntA p k f (lotI p y c (i + 1)).2 n l t))), some (.inl (m : Int)), none], [.inr 192], _)) rfl ?_
        refine b_vE (as := []) (rest := []) (k := 192) okX8_lots rfl lkX8_220 caX8_forgets (Nat.le_of_ble_eq_true rfl) rfl (Nat.le_of_ble_eq_true rfl) rfl rfl rfl (c_forgets hk hf (by rw [lotI_len]; exact hc) hn hkp hl hk hf hc hn hkp hl hkt2 hh2) ?_
        rintro _ _ ⟨rfl, rfl⟩
        refine aGo okX8_lots 1 (f' := (197, [some (.inr 192), some (.inl (m : Int)), some (.inl y), some (.inl z), some (.inl 0), some (.inl ((lotI p y c m).1)), some (.inl (sumN m (fun (i : Nat) => shr p k f (lotI p y c (i + 1)).2 t 0))), some (.inl (sumN m (fun (i : Nat) => cntA p k f (lotI p y c (i + 1)).2 n l t))), some (.inl (m : Int)), none], [.inl z], _)) rfl ?_
        refine b0_ne (tgt := 205) okX8_lots rfl rfl ⟨by omega, by omega⟩ (fun h197 => ?_) (fun h197 => ?_)
        · refine aGo okX8_lots 1 (f' := (207, [some (.inr 192), some (.inl (m : Int)), some (.inl y), some (.inl z), some (.inl 0), some (.inl ((lotI p y c m).1)), some (.inl (sumN m (fun (i : Nat) => shr p k f (lotI p y c (i + 1)).2 t 0))), some (.inl (sumN m (fun (i : Nat) => cntA p k f (lotI p y c (i + 1)).2 n l t))), some (.inl (m : Int)), none], [.inl (sumN m (fun (i : Nat) => cntA p k f (lotI p y c (i + 1)).2 n l t))], _)) rfl ?_
          exact b_ret (v := (some (.inl (sumN m (fun (i : Nat) => cntA p k f (lotI p y c (i + 1)).2 n l t))))) ⟨rfl, Or.inl rfl⟩ ⟨congrArg (fun q : Int => (some (.inl q) : Option aV)) ((if_neg (by omega)).symm), mSt_of hp6 hd9 hax (hb) ⟨hle, hla, htd, hkt2, x1, hso, hha, hgr, hfi, hse⟩ (mim_of him (fun j hj => he2 j (by omega)))⟩ rfl
        · refine aGo okX8_lots 2 (f' := (207, [some (.inr 192), some (.inl (m : Int)), some (.inl y), some (.inl z), some (.inl 0), some (.inl ((lotI p y c m).1)), some (.inl (sumN m (fun (i : Nat) => shr p k f (lotI p y c (i + 1)).2 t 0))), some (.inl (sumN m (fun (i : Nat) => cntA p k f (lotI p y c (i + 1)).2 n l t))), some (.inl (m : Int)), none], [.inl (sumN m (fun (i : Nat) => shr p k f (lotI p y c (i + 1)).2 t 0))], _)) rfl ?_
          exact b_ret (v := (some (.inl (sumN m (fun (i : Nat) => shr p k f (lotI p y c (i + 1)).2 t 0))))) ⟨rfl, Or.inl rfl⟩ ⟨congrArg (fun q : Int => (some (.inl q) : Option aV)) ((if_pos (by omega)).symm), mSt_of hp6 hd9 hax (hb) ⟨hle, hla, htd, hkt2, x1, hso, hha, hgr, hfi, hse⟩ (mim_of him (fun j hj => he2 j (by omega)))⟩ rfl
      | succ j9 ih =>
        intro v sh1 hij x1
        refine aGo okX8_lots 2 (f' := (74, [some (.inr 192), some (.inl (m : Int)), some (.inl y), some (.inl z), some (.inl 0), some (.inl ((lotI p y c v).1)), some (.inl (sumN v (fun (i : Nat) => shr p k f (lotI p y c (i + 1)).2 t 0))), some (.inl (sumN v (fun (i : Nat) => cntA p k f (lotI p y c (i + 1)).2 n l t))), some (.inl (v : Int)), none], [.inl (m : Int), .inl (v : Int)], _)) rfl ?_
        refine b_ge (tgt := 192) okX8_lots rfl rfl ⟨by omega, by omega⟩ ⟨by omega, by omega⟩ (fun h74 => absurd h74 (by omega)) (fun h74 => ?_)
        refine aGo okX8_lots 2 (f' := (80, [some (.inr 192), some (.inl (m : Int)), some (.inl y), some (.inl z), some (.inl 0), some (.inl ((lotI p y c v).1)), some (.inl (sumN v (fun (i : Nat) => shr p k f (lotI p y c (i + 1)).2 t 0))), some (.inl (sumN v (fun (i : Nat) => cntA p k f (lotI p y c (i + 1)).2 n l t))), some (.inl (v : Int)), some (.inl 0)], [], _)) rfl ?_
        have lq : ∀ (j2 w : Nat), w + j2 = p → AW mX8_lots 6 0 0 N none (fun rv h2 => rv = some (.inl (if z = 0 then sumN m (fun (i : Nat) => shr p k f (lotI p y c (i + 1)).2 t 0) else sumN m (fun (i : Nat) => cntA p k f (lotI p y c (i + 1)).2 n l t))) ∧ mSt imt tc k f c n kp l p t d to re tl tp I A0 A1 A2 A3 A4 A5 h2) (80, [some (.inr 192), some (.inl (m : Int)), some (.inl y), some (.inl z), some (.inl 0), some (.inl ((lotC (lotI p y c v).1 (lotI p y c v).2 w).1)), some (.inl (sumN v (fun (i : Nat) => shr p k f (lotI p y c (i + 1)).2 t 0))), some (.inl (sumN v (fun (i : Nat) => cntA p k f (lotI p y c (i + 1)).2 n l t))), some (.inl (v : Int)), some (.inl (w : Int))], [], [A0, A1, A2, A3, A4, A5, (modSeg re k f ((lotC (lotI p y c v).1 (lotI p y c v).2 w).2) n kp l tp le la td kt2 sh1 so had gr fi se to (p : Int) t d (tl : Int) at_ sn imt 1 267 0 st (tc : Int))]) := by
          intro j2
          induction j2 with
          | zero =>
            intro w  hij2 
            obtain rfl : p = w := by omega
            refine aGo okX8_lots 3 (f' := (86, [some (.inr 192), some (.inl (m : Int)), some (.inl y), some (.inl z), some (.inl 0), some (.inl ((lotC (lotI p y c v).1 (lotI p y c v).2 p).1)), some (.inl (sumN v (fun (i : Nat) => shr p k f (lotI p y c (i + 1)).2 t 0))), some (.inl (sumN v (fun (i : Nat) => cntA p k f (lotI p y c (i + 1)).2 n l t))), some (.inl (v : Int)), some (.inl (p : Int))], [.inl (p : Int), .inl (p : Int)], _)) rfl ?_
            refine b_ge (tgt := 127) okX8_lots rfl rfl ⟨by omega, by omega⟩ ⟨by omega, by omega⟩ (fun h86 => ?_) (fun h86 => absurd h86 (by omega))
            refine aGo okX8_lots 1 (f' := (128, [some (.inr 192), some (.inl (m : Int)), some (.inl y), some (.inl z), some (.inl 0), some (.inl ((lotC (lotI p y c v).1 (lotI p y c v).2 p).1)), some (.inl (sumN v (fun (i : Nat) => shr p k f (lotI p y c (i + 1)).2 t 0))), some (.inl (sumN v (fun (i : Nat) => cntA p k f (lotI p y c (i + 1)).2 n l t))), some (.inl (v : Int)), some (.inl (p : Int))], [.inr 192], _)) rfl ?_
            refine b_vE (as := []) (rest := []) (k := 192) okX8_lots rfl lkX8_202 caX8_findShares (Nat.le_of_ble_eq_true rfl) rfl (Nat.le_of_ble_eq_true rfl) rfl rfl rfl (c_findShares (gH_lot (q := p) (m := v + 1) (y := y) (gH_of hb x1))) ?_
            rintro _ _ ⟨rfl, sh2, lsh2, esh2, rfl⟩
            have esh3 : ∀ q, q < p → sh2.getD q 0 = shr p k f (lotI p y c (v + 1)).2 t q := esh2
            refine aGo okX8_lots 4 (f' := (138, [some (.inr 192), some (.inl (m : Int)), some (.inl y), some (.inl z), some (.inl 0), some (.inl ((lotC (lotI p y c v).1 (lotI p y c v).2 p).1)), some (.inl (sumN v (fun (i : Nat) => shr p k f (lotI p y c (i + 1)).2 t 0))), some (.inl (sumN v (fun (i : Nat) => cntA p k f (lotI p y c (i + 1)).2 n l t))), some (.inl (v : Int)), some (.inl (p : Int))], [.inl 0, .inr 205, .inl (sumN v (fun (i : Nat) => shr p k f (lotI p y c (i + 1)).2 t 0))], _)) rfl ?_
            refine b_ald (k := 205) (j := 0) (a := sh2) okX8_lots rfl rfl (by omega) (by omega) (by omega) ?_
            refine aGo okX8_lots 4 (f' := (145, [some (.inr 192), some (.inl (m : Int)), some (.inl y), some (.inl z), some (.inl 0), some (.inl ((lotC (lotI p y c v).1 (lotI p y c v).2 p).1)), some (.inl ((sumN v (fun (i : Nat) => shr p k f (lotI p y c (i + 1)).2 t 0)) + (sh2.getD 0 0))), some (.inl (sumN v (fun (i : Nat) => cntA p k f (lotI p y c (i + 1)).2 n l t))), some (.inl (v : Int)), some (.inl 0)], [], _)) rfl ?_
            have lr : ∀ (j3 w : Nat), w + j3 = p → AW mX8_lots 6 0 0 N none (fun rv h2 => rv = some (.inl (if z = 0 then sumN m (fun (i : Nat) => shr p k f (lotI p y c (i + 1)).2 t 0) else sumN m (fun (i : Nat) => cntA p k f (lotI p y c (i + 1)).2 n l t))) ∧ mSt imt tc k f c n kp l p t d to re tl tp I A0 A1 A2 A3 A4 A5 h2) (145, [some (.inr 192), some (.inl (m : Int)), some (.inl y), some (.inl z), some (.inl 0), some (.inl ((lotI p y c (v + 1)).1)), some (.inl (sumN (v + 1) (fun (i : Nat) => shr p k f (lotI p y c (i + 1)).2 t 0))), some (.inl (sumN v (fun (i : Nat) => cntA p k f (lotI p y c (i + 1)).2 n l t) + cntN w (fun q => decide (n.getD q 0 ≤ hasM p k f (lotI p y c (v + 1)).2 l t q)))), some (.inl (v : Int)), some (.inl (w : Int))], [], [A0, A1, A2, A3, A4, A5, (modSeg re k f ((lotI p y c (v + 1)).2) n kp l tp le la td kt2 sh2 so had gr fi se to (p : Int) t d (tl : Int) at_ sn imt 1 267 0 st (tc : Int))]) := by
              intro j3
              induction j3 with
              | zero =>
                intro w  hij3 
                obtain rfl : p = w := by omega
                refine aGo okX8_lots 3 (f' := (151, [some (.inr 192), some (.inl (m : Int)), some (.inl y), some (.inl z), some (.inl 0), some (.inl ((lotI p y c (v + 1)).1)), some (.inl (sumN (v + 1) (fun (i : Nat) => shr p k f (lotI p y c (i + 1)).2 t 0))), some (.inl (sumN v (fun (i : Nat) => cntA p k f (lotI p y c (i + 1)).2 n l t) + cntN p (fun q => decide (n.getD q 0 ≤ hasM p k f (lotI p y c (v + 1)).2 l t q)))), some (.inl (v : Int)), some (.inl (p : Int))], [.inl (p : Int), .inl (p : Int)], _)) rfl ?_
                refine b_ge (tgt := 186) okX8_lots rfl rfl ⟨by omega, by omega⟩ ⟨by omega, by omega⟩ (fun h151 => ?_) (fun h151 => absurd h151 (by omega))
                refine aGo okX8_lots 2 (f' := (71, [some (.inr 192), some (.inl (m : Int)), some (.inl y), some (.inl z), some (.inl 0), some (.inl ((lotI p y c (v + 1)).1)), some (.inl (sumN (v + 1) (fun (i : Nat) => shr p k f (lotI p y c (i + 1)).2 t 0))), some (.inl (sumN v (fun (i : Nat) => cntA p k f (lotI p y c (i + 1)).2 n l t) + cntN p (fun q => decide (n.getD q 0 ≤ hasM p k f (lotI p y c (v + 1)).2 l t q)))), some (.inl ((v : Int) + 1)), some (.inl (p : Int))], [], _)) rfl ?_
                refine b_cast (f' := (71, [some (.inr 192), some (.inl (m : Int)), some (.inl y), some (.inl z), some (.inl 0), some (.inl ((lotI p y c (v + 1)).1)), some (.inl (sumN (v + 1) (fun (i : Nat) => shr p k f (lotI p y c (i + 1)).2 t 0))), some (.inl (sumN (v + 1) (fun (i : Nat) => cntA p k f (lotI p y c (i + 1)).2 n l t))), some (.inl ((v : Int) + 1)), some (.inl (p : Int))], [], [A0, A1, A2, A3, A4, A5, (modSeg re k f ((lotI p y c (v + 1)).2) n kp l tp le la td kt2 sh2 so had gr fi se to (p : Int) t d (tl : Int) at_ sn imt 1 267 0 st (tc : Int))])) (congrArg (fun q : Int => ((71, [some (.inr 192), some (.inl (m : Int)), some (.inl y), some (.inl z), some (.inl 0), some (.inl ((lotI p y c (v + 1)).1)), some (.inl (sumN (v + 1) (fun (i : Nat) => shr p k f (lotI p y c (i + 1)).2 t 0))), some (.inl q), some (.inl ((v : Int) + 1)), some (.inl (p : Int))], [], [A0, A1, A2, A3, A4, A5, (modSeg re k f ((lotI p y c (v + 1)).2) n kp l tp le la td kt2 sh2 so had gr fi se to (p : Int) t d (tl : Int) at_ sn imt 1 267 0 st (tc : Int))]) : aF)) (rfl)) ?_
                refine b_lose (ls' := [some (.inr 192), some (.inl (m : Int)), some (.inl y), some (.inl z), some (.inl 0), some (.inl ((lotI p y c (v + 1)).1)), some (.inl (sumN (v + 1) (fun (i : Nat) => shr p k f (lotI p y c (i + 1)).2 t 0))), some (.inl (sumN (v + 1) (fun (i : Nat) => cntA p k f (lotI p y c (i + 1)).2 n l t))), some (.inl ((v : Int) + 1)), none]) (lose9of10 _ _ _ _ _ _ _ _ _ _) ?_
                exact ih (v + 1) sh2 (by omega) lsh2
              | succ j3 ih3 =>
                intro w  hij3 
                have e1 := esh3 w (by omega)
                have e2 := shr_le (k := k) (f := f) (c := (lotI p y c (v + 1)).2) (t := t) hp7 rf (lotI_rng rc _) ⟨ht0, ht1⟩ (q := w) (by omega)
                have e3 := net_le hp7 rl w
                have e4 := rn w
                have e5 : hasM p k f (lotI p y c (v + 1)).2 l t w = sh2.getD w 0 - net p l w := by unfold hasM; rw [e1]
                refine aGo okX8_lots 3 (f' := (151, [some (.inr 192), some (.inl (m : Int)), some (.inl y), some (.inl z), some (.inl 0), some (.inl ((lotI p y c (v + 1)).1)), some (.inl (sumN (v + 1) (fun (i : Nat) => shr p k f (lotI p y c (i + 1)).2 t 0))), some (.inl (sumN v (fun (i : Nat) => cntA p k f (lotI p y c (i + 1)).2 n l t) + cntN w (fun q => decide (n.getD q 0 ≤ hasM p k f (lotI p y c (v + 1)).2 l t q)))), some (.inl (v : Int)), some (.inl (w : Int))], [.inl (p : Int), .inl (w : Int)], _)) rfl ?_
                refine b_ge (tgt := 186) okX8_lots rfl rfl ⟨by omega, by omega⟩ ⟨by omega, by omega⟩ (fun h151 => absurd h151 (by omega)) (fun h151 => ?_)
                refine aGo okX8_lots 3 (f' := (159, [some (.inr 192), some (.inl (m : Int)), some (.inl y), some (.inl z), some (.inl 0), some (.inl ((lotI p y c (v + 1)).1)), some (.inl (sumN (v + 1) (fun (i : Nat) => shr p k f (lotI p y c (i + 1)).2 t 0))), some (.inl (sumN v (fun (i : Nat) => cntA p k f (lotI p y c (i + 1)).2 n l t) + cntN w (fun q => decide (n.getD q 0 ≤ hasM p k f (lotI p y c (v + 1)).2 l t q)))), some (.inl (v : Int)), some (.inl (w : Int))], [.inl (w : Int), .inr 192, .inl (sumN v (fun (i : Nat) => cntA p k f (lotI p y c (i + 1)).2 n l t) + cntN w (fun q => decide (n.getD q 0 ≤ hasM p k f (lotI p y c (v + 1)).2 l t q)))], _)) rfl ?_
                refine b_vV (as := [.inl (w : Int)]) (rest := [.inl (sumN v (fun (i : Nat) => cntA p k f (lotI p y c (i + 1)).2 n l t) + cntN w (fun q => decide (n.getD q 0 ≤ hasM p k f (lotI p y c (v + 1)).2 l t q)))]) (k := 192) (.inl ((sh2.getD w 0) - (net p l w))) okX8_lots rfl lkX8_208 caX8_hasNow (Nat.le_of_ble_eq_true rfl) rfl (Nat.le_of_ble_eq_true rfl) rfl rfl rfl (c_hasNow0 hp7 hl lsh2 (i := w) (by omega)) ?_
                refine aGo okX8_lots 3 (f' := (168, [some (.inr 192), some (.inl (m : Int)), some (.inl y), some (.inl z), some (.inl 0), some (.inl ((lotI p y c (v + 1)).1)), some (.inl (sumN (v + 1) (fun (i : Nat) => shr p k f (lotI p y c (i + 1)).2 t 0))), some (.inl (sumN v (fun (i : Nat) => cntA p k f (lotI p y c (i + 1)).2 n l t) + cntN w (fun q => decide (n.getD q 0 ≤ hasM p k f (lotI p y c (v + 1)).2 l t q)))), some (.inl (v : Int)), some (.inl (w : Int))], [.inl (w : Int), .inr 197, .inl ((sh2.getD w 0) - (net p l w)), .inl (sumN v (fun (i : Nat) => cntA p k f (lotI p y c (i + 1)).2 n l t) + cntN w (fun q => decide (n.getD q 0 ≤ hasM p k f (lotI p y c (v + 1)).2 l t q)))], _)) rfl ?_
                refine b_ald (k := 197) (j := w) (a := n) okX8_lots rfl rfl (by omega) (by omega) (by omega) ?_
                refine b_lt (tgt := 176) okX8_lots rfl rfl ⟨by omega, by omega⟩ ⟨by omega, by omega⟩ (fun h169 => ?_) (fun h169 => ?_)
                · refine aGo okX8_lots 5 (f' := (145, [some (.inr 192), some (.inl (m : Int)), some (.inl y), some (.inl z), some (.inl 0), some (.inl ((lotI p y c (v + 1)).1)), some (.inl (sumN (v + 1) (fun (i : Nat) => shr p k f (lotI p y c (i + 1)).2 t 0))), some (.inl ((sumN v (fun (i : Nat) => cntA p k f (lotI p y c (i + 1)).2 n l t) + cntN w (fun q => decide (n.getD q 0 ≤ hasM p k f (lotI p y c (v + 1)).2 l t q))) + 0)), some (.inl (v : Int)), some (.inl ((w : Int) + 1))], [], _)) rfl ?_
                  refine b_cast (f' := (145, [some (.inr 192), some (.inl (m : Int)), some (.inl y), some (.inl z), some (.inl 0), some (.inl ((lotI p y c (v + 1)).1)), some (.inl (sumN (v + 1) (fun (i : Nat) => shr p k f (lotI p y c (i + 1)).2 t 0))), some (.inl (sumN v (fun (i : Nat) => cntA p k f (lotI p y c (i + 1)).2 n l t) + cntN (w + 1) (fun q => decide (n.getD q 0 ≤ hasM p k f (lotI p y c (v + 1)).2 l t q)))), some (.inl (v : Int)), some (.inl ((w : Int) + 1))], [], [A0, A1, A2, A3, A4, A5, (modSeg re k f ((lotI p y c (v + 1)).2) n kp l tp le la td kt2 sh2 so had gr fi se to (p : Int) t d (tl : Int) at_ sn imt 1 267 0 st (tc : Int))])) (congrArg (fun q : Int => ((145, [some (.inr 192), some (.inl (m : Int)), some (.inl y), some (.inl z), some (.inl 0), some (.inl ((lotI p y c (v + 1)).1)), some (.inl (sumN (v + 1) (fun (i : Nat) => shr p k f (lotI p y c (i + 1)).2 t 0))), some (.inl q), some (.inl (v : Int)), some (.inl ((w : Int) + 1))], [], [A0, A1, A2, A3, A4, A5, (modSeg re k f ((lotI p y c (v + 1)).2) n kp l tp le la td kt2 sh2 so had gr fi se to (p : Int) t d (tl : Int) at_ sn imt 1 267 0 st (tc : Int))]) : aF)) ((by rw [cntN_f (P := (fun q => decide (n.getD q 0 ≤ hasM p k f (lotI p y c (v + 1)).2 l t q))) (decide_eq_false (by omega))]; omega))) ?_
                  exact ih3 (w + 1) (by omega)
                · refine aGo okX8_lots 6 (f' := (145, [some (.inr 192), some (.inl (m : Int)), some (.inl y), some (.inl z), some (.inl 0), some (.inl ((lotI p y c (v + 1)).1)), some (.inl (sumN (v + 1) (fun (i : Nat) => shr p k f (lotI p y c (i + 1)).2 t 0))), some (.inl ((sumN v (fun (i : Nat) => cntA p k f (lotI p y c (i + 1)).2 n l t) + cntN w (fun q => decide (n.getD q 0 ≤ hasM p k f (lotI p y c (v + 1)).2 l t q))) + 1)), some (.inl (v : Int)), some (.inl ((w : Int) + 1))], [], _)) rfl ?_
                  refine b_cast (f' := (145, [some (.inr 192), some (.inl (m : Int)), some (.inl y), some (.inl z), some (.inl 0), some (.inl ((lotI p y c (v + 1)).1)), some (.inl (sumN (v + 1) (fun (i : Nat) => shr p k f (lotI p y c (i + 1)).2 t 0))), some (.inl (sumN v (fun (i : Nat) => cntA p k f (lotI p y c (i + 1)).2 n l t) + cntN (w + 1) (fun q => decide (n.getD q 0 ≤ hasM p k f (lotI p y c (v + 1)).2 l t q)))), some (.inl (v : Int)), some (.inl ((w : Int) + 1))], [], [A0, A1, A2, A3, A4, A5, (modSeg re k f ((lotI p y c (v + 1)).2) n kp l tp le la td kt2 sh2 so had gr fi se to (p : Int) t d (tl : Int) at_ sn imt 1 267 0 st (tc : Int))])) (congrArg (fun q : Int => ((145, [some (.inr 192), some (.inl (m : Int)), some (.inl y), some (.inl z), some (.inl 0), some (.inl ((lotI p y c (v + 1)).1)), some (.inl (sumN (v + 1) (fun (i : Nat) => shr p k f (lotI p y c (i + 1)).2 t 0))), some (.inl q), some (.inl (v : Int)), some (.inl ((w : Int) + 1))], [], [A0, A1, A2, A3, A4, A5, (modSeg re k f ((lotI p y c (v + 1)).2) n kp l tp le la td kt2 sh2 so had gr fi se to (p : Int) t d (tl : Int) at_ sn imt 1 267 0 st (tc : Int))]) : aF)) ((by rw [cntN_t (P := (fun q => decide (n.getD q 0 ≤ hasM p k f (lotI p y c (v + 1)).2 l t q))) (decide_eq_true (by omega))]; omega))) ?_
                  exact ih3 (w + 1) (by omega)
            refine b_cast (f' := (145, [some (.inr 192), some (.inl (m : Int)), some (.inl y), some (.inl z), some (.inl 0), some (.inl ((lotC (lotI p y c v).1 (lotI p y c v).2 p).1)), some (.inl (sumN (v + 1) (fun (i : Nat) => shr p k f (lotI p y c (i + 1)).2 t 0))), some (.inl (sumN v (fun (i : Nat) => cntA p k f (lotI p y c (i + 1)).2 n l t))), some (.inl (v : Int)), some (.inl 0)], [], [A0, A1, A2, A3, A4, A5, (modSeg re k f ((lotC (lotI p y c v).1 (lotI p y c v).2 p).2) n kp l tp le la td kt2 sh2 so had gr fi se to (p : Int) t d (tl : Int) at_ sn imt 1 267 0 st (tc : Int))])) (congrArg (fun q : Int => ((145, [some (.inr 192), some (.inl (m : Int)), some (.inl y), some (.inl z), some (.inl 0), some (.inl ((lotC (lotI p y c v).1 (lotI p y c v).2 p).1)), some (.inl q), some (.inl (sumN v (fun (i : Nat) => cntA p k f (lotI p y c (i + 1)).2 n l t))), some (.inl (v : Int)), some (.inl 0)], [], [A0, A1, A2, A3, A4, A5, (modSeg re k f ((lotC (lotI p y c v).1 (lotI p y c v).2 p).2) n kp l tp le la td kt2 sh2 so had gr fi se to (p : Int) t d (tl : Int) at_ sn imt 1 267 0 st (tc : Int))]) : aF)) ((by rw [esh2 0 (by omega)]; rfl))) ?_
            refine b_cast (f' := (145, [some (.inr 192), some (.inl (m : Int)), some (.inl y), some (.inl z), some (.inl 0), some (.inl ((lotC (lotI p y c v).1 (lotI p y c v).2 p).1)), some (.inl (sumN (v + 1) (fun (i : Nat) => shr p k f (lotI p y c (i + 1)).2 t 0))), some (.inl (sumN v (fun (i : Nat) => cntA p k f (lotI p y c (i + 1)).2 n l t) + cntN 0 (fun q => decide (n.getD q 0 ≤ hasM p k f (lotI p y c (v + 1)).2 l t q)))), some (.inl (v : Int)), some (.inl 0)], [], [A0, A1, A2, A3, A4, A5, (modSeg re k f ((lotC (lotI p y c v).1 (lotI p y c v).2 p).2) n kp l tp le la td kt2 sh2 so had gr fi se to (p : Int) t d (tl : Int) at_ sn imt 1 267 0 st (tc : Int))])) (congrArg (fun q : Int => ((145, [some (.inr 192), some (.inl (m : Int)), some (.inl y), some (.inl z), some (.inl 0), some (.inl ((lotC (lotI p y c v).1 (lotI p y c v).2 p).1)), some (.inl (sumN (v + 1) (fun (i : Nat) => shr p k f (lotI p y c (i + 1)).2 t 0))), some (.inl q), some (.inl (v : Int)), some (.inl 0)], [], [A0, A1, A2, A3, A4, A5, (modSeg re k f ((lotC (lotI p y c v).1 (lotI p y c v).2 p).2) n kp l tp le la td kt2 sh2 so had gr fi se to (p : Int) t d (tl : Int) at_ sn imt 1 267 0 st (tc : Int))]) : aF)) ((by show _ = _ + 0; omega))) ?_
            exact lr p 0 (by omega)
          | succ j2 ih2 =>
            intro w  hij2 
            refine aGo okX8_lots 3 (f' := (86, [some (.inr 192), some (.inl (m : Int)), some (.inl y), some (.inl z), some (.inl 0), some (.inl ((lotC (lotI p y c v).1 (lotI p y c v).2 w).1)), some (.inl (sumN v (fun (i : Nat) => shr p k f (lotI p y c (i + 1)).2 t 0))), some (.inl (sumN v (fun (i : Nat) => cntA p k f (lotI p y c (i + 1)).2 n l t))), some (.inl (v : Int)), some (.inl (w : Int))], [.inl (p : Int), .inl (w : Int)], _)) rfl ?_
            refine b_ge (tgt := 127) okX8_lots rfl rfl ⟨by omega, by omega⟩ ⟨by omega, by omega⟩ (fun h86 => absurd h86 (by omega)) (fun h86 => ?_)
            refine aGo okX8_lots 12 (f' := (113, [some (.inr 192), some (.inl (m : Int)), some (.inl y), some (.inl z), some (.inl 0), some (.inl ((((lotC (lotI p y c v).1 (lotI p y c v).2 w).1) * 1664525) + 1013904223)), some (.inl (sumN v (fun (i : Nat) => shr p k f (lotI p y c (i + 1)).2 t 0))), some (.inl (sumN v (fun (i : Nat) => cntA p k f (lotI p y c (i + 1)).2 n l t))), some (.inl (v : Int)), some (.inl (w : Int))], [.inl (aAnd ((((lotC (lotI p y c v).1 (lotI p y c v).2 w).1) * 1664525) + 1013904223) 2147483647), .inl (w : Int), .inr 196], _)) rfl ?_
            have e9 := mask_le (lcg (lotC (lotI p y c v).1 (lotI p y c v).2 w).1)
            refine b_cast (f' := (113, [some (.inr 192), some (.inl (m : Int)), some (.inl y), some (.inl z), some (.inl 0), some (.inl ((((lotC (lotI p y c v).1 (lotI p y c v).2 w).1) * 1664525) + 1013904223)), some (.inl (sumN v (fun (i : Nat) => shr p k f (lotI p y c (i + 1)).2 t 0))), some (.inl (sumN v (fun (i : Nat) => cntA p k f (lotI p y c (i + 1)).2 n l t))), some (.inl (v : Int)), some (.inl (w : Int))], [.inl (aAnd (lcg (lotC (lotI p y c v).1 (lotI p y c v).2 w).1) 2147483647), .inl (w : Int), .inr 196], [A0, A1, A2, A3, A4, A5, (modSeg re k f ((lotC (lotI p y c v).1 (lotI p y c v).2 w).2) n kp l tp le la td kt2 sh1 so had gr fi se to (p : Int) t d (tl : Int) at_ sn imt 1 267 0 st (tc : Int))])) (rfl) ?_
            refine aGo okX8_lots 1 (f' := (116, [some (.inr 192), some (.inl (m : Int)), some (.inl y), some (.inl z), some (.inl 0), some (.inl ((((lotC (lotI p y c v).1 (lotI p y c v).2 w).1) * 1664525) + 1013904223)), some (.inl (sumN v (fun (i : Nat) => shr p k f (lotI p y c (i + 1)).2 t 0))), some (.inl (sumN v (fun (i : Nat) => cntA p k f (lotI p y c (i + 1)).2 n l t))), some (.inl (v : Int)), some (.inl (w : Int))], [.inl 256, .inl (aAnd (lcg (lotC (lotI p y c v).1 (lotI p y c v).2 w).1) 2147483647), .inl (w : Int), .inr 196], _)) rfl ?_
            refine b_div okX8_lots rfl ⟨by omega, by omega⟩ ⟨by omega, by omega⟩ ?_
            refine aGo okX8_lots 1 (f' := (119, [some (.inr 192), some (.inl (m : Int)), some (.inl y), some (.inl z), some (.inl 0), some (.inl ((((lotC (lotI p y c v).1 (lotI p y c v).2 w).1) * 1664525) + 1013904223)), some (.inl (sumN v (fun (i : Nat) => shr p k f (lotI p y c (i + 1)).2 t 0))), some (.inl (sumN v (fun (i : Nat) => cntA p k f (lotI p y c (i + 1)).2 n l t))), some (.inl (v : Int)), some (.inl (w : Int))], [.inl 36, .inl ((aAnd (lcg (lotC (lotI p y c v).1 (lotI p y c v).2 w).1) 2147483647) / 256), .inl (w : Int), .inr 196], _)) rfl ?_
            refine b_rem okX8_lots rfl ⟨by omega, by omega⟩ ⟨by omega, by omega⟩ ?_
            refine b_ast (k := 196) (j := w) (a := (lotC (lotI p y c v).1 (lotI p y c v).2 w).2) okX8_lots rfl rfl (by omega) (by rw [lotC_len, lotI_len]; omega) (by omega) ?_
            refine b_cast (f' := (121, [some (.inr 192), some (.inl (m : Int)), some (.inl y), some (.inl z), some (.inl 0), some (.inl ((((lotC (lotI p y c v).1 (lotI p y c v).2 w).1) * 1664525) + 1013904223)), some (.inl (sumN v (fun (i : Nat) => shr p k f (lotI p y c (i + 1)).2 t 0))), some (.inl (sumN v (fun (i : Nat) => cntA p k f (lotI p y c (i + 1)).2 n l t))), some (.inl (v : Int)), some (.inl (w : Int))], [], [A0, A1, A2, A3, A4, A5, (modSeg re k f (((lotC (lotI p y c v).1 (lotI p y c v).2 w).2).set w (((aAnd (lcg (lotC (lotI p y c v).1 (lotI p y c v).2 w).1) 2147483647) / 256) % 36)) n kp l tp le la td kt2 sh1 so had gr fi se to (p : Int) t d (tl : Int) at_ sn imt 1 267 0 st (tc : Int))])) rfl ?_
            refine aGo okX8_lots 2 (f' := (80, [some (.inr 192), some (.inl (m : Int)), some (.inl y), some (.inl z), some (.inl 0), some (.inl ((((lotC (lotI p y c v).1 (lotI p y c v).2 w).1) * 1664525) + 1013904223)), some (.inl (sumN v (fun (i : Nat) => shr p k f (lotI p y c (i + 1)).2 t 0))), some (.inl (sumN v (fun (i : Nat) => cntA p k f (lotI p y c (i + 1)).2 n l t))), some (.inl (v : Int)), some (.inl ((w : Int) + 1))], [], _)) rfl ?_
            refine b_cast (f' := (80, [some (.inr 192), some (.inl (m : Int)), some (.inl y), some (.inl z), some (.inl 0), some (.inl ((lotC (lotI p y c v).1 (lotI p y c v).2 (w + 1)).1)), some (.inl (sumN v (fun (i : Nat) => shr p k f (lotI p y c (i + 1)).2 t 0))), some (.inl (sumN v (fun (i : Nat) => cntA p k f (lotI p y c (i + 1)).2 n l t))), some (.inl (v : Int)), some (.inl ((w : Int) + 1))], [], [A0, A1, A2, A3, A4, A5, (modSeg re k f ((lotC (lotI p y c v).1 (lotI p y c v).2 (w + 1)).2) n kp l tp le la td kt2 sh1 so had gr fi se to (p : Int) t d (tl : Int) at_ sn imt 1 267 0 st (tc : Int))])) rfl ?_
            exact ih2 (w + 1) (by omega)
        exact lq p 0 (by omega)
    exact lp m 0 sh (by omega) hsh
  · refine aGo okX8_lots 4 (f' := (45, [some (.inr 192), some (.inl (m : Int)), some (.inl y), some (.inl z), some (.inl (-3)), none, none, none, none, none], [.inl (-3)], _)) rfl ?_
    refine b0_eq (tgt := 55) okX8_lots rfl rfl ⟨by omega, by omega⟩ (fun h45 => absurd h45 (by omega)) (fun h45 => ?_)
    refine aGo okX8_lots 2 (f' := (51, [some (.inr 192), some (.inl (m : Int)), some (.inl y), some (.inl z), some (.inl (-3)), none, none, none, none, none], [.inl (-3), .inr 192], _)) rfl ?_
    exfalso; omega
