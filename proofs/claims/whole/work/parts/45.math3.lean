/-! One out of the others: the class's closed rows and the reference's sums that pass him over. -/
theorem skp_nwI {g q : Nat} (h : q ≠ g) : skp g (nwI g q) = q := by unfold skp nwI; split <;> split <;> omega
theorem nwI_skp (g i : Nat) : nwI g (skp g i) = i := by unfold skp nwI; split <;> split <;> omega
theorem skp_ne (g i : Nat) : skp g i ≠ g := by unfold skp; split <;> omega
theorem skp_lt {g i p : Nat} (hg : g ≤ p) (hi : i < p) : skp g i < p + 1 := by unfold skp; split <;> omega
theorem nwI_lt {g q p : Nat} (hg : g ≤ p) (hq : q < p + 1) (h : q ≠ g) : nwI g q < p := by unfold nwI; split <;> omega
theorem sum_skip (g : Nat) (F : Nat → Int) : ∀ m, sumN m (fun j => if j = g then 0 else F j) = sumN (nwI g m) (fun j => F (skp g j)) := by
  intro m
  induction m with
  | zero => rw [show nwI g 0 = 0 by unfold nwI; split <;> omega]; rfl
  | succ m ih =>
    simp only [sumN]; rw [ih]
    by_cases h : m = g
    · rw [if_pos h, nwI_eq (fun z => z h), Int.add_zero]
    · rw [if_neg h, nwI_ne h]; simp only [sumN]; rw [skp_nwI h]
theorem nwI_top {g p : Nat} (hg : g ≤ p) : nwI g (p + 1) = p := by unfold nwI; rw [if_pos (by omega)]; rfl
theorem shL_at {g : Nat} {m : List Int} : ∀ j, g + j < m.length → ∀ i, (shL g m j).getD i 0 = if g ≤ i ∧ i < g + j then m.getD (i + 1) 0 else m.getD i 0 := by
  intro j
  induction j with
  | zero => intro _ i; rw [if_neg (by omega)]; rfl
  | succ j ih =>
    intro hj i
    simp only [shL]
    rw [getD_set (by rw [shL_len]; omega)]
    by_cases h : i = g + j
    · subst h
      rw [if_pos rfl, ih (by omega), if_neg (by omega), if_pos (by omega)]
    · rw [if_neg h, ih (by omega)]
      by_cases h2 : g ≤ i ∧ i < g + j
      · rw [if_pos h2, if_pos (by omega)]
      · rw [if_neg h2, if_neg (by omega)]
theorem shL_skp {g p : Nat} {m : List Int} (hg : g ≤ p) (hl : p < m.length) {i : Nat} (hi : i < p) : (shL g m (p - g)).getD i 0 = m.getD (skp g i) 0 := by
  rw [shL_at _ (by omega)]
  unfold skp
  by_cases h : i < g
  · rw [if_neg (by omega), if_pos h]
  · rw [if_pos (by omega), if_neg h]
theorem rowL_at {m : List Int} {r : Nat} : ∀ x, x ≤ 7 → 7 * r + 14 ≤ m.length → ∀ e, (rowL m r x).getD e 0 = if 7 * r ≤ e ∧ e < 7 * r + x then m.getD (e + 7) 0 else m.getD e 0 := by
  intro x
  induction x with
  | zero => intro _ _ e; rw [if_neg (by omega)]; rfl
  | succ x ih =>
    intro hx hl e
    simp only [rowL]
    rw [getD_set (by rw [rowL_len]; omega)]
    by_cases h : e = 7 * r + x
    · subst h
      rw [if_pos rfl, ih (by omega) hl, if_neg (by omega), if_pos (by omega), show 7 * (r + 1) + x = 7 * r + x + 7 by omega]
    · rw [if_neg h, ih (by omega) hl]
      by_cases h2 : 7 * r ≤ e ∧ e < 7 * r + x
      · rw [if_pos h2, if_pos (by omega)]
      · rw [if_neg h2, if_neg (by omega)]
theorem rowsL_at {g u : Nat} {m : List Int} (hu : u ≤ 7) : ∀ j, 7 * (g + j) + 7 ≤ m.length → ∀ a b, b < u → (rowsL g u m j).getD (7 * a + b) 0 = if g ≤ a ∧ a < g + j then m.getD (7 * (a + 1) + b) 0 else m.getD (7 * a + b) 0 := by
  intro j
  induction j with
  | zero => intro _ a b _; rw [if_neg (by omega)]; rfl
  | succ j ih =>
    intro hj a b hb
    simp only [rowsL]
    rw [rowL_at u hu (by rw [rowsL_len]; omega)]
    by_cases h : a = g + j
    · subst h
      rw [if_pos (by omega), show 7 * (g + j) + b + 7 = 7 * (g + j + 1) + b by omega, ih (by omega) _ _ hb, if_neg (by omega), if_pos (by omega)]
    · rw [if_neg (by omega), ih (by omega) _ _ hb]
      by_cases h2 : g ≤ a ∧ a < g + j
      · rw [if_pos h2, if_pos (by omega)]
      · rw [if_neg h2, if_neg (by omega)]
theorem colL_at {m : List Int} {r : Nat} (hr : r + 1 < 7) : ∀ x, 7 * x ≤ m.length → ∀ a b, b < 7 → (colL m r x).getD (7 * a + b) 0 = if b = r ∧ a < x then m.getD (7 * a + (r + 1)) 0 else m.getD (7 * a + b) 0 := by
  intro x
  induction x with
  | zero => intro _ a b _; rw [if_neg (by omega)]; rfl
  | succ x ih =>
    intro hl a b hb
    simp only [colL]
    rw [getD_set (by rw [colL_len]; omega)]
    by_cases h : 7 * a + b = 7 * x + r
    · have h1 : a = x := by omega
      have h2 : b = r := by omega
      subst h1; subst h2
      rw [if_pos rfl, ih (by omega) _ _ (by omega), if_neg (by omega), if_pos (by omega)]
    · rw [if_neg h, ih (by omega) _ _ hb]
      by_cases h2 : b = r ∧ a < x
      · rw [if_pos h2, if_pos (by omega)]
      · rw [if_neg h2, if_neg (by omega)]
theorem colsL_at {g u : Nat} {m : List Int} (hu : 7 * u ≤ m.length) : ∀ j, g + j < 7 → ∀ a b, b < 7 → a < u → (colsL g u m j).getD (7 * a + b) 0 = if g ≤ b ∧ b < g + j then m.getD (7 * a + (b + 1)) 0 else m.getD (7 * a + b) 0 := by
  intro j
  induction j with
  | zero => intro _ a b _ _; rw [if_neg (by omega)]; rfl
  | succ j ih =>
    intro hj a b hb ha
    simp only [colsL]
    rw [colL_at (by omega) u (by rw [colsL_len]; omega) _ _ hb]
    by_cases h : b = g + j
    · subst h
      rw [if_pos (by omega), ih (by omega) _ _ (by omega) ha, if_neg (by omega), if_pos (by omega)]
    · rw [if_neg (by omega), ih (by omega) _ _ hb ha]
      by_cases h2 : g ≤ b ∧ b < g + j
      · rw [if_pos h2, if_pos (by omega)]
      · rw [if_neg h2, if_neg (by omega)]
theorem rem_at {g p : Nat} {l : List Int} (hp : p ≤ 6) (hg : g ≤ p) (hl : l.length = 49) {a b : Nat} (ha : a < p) (hb : b < p) : (colsL g (p + 1) (rowsL g (p + 1) l (p - g)) (p - g)).getD (7 * a + b) 0 = l.getD (7 * skp g a + skp g b) 0 := by
  rw [colsL_at (by rw [rowsL_len]; omega) _ (by omega) _ _ (by omega) (by omega)]
  unfold skp
  by_cases h : b < g
  · rw [if_neg (by omega), if_pos h, rowsL_at (by omega) _ (by omega) _ _ (by omega)]
    by_cases h2 : a < g
    · rw [if_neg (by omega), if_pos h2]
    · rw [if_pos (by omega), if_neg h2]
  · rw [if_pos (by omega), if_neg h, rowsL_at (by omega) _ (by omega) _ _ (by omega)]
    by_cases h2 : a < g
    · rw [if_neg (by omega), if_pos h2]
    · rw [if_pos (by omega), if_neg h2]
theorem far_skp {p g : Nat} {c : List Int} (hg : g ≤ p) (hc : p < c.length) {i : Nat} (hi : i < p) : sumN (p + 1) (farT c g (skp g i)) = far p (shL g c (p - g)) i := by
  have h := sum_skip g (fun j => stp (c.getD (skp g i) 0) (c.getD j 0)) (p + 1)
  rw [nwI_top hg] at h
  refine Eq.trans h ?_
  unfold far
  exact sumN_congr fun j hj => by rw [shL_skp hg hc hi, shL_skp hg hc hj]
theorem near_skp {p g : Nat} {c : List Int} (hg : g ≤ p) (hc : p < c.length) {i : Nat} (hi : i < p) : ∀ m, m ≤ p + 1 → nearG m c g (skp g i) = near (nwI g m) (shL g c (p - g)) i := by
  intro m
  induction m with
  | zero => intro _; rw [show nwI g 0 = 0 by unfold nwI; split <;> omega]; rfl
  | succ m ih =>
    intro hm
    simp only [nearG]; rw [ih (by omega)]
    by_cases h : m = g
    · rw [if_pos (Or.inr h), nwI_eq (fun z => z h)]
    · rw [nwI_ne h]; simp only [near]
      have hm2 : nwI g m < p := nwI_lt hg (by omega) h
      by_cases h2 : m = skp g i
      · rw [if_pos (Or.inl h2), if_pos (by rw [h2, nwI_skp])]
      · rw [if_neg (by omega), if_neg (fun z => h2 (by rw [← z, skp_nwI h])), shL_skp hg hc hi, shL_skp hg hc hm2, skp_nwI h]
theorem wG_skp {p g : Nat} {k f c : List Int} (hg : g ≤ p) (hk : p < k.length) (hf : p < f.length) (hc : p < c.length) {i : Nat} (hi : i < p) : wG (p + 1) k f c g (skp g i) = wt p (shL g k (p - g)) (shL g f (p - g)) (shL g c (p - g)) i := by
  unfold wG wt
  rw [far_skp hg hc hi, near_skp hg hc hi (p + 1) (Nat.le_refl _), nwI_top hg, shL_skp hg hk hi, shL_skp hg hf hi]
theorem wZ_sum {p g : Nat} {k f c : List Int} (hg : g ≤ p) (hk : p < k.length) (hf : p < f.length) (hc : p < c.length) : sumN (p + 1) (wZ (p + 1) k f c g) = sumN p (wt p (shL g k (p - g)) (shL g f (p - g)) (shL g c (p - g))) := by
  have h := sum_skip g (fun j => wG (p + 1) k f c g j) (p + 1)
  rw [nwI_top hg] at h
  refine Eq.trans h ?_
  exact sumN_congr fun j hj => wG_skp hg hk hf hc hj
theorem cut_skp {p g : Nat} {k f c : List Int} {t : Int} (hg : g ≤ p) (hk : p < k.length) (hf : p < f.length) (hc : p < c.length) {i : Nat} (hi : i < p) : cutS (p + 1) (wZ (p + 1) k f c g) t (skp g i) = cutS p (wt p (shL g k (p - g)) (shL g f (p - g)) (shL g c (p - g))) t i := by
  unfold cutS
  rw [wZ_sum hg hk hf hc, wZ_f (skp_ne g i), wG_skp hg hk hf hc hi]
theorem lef_skp {p g : Nat} {k f c : List Int} {t : Int} (hg : g ≤ p) (hk : p < k.length) (hf : p < f.length) (hc : p < c.length) : lefS (p + 1) (wZ (p + 1) k f c g) t = lefS p (wt p (shL g k (p - g)) (shL g f (p - g)) (shL g c (p - g))) t := by
  have h := sum_skip g (fun j => cutS (p + 1) (wZ (p + 1) k f c g) t j) (p + 1)
  rw [nwI_top hg] at h
  unfold lefS
  congr 1
  refine Eq.trans (sumN_congr fun j _ => ?_) (h.trans (sumN_congr fun j hj => cut_skp hg hk hf hc hj))
  by_cases z : j = g
  · rw [if_pos z, cutS_z (wZ_t (fun y => y z))]
  · rw [if_neg z]
theorem shG_R {p g : Nat} {k f c : List Int} {t : Int} (hg : g ≤ p) (hk : p < k.length) (hf : p < f.length) (hc : p < c.length) {q : Nat} (hq : q < p + 1) (h : q ≠ g) : shG (p + 1) k f c t g q = shrR p k f c t g (nwI g q) := by
  unfold shG shrR shr shrS
  have hn := nwI_lt hg hq h
  have e := cut_skp (t := t) hg hk hf hc hn
  rw [skp_nwI h] at e
  rw [if_neg h, e, lef_skp hg hk hf hc]
theorem netG_R {p g : Nat} {l : List Int} (hp : p ≤ 6) (hg : g ≤ p) (hl : l.length = 49) {q : Nat} (hq : q < p + 1) (h : q ≠ g) : sumN (p + 1) (netT l g q) = netR p l g (nwI g q) := by
  have hn := nwI_lt hg hq h
  have e := sum_skip g (fun j => l.getD (7 * q + j) 0 - l.getD (7 * j + q) 0) (p + 1)
  rw [nwI_top hg] at e
  refine Eq.trans e ?_
  unfold netR net
  exact sumN_congr fun j hj => by rw [rem_at hp hg hl hn hj, rem_at hp hg hl hj hn, skp_nwI h]
theorem tk_eq {p : Nat} {k f c : List Int} {t : Int} (hk : p ≤ k.length) (hf : p ≤ f.length) (hc : p ≤ c.length) {g i : Nat} (hg : g < p) (hi : i < p) (h : i ≠ g) : shG p k f c t g i - shr p k f c t i = tkF (p - 1) k f c t g i := by
  obtain ⟨p, rfl⟩ : ∃ q, p = q + 1 := ⟨p - 1, by omega⟩
  rw [shG_R (by omega) (by omega) (by omega) (by omega) hi h]
  rfl
theorem gw_eq {p : Nat} {k f c l : List Int} {t : Int} (hp7 : p ≤ 7) (hk : p ≤ k.length) (hf : p ≤ f.length) (hc : p ≤ c.length) (hl : l.length = 49) {g : Nat} (hg : g < p) : cntN p (gdP p k f c l t g) = gwF (p - 1) k f c l t g p := by
  obtain ⟨p, rfl⟩ : ∃ q, p = q + 1 := ⟨p - 1, by omega⟩
  rw [Nat.add_sub_cancel]
  unfold cntN gwF
  refine sumN_congr fun q hq => ?_
  by_cases z : q = g
  · rw [gdP_f (fun y => y.1 z), if_neg (by decide), if_neg (fun y => y.1 z)]
  · have e1 := shG_R (t := t) (k := k) (f := f) (c := c) (g := g) (by omega) (by omega) (by omega) (by omega) hq z
    have e2 := netG_R (p := p) (l := l) (g := g) (by omega) (by omega) hl hq z
    by_cases y : gwP p k f c l t g q
    · rw [gdP_t z (by rw [e1, e2]; exact y.2), if_pos rfl, if_pos y]
    · rw [gdP_f (fun x => y ⟨x.1, by have := x.2; rw [e1, e2] at this; exact this⟩), if_neg (by decide), if_neg y]
/-! searches for the most -/
theorem amy_start {F : Nat → Int} {u w a b : Int} (ha : a < F 0) (hb : b < F 0) : ∀ x, amy F (u, a) (x + 1) = amy F (w, b) (x + 1) := by
  intro x
  induction x with
  | zero => rw [amy_t (z := (u, a)) ha, amy_t (z := (w, b)) hb]
  | succ x ih =>
    have e1 : amy F (u, a) (x + 2) = if (amy F (u, a) (x + 1)).2 < F (x + 1) then (((x + 1 : Nat) : Int), F (x + 1)) else amy F (u, a) (x + 1) := rfl
    have e2 : amy F (w, b) (x + 2) = if (amy F (w, b) (x + 1)).2 < F (x + 1) then (((x + 1 : Nat) : Int), F (x + 1)) else amy F (w, b) (x + 1) := rfl
    rw [e1, e2, ih]
theorem amy_val {F : Nat → Int} {z : Int × Int} (h : z.2 < F 0) : ∀ x, ∃ y : Nat, y ≤ x ∧ amy F z (x + 1) = ((y : Int), F y) := by
  intro x
  induction x with
  | zero => exact ⟨0, Nat.le_refl 0, amy_t h⟩
  | succ x ih =>
    obtain ⟨y, h1, h2⟩ := ih
    by_cases h3 : (amy F z (x + 1)).2 < F (x + 1)
    · exact ⟨x + 1, Nat.le_refl _, amy_t h3⟩
    · exact ⟨y, by omega, by rw [amy_f (by omega), h2]⟩
theorem amy_congr {F G : Nat → Int} {z : Int × Int} {m : Nat} (h : ∀ q, q < m → F q = G q) : ∀ x, x ≤ m → amy F z x = amy G z x := by
  intro x
  induction x with
  | zero => intro _; rfl
  | succ x ih => intro hx; simp only [amy]; rw [ih (by omega), h x (by omega)]
theorem amy_const {F : Nat → Int} {v : Int} {z : Int × Int} (hF : ∀ q, F q = v) (h : z.2 < v) : ∀ x, amy F z (x + 1) = (0, v) := by
  intro x
  induction x with
  | zero => rw [amy_t (by rw [hF]; exact h), hF]; rfl
  | succ x ih => rw [amy_f (by rw [ih, hF]; exact Int.le_refl v), ih]
theorem wfN_congr {i : Nat} {F G : Nat → Int} {m : Nat} (h : ∀ q, q < m → q ≠ i → F q = G q) : ∀ x, x ≤ m → wfN i F x = wfN i G x := by
  intro x
  induction x with
  | zero => intro _; rfl
  | succ x ih =>
    intro hx
    simp only [wfN]; rw [ih (by omega)]
    by_cases z : x = i
    · rw [if_pos z, if_pos z]
    · rw [if_neg z, if_neg z, h x (by omega) z]
/-! first days -/
theorem lastF_F {P : Nat → Bool} : ∀ j i, lastF P j i = if firstF P j i = -9 then 99 else firstF P j i - 1 := by
  intro j
  induction j with
  | zero => intro i; rfl
  | succ j ih =>
    intro i
    cases h : P i with
    | true => rw [lastF_t h, firstF_t h, if_neg (by omega)]; omega
    | false => rw [lastF_f h, firstF_f h, ih]
/-- what firstF finds -/
theorem firstF_is {P : Nat → Bool} : ∀ j i, (firstF P j i = -9 ∧ ∀ q, i ≤ q → q < i + j → P q = false) ∨ ∃ v, i ≤ v ∧ v < i + j ∧ firstF P j i = (v : Int) + 1 ∧ P v = true ∧ ∀ q, i ≤ q → q < v → P q = false := by
  intro j
  induction j with
  | zero => intro i; exact Or.inl ⟨rfl, fun q h1 h2 => by omega⟩
  | succ j ih =>
    intro i
    cases h : P i with
    | true => exact Or.inr ⟨i, Nat.le_refl i, by omega, firstF_t h, h, fun q h1 h2 => by omega⟩
    | false =>
      rw [firstF_f h]
      rcases ih (i + 1) with ⟨h1, h2⟩ | ⟨v, h1, h2, h3, h4, h5⟩
      · exact Or.inl ⟨h1, fun q g1 g2 => by
          by_cases z : q = i
          · rw [z]; exact h
          · exact h2 q (by omega) (by omega)⟩
      · exact Or.inr ⟨v, by omega, by omega, h3, h4, fun q g1 g2 => by
          by_cases z : q = i
          · rw [z]; exact h
          · exact h5 q (by omega) g2⟩
theorem firstF_at {P : Nat → Bool} {j v : Nat} (hv : v < j) (h : P v = true) (h2 : ∀ q, q < v → P q = false) : firstF P j 0 = (v : Int) + 1 := by
  rcases firstF_is (P := P) j 0 with ⟨_, g⟩ | ⟨w, h3, h4, h5, h6, h7⟩
  · rw [g v (by omega) (by omega)] at h; cases h
  · have e : w = v := by
      rcases Nat.lt_trichotomy w v with z | z | z
      · rw [h2 w z] at h6; cases h6
      · exact z
      · rw [h7 v (by omega) z] at h; cases h
    rw [h5, e]
theorem firstF_no {P : Nat → Bool} {j : Nat} (h : ∀ q, q < j → P q = false) : firstF P j 0 = -9 := by
  rcases firstF_is (P := P) j 0 with ⟨g, _⟩ | ⟨w, h3, h4, h5, h6, h7⟩
  · exact g
  · rw [h w (by omega)] at h6; cases h6
theorem firstQ_is {P : Nat → Bool} : ∀ j i, (firstQ P j i = -9 ∧ ∀ q, i ≤ q → q < i + j → P q = false) ∨ ∃ v, i ≤ v ∧ v < i + j ∧ firstQ P j i = (v : Int) ∧ P v = true ∧ ∀ q, i ≤ q → q < v → P q = false := by
  intro j
  induction j with
  | zero => intro i; exact Or.inl ⟨rfl, fun q h1 h2 => by omega⟩
  | succ j ih =>
    intro i
    cases h : P i with
    | true => exact Or.inr ⟨i, Nat.le_refl i, by omega, firstQ_t h, h, fun q h1 h2 => by omega⟩
    | false =>
      rw [firstQ_f h]
      rcases ih (i + 1) with ⟨h1, h2⟩ | ⟨v, h1, h2, h3, h4, h5⟩
      · exact Or.inl ⟨h1, fun q g1 g2 => by
          by_cases z : q = i
          · rw [z]; exact h
          · exact h2 q (by omega) (by omega)⟩
      · exact Or.inr ⟨v, by omega, by omega, h3, h4, fun q g1 g2 => by
          by_cases z : q = i
          · rw [z]; exact h
          · exact h5 q (by omega) g2⟩
theorem firstQ_at {P : Nat → Bool} {j v : Nat} (hv : v < j) (h : P v = true) (h2 : ∀ q, q < v → P q = false) : firstQ P j 0 = (v : Int) := by
  rcases firstQ_is (P := P) j 0 with ⟨_, g⟩ | ⟨w, h3, h4, h5, h6, h7⟩
  · rw [g v (by omega) (by omega)] at h; cases h
  · have e : w = v := by
      rcases Nat.lt_trichotomy w v with z | z | z
      · rw [h2 w z] at h6; cases h6
      · exact z
      · rw [h7 v (by omega) z] at h; cases h
    rw [h5, e]
theorem firstQ_no {P : Nat → Bool} {j : Nat} (h : ∀ q, q < j → P q = false) : firstQ P j 0 = -9 := by
  rcases firstQ_is (P := P) j 0 with ⟨g, _⟩ | ⟨w, h3, h4, h5, h6, h7⟩
  · exact g
  · rw [h w (by omega)] at h6; cases h6
theorem firstO_skip {P : Nat → Nat → Bool} {p j i : Nat} : ∀ s, i + s ≤ j → (∀ e, i ≤ e → e < i + s → ∀ q, q < p → P e q = false) → firstO P p (j - i) i = firstO P p (j - (i + s)) (i + s) := by
  intro s
  induction s with
  | zero => intro _ _; rfl
  | succ s ih =>
    intro h1 h2
    rw [ih (by omega) (fun e g1 g2 => h2 e g1 (by omega))]
    obtain ⟨u, hu⟩ : ∃ u, j - (i + s) = u + 1 := ⟨j - (i + s) - 1, by omega⟩
    rw [hu, firstO_f (firstQ_no (fun q hq => h2 (i + s) (by omega) (by omega) q hq)), show j - (i + (s + 1)) = u by omega]; rfl
/-- who is short first of all, person by person -/
def fsM (S : Nat → Int) : Nat → Int × Int
  | 0 => (-9, -9)
  | q + 1 => if S q < 0 ∨ (0 ≤ (fsM S q).1 ∧ (fsM S q).2 ≤ S q) then fsM S q else ((q : Int), S q)
theorem fsM_f {S : Nat → Int} {q : Nat} (h : S q < 0 ∨ (0 ≤ (fsM S q).1 ∧ (fsM S q).2 ≤ S q)) : fsM S (q + 1) = fsM S q := if_pos h
theorem fsM_t {S : Nat → Int} {q : Nat} (h : ¬ (S q < 0 ∨ (0 ≤ (fsM S q).1 ∧ (fsM S q).2 ≤ S q))) : fsM S (q + 1) = ((q : Int), S q) := if_neg h
theorem fsM_is {P : Nat → Nat → Bool} : ∀ m, (fsM (fun q => firstF (P q) 99 0) m = (-9, -9) ∧ ∀ q, q < m → ∀ j, j < 99 → P q j = false) ∨
    ∃ b v : Nat, b < m ∧ v < 99 ∧ fsM (fun q => firstF (P q) 99 0) m = ((b : Int), (v : Int) + 1) ∧ P b v = true ∧ (∀ q, q < m → ∀ j, j < v → P q j = false) ∧ ∀ q, q < b → P q v = false := by
  intro m
  induction m with
  | zero => exact Or.inl ⟨rfl, fun q h => by omega⟩
  | succ m ih =>
    rcases firstF_is (P := P m) 99 0 with ⟨g1, g2⟩ | ⟨w, w1, w2, w3, w4, w5⟩
    · have e := fsM_f (S := fun q => firstF (P q) 99 0) (q := m) (Or.inl (by show firstF (P m) 99 0 < 0; rw [g1]; decide))
      rw [e]
      rcases ih with ⟨h1, h2⟩ | ⟨b, v, h1, h2, h3, h4, h5, h6⟩
      · exact Or.inl ⟨h1, fun q hq j hj => by
          by_cases z : q = m
          · rw [z]; exact g2 j (by omega) (by omega)
          · exact h2 q (by omega) j hj⟩
      · exact Or.inr ⟨b, v, by omega, h2, h3, h4, fun q hq j hj => by
          by_cases z : q = m
          · rw [z]; exact g2 j (by omega) (by omega)
          · exact h5 q (by omega) j hj, h6⟩
    · rcases ih with ⟨h1, h2⟩ | ⟨b, v, h1, h2, h3, h4, h5, h6⟩
      · have e := fsM_t (S := fun q => firstF (P q) 99 0) (q := m) (by rw [h1]; show ¬ (firstF (P m) 99 0 < 0 ∨ _); rw [w3]; simp only; omega)
        refine Or.inr ⟨m, w, by omega, by omega, by rw [e]; show ((m : Int), firstF (P m) 99 0) = _; rw [w3], w4, fun q hq j hj => ?_, fun q hq => h2 q hq w (by omega)⟩
        by_cases z : q = m
        · rw [z]; exact w5 j (by omega) hj
        · exact h2 q (by omega) j (by omega)
      · by_cases y : v ≤ w
        · have e := fsM_f (S := fun q => firstF (P q) 99 0) (q := m) (Or.inr (by rw [h3]; show 0 ≤ (b : Int) ∧ (v : Int) + 1 ≤ firstF (P m) 99 0; rw [w3]; omega))
          rw [e]
          refine Or.inr ⟨b, v, by omega, h2, h3, h4, fun q hq j hj => ?_, h6⟩
          by_cases z : q = m
          · rw [z]; exact w5 j (by omega) (by omega)
          · exact h5 q (by omega) j hj
        · have e := fsM_t (S := fun q => firstF (P q) 99 0) (q := m) (by rw [h3]; show ¬ (firstF (P m) 99 0 < 0 ∨ 0 ≤ (b : Int) ∧ (v : Int) + 1 ≤ firstF (P m) 99 0); rw [w3]; omega)
          refine Or.inr ⟨m, w, by omega, by omega, by rw [e]; show ((m : Int), firstF (P m) 99 0) = _; rw [w3], w4, fun q hq j hj => ?_, fun q hq => h5 q hq w (by omega)⟩
          by_cases z : q = m
          · rw [z]; exact w5 j (by omega) hj
          · exact h5 q (by omega) j (by omega)
theorem bits_any {p : Nat} (hp : p ≤ 7) (P : Nat → Bool) : (!decide (bitsN p P = 0)) = true ↔ ∃ q, q < p ∧ P q = true := by
  have h := bits_zero hp P
  constructor
  · intro z
    have z2 : ¬ bitsN p P = 0 := by simpa using z
    rcases Classical.em (∃ q, q < p ∧ P q = true) with y | y
    · exact y
    · exact absurd (h.mpr fun q hq => by
        cases e : P q with
        | false => rfl
        | true => exact absurd ⟨q, hq, e⟩ y) z2
  · rintro ⟨q, hq, e⟩
    have : ¬ bitsN p P = 0 := fun z => by rw [h.mp z q hq] at e; cases e
    simpa using this
theorem short_day {p : Nat} (hp : p ≤ 7) {P : Nat → Nat → Bool} : (fsM (fun q => firstF (P q) 99 0) p).2 = firstF (fun j => !decide (bitsN p (fun q => P q j) = 0)) 99 0 := by
  rcases fsM_is (P := P) p with ⟨h1, h2⟩ | ⟨b, v, h1, h2, h3, h4, h5, h6⟩
  · rw [h1, firstF_no]
    intro q hq
    cases e : (!decide (bitsN p (fun i => P i q) = 0)) with
    | false => rfl
    | true => obtain ⟨i, hi, z⟩ := (bits_any hp _).mp e; rw [h2 i hi q hq] at z; cases z
  · rw [h3, firstF_at (v := v) h2 ((bits_any hp _).mpr ⟨b, h1, h4⟩)]
    intro q hq
    cases e : (!decide (bitsN p (fun i => P i q) = 0)) with
    | false => rfl
    | true => obtain ⟨i, hi, z⟩ := (bits_any hp _).mp e; rw [h5 i hi q hq] at z; cases z
theorem short_one {p : Nat} {P : Nat → Nat → Bool} : (fsM (fun q => firstF (P q) 99 0) p).1 = firstO (fun j q => P q j) p 99 0 := by
  rcases fsM_is (P := P) p with ⟨h1, h2⟩ | ⟨b, v, h1, h2, h3, h4, h5, h6⟩
  · rw [h1]
    have := firstO_skip (P := fun j q => P q j) (p := p) (j := 99) (i := 0) 99 (by omega) (fun e _ he q hq => h2 q hq e (by omega))
    rw [show 99 - 0 = 99 by rfl] at this
    rw [this]; rfl
  · rw [h3]
    have := firstO_skip (P := fun j q => P q j) (p := p) (j := 99) (i := 0) v (by omega) (fun e _ he q hq => h5 q hq e (by omega))
    rw [show 99 - 0 = 99 by rfl] at this
    rw [this]
    obtain ⟨u, hu⟩ : ∃ u, 99 - (0 + v) = u + 1 := ⟨99 - (0 + v) - 1, by omega⟩
    have e : firstQ ((fun j q => P q j) (0 + v)) p 0 = (b : Int) := by
      rw [Nat.zero_add]; exact firstQ_at h1 h4 h6
    rw [hu, firstO_t (by rw [e]; omega), e]
