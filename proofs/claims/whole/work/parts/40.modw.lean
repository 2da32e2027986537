/-! Words of the reference; laid by gen_mod.py -/
/-- who is out, as a bit: 7 for nobody -/
def ouB (g : Nat) : Int := if g < 7 then aShl 1 (g : Int) else 0
theorem ou_bit : ∀ g : Nat, g < 8 → ∀ i : Nat, i < 7 → aAnd (aShr (ouB g) (i : Int)) 1 = if i = g then 1 else 0 := by decide +kernel
/-- steps to the others that are not out -/
def farT (c : List Int) (g i j : Nat) : Int := if j = g then 0 else stp (c.getD i 0) (c.getD j 0)
theorem farT_t {c : List Int} {g i j : Nat} (h : ¬ j ≠ g) : farT c g i j = 0 := if_pos (Classical.not_not.mp h)
theorem farT_f {c : List Int} {g i j : Nat} (h : j ≠ g) : farT c g i j = stp (c.getD i 0) (c.getD j 0) := if_neg h
theorem farT_le {c : List Int} (hc : rng c 35) (g i j : Nat) : 0 ≤ farT c g i j ∧ farT c g i j ≤ 10 := by
  have := stp_le (hc i) (hc j)
  unfold farT; split <;> omega
theorem farG_le {m : Nat} {c : List Int} (hc : rng c 35) (hm : m ≤ 7) (g i : Nat) : 0 ≤ sumN m (farT c g i) ∧ sumN m (farT c g i) ≤ 70 := by
  have h1 := sumN_ge (n := m) (F := farT c g i) (b := 0) (fun j _ => (farT_le hc g i j).1)
  have h2 := sumN_le (n := m) (F := farT c g i) (b := 10) (fun j _ => (farT_le hc g i j).2)
  omega
def nearG : Nat → List Int → Nat → Nat → Int
  | 0, _, _, _ => 10
  | j + 1, c, g, i => if j = i ∨ j = g then nearG j c g i else min (nearG j c g i) (stp (c.getD i 0) (c.getD j 0))
theorem nearG_iff {m : Nat} {c : List Int} {g i : Nat} : 3 ≤ nearG m c g i ↔ ∀ q, q < m → q ≠ i → q ≠ g → 3 ≤ stp (c.getD i 0) (c.getD q 0) := by
  induction m with
  | zero => exact ⟨fun _ q hq => absurd hq (by omega), fun _ => (by decide : (3 : Int) ≤ 10)⟩
  | succ m ih =>
    simp only [nearG]
    constructor
    · intro h q hq h1 h2
      by_cases z : m = i ∨ m = g
      · rw [if_pos z] at h
        exact ih.mp h q (by omega) h1 h2
      · rw [if_neg z] at h
        by_cases y : q = m
        · subst y; omega
        · exact ih.mp (by omega) q (by omega) h1 h2
    · intro h
      have h3 := ih.mpr (fun q hq => h q (by omega))
      split
      · exact h3
      · have := h m (by omega) (by omega) (by omega); omega
def wG (p : Nat) (k f c : List Int) (g i : Nat) : Int := wtOf (k.getD i 0) (f.getD i 0) (max 1 (sumN p (farT c g i))) (nearG p c g i)
def wZ (p : Nat) (k f c : List Int) (g i : Nat) : Int := if i = g then 0 else wG p k f c g i
section WGK
variable {p g : Nat} {k f c : List Int} {i : Nat}
theorem wG_0 (h : k.getD i 0 = 0) : wG p k f c g i = max 1 (sumN p (farT c g i)) := by unfold wG; rw [h]; simp [wtOf]
theorem wG_1 (h : k.getD i 0 = 1) : wG p k f c g i = max 1 (sumN p (farT c g i)) + f.getD i 0 := by unfold wG; rw [h]; simp [wtOf]
theorem wG_2 (h : k.getD i 0 = 2) : wG p k f c g i = 2 * max 1 (sumN p (farT c g i)) := by unfold wG; rw [h]; simp [wtOf]
theorem wG_3 (h : k.getD i 0 = 3) : wG p k f c g i = max 1 (max 1 (sumN p (farT c g i)) / 2) := by unfold wG; rw [h]; simp [wtOf]
theorem wG_4f (h : k.getD i 0 = 4) (h2 : ¬ 3 ≤ nearG p c g i) : wG p k f c g i = max 1 (sumN p (farT c g i)) + f.getD i 0 := by unfold wG; rw [h]; simp [wtOf, show nearG p c g i < 3 by omega]
theorem wG_4t (h : k.getD i 0 = 4) (h2 : 3 ≤ nearG p c g i) : wG p k f c g i = max 1 (sumN p (farT c g i)) + f.getD i 0 + 5 := by unfold wG; rw [h]; simp [wtOf, show ¬ nearG p c g i < 3 by omega]
theorem wG_5 (h : k.getD i 0 = 5) : wG p k f c g i = max 1 (max 1 (max 1 (sumN p (farT c g i)) / 2) - f.getD i 0) := by unfold wG; rw [h]; simp [wtOf]
theorem wG_le (hp : p ≤ 7) (hf : rng f 9) (hc : rng c 35) (g i : Nat) : 1 ≤ wG p k f c g i ∧ wG p k f c g i ≤ 200 := by
  have h1 := farG_le hc hp g i
  have h2 := hf i
  unfold wG wtOf
  repeat' split
  all_goals omega
theorem wZ_t (h : ¬ i ≠ g) : wZ p k f c g i = 0 := if_pos (Classical.not_not.mp h)
theorem wZ_f (h : i ≠ g) : wZ p k f c g i = wG p k f c g i := if_neg h
theorem wZ_le (hp : p ≤ 7) (hf : rng f 9) (hc : rng c 35) (g i : Nat) : 0 ≤ wZ p k f c g i ∧ wZ p k f c g i ≤ 200 := by
  have := wG_le (k := k) hp hf hc g i
  unfold wZ; split <;> omega
theorem wZs_le (hp : p ≤ 7) (hf : rng f 9) (hc : rng c 35) (g : Nat) {m : Nat} (hm : m ≤ 7) : 0 ≤ sumN m (wZ p k f c g) ∧ sumN m (wZ p k f c g) ≤ 1400 := by
  have h1 := sumN_ge (n := m) (F := wZ p k f c g) (b := 0) (fun j _ => (wZ_le hp hf hc g j).1)
  have h2 := sumN_le (n := m) (F := wZ p k f c g) (b := 200) (fun j _ => (wZ_le hp hf hc g j).2)
  omega
end WGK
theorem sum_one {m : Nat} {w : Nat → Int} (h : ∀ q, q < m → 0 ≤ w q) {i : Nat} (hi : i < m) : w i ≤ sumN m w := by
  induction m with
  | zero => omega
  | succ m ih =>
    simp only [sumN]
    have h0 := h m (by omega)
    have hs := sumN_ge (n := m) (F := w) (b := 0) (fun j hj => h j (by omega))
    by_cases e : i = m
    · subst e; omega
    · have := ih (fun q hq => h q (by omega)) (by omega); omega
theorem cutS_leZ {p : Nat} {w : Nat → Int} {t : Int} (ht : 0 ≤ t) (hw : ∀ q, q < p → 0 ≤ w q) (hs : 1 ≤ sumN p w) {i : Nat} (hi : i < p) : 0 ≤ cutS p w t i ∧ cutS p w t i ≤ t := by
  have h1 := sum_one hw hi
  have h0 := hw i hi
  unfold cutS
  refine ⟨Int.ediv_nonneg (Int.mul_nonneg ht h0) (by omega), ?_⟩
  refine Int.le_trans (Int.ediv_le_ediv (by omega) (Int.mul_le_mul_of_nonneg_left h1 ht)) ?_
  rw [Int.mul_ediv_cancel _ (by omega)]
  exact Int.le_refl t
theorem lefS_leZ {p : Nat} {w : Nat → Int} {t : Int} (hs : 1 ≤ sumN p w) : 0 ≤ lefS p w t ∧ lefS p w t < p := by
  have hp : 0 < p := by
    rcases Nat.eq_zero_or_pos p with q | q
    · subst q; simp [sumN] at hs
    · exact q
  have e : ∀ m, sumN p w * sumN m (cutS p w t) = t * sumN m w - sumN m (fun i => t * w i % sumN p w) := by
    intro m
    induction m with
    | zero => simp [sumN]
    | succ m ih =>
      simp only [sumN]
      rw [Int.mul_add, ih, Int.mul_add]
      have := Int.mul_ediv_add_emod (t * w m) (sumN p w)
      unfold cutS
      omega
  have h1 := e p
  have h2 := sumN_ge (n := p) (F := fun i => t * w i % sumN p w) (b := 0) (fun i _ => Int.emod_nonneg _ (by omega))
  have h3 := sumN_le (n := p) (F := fun i => t * w i % sumN p w) (b := sumN p w - 1) (fun i _ => by have := Int.emod_lt_of_pos (t * w i) (b := sumN p w) (by omega); omega)
  unfold lefS
  generalize sumN p (cutS p w t) = C at *
  generalize sumN p (fun i => t * w i % sumN p w) = E at *
  generalize sumN p w = W at *
  have e1 : W * (t - C) = E := by rw [Int.mul_sub, h1, Int.mul_comm t W]; omega
  have hp1 : (1 : Int) ≤ p := by omega
  constructor
  · rcases Int.lt_or_le (t - C) 0 with q | q
    · have : W * (t - C) ≤ W * (-1) := Int.mul_le_mul_of_nonneg_left (by omega) (by omega)
      omega
    · exact q
  · rcases Int.lt_or_le (t - C) p with q | q
    · exact q
    · have z1 : W * p ≤ W * (t - C) := Int.mul_le_mul_of_nonneg_left q (by omega)
      have z2 : (p : Int) * (W - 1) = W * p - p := by rw [Int.mul_sub, Int.mul_one, Int.mul_comm]
      omega
theorem cutS_z {p : Nat} {w : Nat → Int} {t : Int} {i : Nat} (h : w i = 0) : cutS p w t i = 0 := by unfold cutS; rw [h]; simp
/-- nobody has a weight: nothing is cut -/
theorem lefS_none {p : Nat} {w : Nat → Int} {t : Int} (h : ∀ q, q < p → w q = 0) : lefS p w t = t := by
  have : sumN p (cutS p w t) = sumN p (fun _ => 0) := sumN_congr fun q hq => cutS_z (h q hq)
  have h2 := sumN_ge (n := p) (F := fun _ => (0 : Int)) (b := 0) (fun _ _ => Int.le_refl 0)
  have h3 := sumN_le (n := p) (F := fun _ => (0 : Int)) (b := 0) (fun _ _ => Int.le_refl 0)
  unfold lefS; rw [this]; omega
theorem lefS_le0 {p : Nat} {w : Nat → Int} {t : Int} (ht : 0 ≤ t) (h : ∀ q, q < p → 0 ≤ w q) : 0 ≤ lefS p w t ∧ lefS p w t ≤ t := by
  rcases Int.lt_or_le 0 (sumN p w) with z | z
  · refine ⟨(lefS_leZ (by omega)).1, ?_⟩
    have := sumN_ge (n := p) (F := cutS p w t) (b := 0) (fun q hq => (cutS_leZ ht h (by omega) hq).1)
    unfold lefS; omega
  · have : lefS p w t = t := lefS_none fun q hq => by
      have := sum_one h hq; have := h q hq; omega
    omega
theorem nwI_ne {g v : Nat} (h : v ≠ g) : nwI g (v + 1) = nwI g v + 1 := by unfold nwI; split <;> split <;> omega
theorem nwI_eq {g v : Nat} (h : ¬ v ≠ g) : nwI g (v + 1) = nwI g v := by unfold nwI; split <;> split <;> omega
theorem nwI_mono {g a b : Nat} (h : a ≤ b) : nwI g a ≤ nwI g b := by unfold nwI; split <;> split <;> omega
/-- a share, when one is out -/
def shG (p : Nat) (k f c : List Int) (t : Int) (g q : Nat) : Int := if q = g then 0 else cutS p (wZ p k f c g) t q + if (nwI g q : Int) < lefS p (wZ p k f c g) t then 1 else 0
theorem shG_in {p : Nat} {k f c : List Int} {t : Int} {g q : Nat} (h : q ≠ g) (h2 : (nwI g q : Int) < lefS p (wZ p k f c g) t) : shG p k f c t g q = cutS p (wZ p k f c g) t q + 1 := by unfold shG; rw [if_neg h, if_pos h2]
theorem shG_out {p : Nat} {k f c : List Int} {t : Int} {g q : Nat} (h : q = g ∨ ¬ (nwI g q : Int) < lefS p (wZ p k f c g) t) : shG p k f c t g q = cutS p (wZ p k f c g) t q := by
  unfold shG
  by_cases z : q = g
  · rw [if_pos z, cutS_z (wZ_t (fun y => y z))]
  · rw [if_neg z, if_neg (h.resolve_left z), Int.add_zero]
def netT (l : List Int) (g i j : Nat) : Int := if j = g then 0 else l.getD (7 * i + j) 0 - l.getD (7 * j + i) 0
theorem netT_t {l : List Int} {g i j : Nat} (h : ¬ j ≠ g) : netT l g i j = 0 := if_pos (Classical.not_not.mp h)
theorem netT_f {l : List Int} {g i j : Nat} (h : j ≠ g) : netT l g i j = l.getD (7 * i + j) 0 - l.getD (7 * j + i) 0 := if_neg h
/-- nobody out: the class's words -/
theorem farG_7 {p : Nat} (hp : p ≤ 7) (c : List Int) (i : Nat) : sumN p (farT c 7 i) = far p c i := sumN_congr fun q hq => farT_f (by omega)
theorem nearG_7 {p : Nat} (hp : p ≤ 7) (c : List Int) (i : Nat) : nearG p c 7 i = near p c i := by
  induction p with
  | zero => rfl
  | succ p ih =>
    simp only [nearG, near]; rw [ih (by omega)]
    by_cases h : p = i
    · rw [if_pos (Or.inl h), if_pos h]
    · rw [if_neg (by omega), if_neg h]
theorem wG_7 {p : Nat} (hp : p ≤ 7) (k f c : List Int) (i : Nat) : wG p k f c 7 i = wt p k f c i := by unfold wG wt; rw [farG_7 hp, nearG_7 hp]
theorem wZ_7 {p : Nat} (hp : p ≤ 7) (k f c : List Int) {i : Nat} (hi : i < p) : wZ p k f c 7 i = wt p k f c i := by rw [wZ_f (by omega), wG_7 hp]
theorem cutS_congr {p : Nat} {w w' : Nat → Int} {t : Int} (h : ∀ q, q < p → w q = w' q) {i : Nat} (hi : i < p) : cutS p w t i = cutS p w' t i := by unfold cutS; rw [sumN_congr h, h i hi]
theorem lefS_congr {p : Nat} {w w' : Nat → Int} {t : Int} (h : ∀ q, q < p → w q = w' q) : lefS p w t = lefS p w' t := by unfold lefS; rw [sumN_congr (fun i hi => cutS_congr h hi)]
theorem shG_7 {p : Nat} (hp : p ≤ 7) (k f c : List Int) (t : Int) {q : Nat} (hq : q < p) : shG p k f c t 7 q = shr p k f c t q := by
  have h : ∀ i, i < p → wZ p k f c 7 i = wt p k f c i := fun i hi => wZ_7 hp k f c hi
  unfold shG shr shrS
  rw [if_neg (by omega), cutS_congr h hq, lefS_congr h, show nwI 7 q = q by unfold nwI; rw [if_neg (by omega)]]
theorem netG_7 {p : Nat} (hp : p ≤ 7) (l : List Int) (i : Nat) : sumN p (netT l 7 i) = net p l i := sumN_congr fun q hq => netT_f (by omega)
theorem netG_le {p : Nat} {l : List Int} (hp : p ≤ 7) (hl : rng l 99) (g i : Nat) : -700 ≤ sumN p (netT l g i) ∧ sumN p (netT l g i) ≤ 700 := by
  have hb : ∀ j, -99 ≤ netT l g i j ∧ netT l g i j ≤ 99 := fun j => by have := hl (7 * i + j); have := hl (7 * j + i); unfold netT; split <;> omega
  have h1 := sumN_ge (n := p) (F := netT l g i) (b := -99) (fun j _ => (hb j).1)
  have h2 := sumN_le (n := p) (F := netT l g i) (b := 99) (fun j _ => (hb j).2)
  omega
theorem shG_le {p : Nat} {k f c : List Int} {t : Int} {g q : Nat} (hp : p ≤ 7) (hf : rng f 9) (hc : rng c 35) (ht : 0 ≤ t ∧ t ≤ 999) (hq : q < p) : 0 ≤ shG p k f c t g q ∧ shG p k f c t g q ≤ 1000 := by
  by_cases z : q = g
  · unfold shG; rw [if_pos z]; omega
  · have hw := fun q (_ : q < p) => (wZ_le (k := k) hp hf hc g q).1
    have h1 : 1 ≤ sumN p (wZ p k f c g) := by
      have := sum_one hw hq; have := wG_le (k := k) hp hf hc g q; rw [wZ_f z] at *; omega
    have := cutS_leZ (t := t) ht.1 hw h1 hq
    unfold shG; rw [if_neg z]; split <;> omega
/-- the ground of shares -/
def gH (p : Nat) (k f c sh : List Int) (t : Int) : Prop := p ≤ 7 ∧ k.length = 7 ∧ f.length = 7 ∧ c.length = 7 ∧ sh.length = 7 ∧ rng k 5 ∧ rng f 9 ∧ rng c 35 ∧ 0 ≤ t ∧ t ≤ 999
theorem lose3of4 (a0 a1 a2 a3 : Option aV) : ∀ (i : Nat) (v : aV), [a0, a1, a2, none][i]? = some (some v) → [a0, a1, a2, a3][i]? = some (some v) := by
  intro i v h
  match i, h with
  | 0, h => exact h
  | 1, h => exact h
  | 2, h => exact h
  | 3, h => simp at h
  | i + 4, h => simp at h
