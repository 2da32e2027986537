/-! What the numbers are: rows, sums, steps, weights, shares, nets. -/
def rng (l : List Int) (b : Int) : Prop := ∀ i : Nat, 0 ≤ l.getD i 0 ∧ l.getD i 0 ≤ b
theorem getD_set {l : List Int} {i : Nat} (hi : i < l.length) (v : Int) (j : Nat) : (l.set i v).getD j 0 = if j = i then v else l.getD j 0 := by
  by_cases h : j = i
  · subst h
    rw [if_pos rfl, List.getD_eq_getElem?_getD, List.getElem?_set_self hi]; rfl
  · rw [if_neg h, List.getD_eq_getElem?_getD, List.getElem?_set_ne (Ne.symm h), ← List.getD_eq_getElem?_getD]
theorem getD_set_self {l : List Int} {i : Nat} (hi : i < l.length) (v : Int) : (l.set i v).getD i 0 = v := by rw [getD_set hi, if_pos rfl]
theorem getD_set_ne {l : List Int} {i j : Nat} (h : j ≠ i) (v : Int) : (l.set i v).getD j 0 = l.getD j 0 := by
  rw [List.getD_eq_getElem?_getD, List.getElem?_set_ne (Ne.symm h), ← List.getD_eq_getElem?_getD]
theorem rng_set {l : List Int} {b : Int} {i : Nat} {v : Int} (h : rng l b) (h0 : 0 ≤ v) (h1 : v ≤ b) : rng (l.set i v) b := by
  intro j
  by_cases hi : i < l.length
  · rw [getD_set hi]
    split
    · exact ⟨h0, h1⟩
    · exact h j
  · rw [List.set_eq_of_length_le (by omega)]
    exact h j
theorem rng_rep (m : Nat) {b : Int} (hb : 0 ≤ b) : rng (List.replicate m 0) b := by
  intro j
  rw [List.getD_eq_getElem?_getD, List.getElem?_replicate]
  split <;> simp [hb]
def sumN : Nat → (Nat → Int) → Int
  | 0, _ => 0
  | n + 1, F => sumN n F + F n
theorem sumN_congr {n : Nat} {F G : Nat → Int} (h : ∀ i, i < n → F i = G i) : sumN n F = sumN n G := by
  induction n with
  | zero => rfl
  | succ n ih => simp only [sumN]; rw [ih (fun i hi => h i (by omega)), h n (by omega)]
theorem sumN_le {n : Nat} {F : Nat → Int} {b : Int} (h : ∀ i, i < n → F i ≤ b) : sumN n F ≤ n * b := by
  induction n with
  | zero => simp [sumN]
  | succ n ih =>
    have h1 := ih (fun i hi => h i (by omega))
    have h2 := h n (by omega)
    simp only [sumN]
    rw [Int.natCast_add, Int.add_mul]
    omega
theorem sumN_ge {n : Nat} {F : Nat → Int} {b : Int} (h : ∀ i, i < n → b ≤ F i) : n * b ≤ sumN n F := by
  induction n with
  | zero => simp [sumN]
  | succ n ih =>
    have h1 := ih (fun i hi => h i (by omega))
    have h2 := h n (by omega)
    simp only [sumN]
    rw [Int.natCast_add, Int.add_mul]
    omega
theorem sumN_add (n : Nat) (F G : Nat → Int) : sumN n (fun i => F i + G i) = sumN n F + sumN n G := by
  induction n with
  | zero => rfl
  | succ n ih => simp only [sumN]; rw [ih]; omega
theorem sumN_sub (n : Nat) (F G : Nat → Int) : sumN n (fun i => F i - G i) = sumN n F - sumN n G := by
  induction n with
  | zero => rfl
  | succ n ih => simp only [sumN]; rw [ih]; omega
theorem sumN_mul (n : Nat) (t : Int) (F : Nat → Int) : sumN n (fun i => t * F i) = t * sumN n F := by
  induction n with
  | zero => simp [sumN]
  | succ n ih => simp only [sumN]; rw [ih, Int.mul_add]
/-- steps of two cells -/
def stp (a b : Int) : Int := aAbs (a / 6 - b / 6) + aAbs (a % 6 - b % 6)
theorem stp_self (a : Int) : stp a a = 0 := by simp [stp, aAbs]
theorem stp_le {a b : Int} (ha : 0 ≤ a ∧ a ≤ 35) (hb : 0 ≤ b ∧ b ≤ 35) : 0 ≤ stp a b ∧ stp a b ≤ 10 := by
  unfold stp aAbs
  split <;> split <;> omega
theorem stp_comm (a b : Int) : stp a b = stp b a := by
  unfold stp aAbs
  split <;> split <;> split <;> split <;> omega
/-- how far one is from all, the nearest of the others -/
def far (p : Nat) (c : List Int) (i : Nat) : Int := sumN p (fun j => stp (c.getD i 0) (c.getD j 0))
def near : Nat → List Int → Nat → Int
  | 0, _, _ => 10
  | j + 1, c, i => if j = i then near j c i else min (near j c i) (stp (c.getD i 0) (c.getD j 0))
theorem far_le {p : Nat} {c : List Int} (hc : rng c 35) (i : Nat) : 0 ≤ far p c i ∧ far p c i ≤ p * 10 := by
  unfold far
  have h1 := sumN_ge (n := p) (F := fun j => stp (c.getD i 0) (c.getD j 0)) (b := 0) (fun j _ => (stp_le (hc i) (hc j)).1)
  have h2 := sumN_le (n := p) (F := fun j => stp (c.getD i 0) (c.getD j 0)) (b := 10) (fun j _ => (stp_le (hc i) (hc j)).2)
  omega
theorem near_le {p : Nat} {c : List Int} (hc : rng c 35) (i : Nat) : 0 ≤ near p c i ∧ near p c i ≤ 10 := by
  induction p with
  | zero => exact ⟨(by decide : (0 : Int) ≤ 10), (by decide : (10 : Int) ≤ 10)⟩
  | succ p ih =>
    simp only [near]
    have := stp_le (hc i) (hc p)
    split <;> omega
/-- the weight of one -/
def wtOf (kd fg pe : Int) (ne : Int) : Int :=
  if kd = 1 then pe + fg else if kd = 2 then 2 * pe else if kd = 3 then max 1 (pe / 2) else if kd = 4 then (if ne < 3 then pe + fg else pe + fg + 5) else if kd = 5 then max 1 (max 1 (pe / 2) - fg) else pe
def wt (p : Nat) (k f c : List Int) (i : Nat) : Int := wtOf (k.getD i 0) (f.getD i 0) (max 1 (far p c i)) (near p c i)
theorem wt_le {p : Nat} {k f c : List Int} (hp : p ≤ 7) (hf : rng f 9) (hc : rng c 35) (i : Nat) : 1 ≤ wt p k f c i ∧ wt p k f c i ≤ 200 := by
  have h1 := far_le (p := p) hc i
  have h2 := hf i
  have h3 : (p : Int) ≤ 7 := by omega
  unfold wt wtOf
  repeat' split
  all_goals omega
def wAll (p : Nat) (k f c : List Int) : Int := sumN p (wt p k f c)
/-- shares by weights: cut, what is left over to the first ones -/
def cutS (p : Nat) (w : Nat → Int) (t : Int) (i : Nat) : Int := t * w i / sumN p w
def lefS (p : Nat) (w : Nat → Int) (t : Int) : Int := t - sumN p (cutS p w t)
def shrS (p : Nat) (w : Nat → Int) (t : Int) (i : Nat) : Int := cutS p w t i + if (i : Int) < lefS p w t then 1 else 0
def shr (p : Nat) (k f c : List Int) (t : Int) (i : Nat) : Int := shrS p (wt p k f c) t i
theorem sum_pos {p : Nat} {w : Nat → Int} (hp : 0 < p) (hw : ∀ i, i < p → 1 ≤ w i) : 1 ≤ sumN p w := by
  have := sumN_ge (n := p) (F := w) (b := 1) hw
  omega
theorem cutS_le {p : Nat} {w : Nat → Int} {t : Int} (ht : 0 ≤ t) (hw : ∀ i, i < p → 1 ≤ w i) {i : Nat} (hi : i < p) : 0 ≤ cutS p w t i ∧ cutS p w t i ≤ t := by
  have hs : 1 ≤ sumN p w := sum_pos (by omega) hw
  have h1 : w i ≤ sumN p w := by
    clear hs
    induction p with
    | zero => omega
    | succ p ih =>
      simp only [sumN]
      have h0 : 0 ≤ sumN p w := by
        have := sumN_ge (n := p) (F := w) (b := 0) (fun j hj => by have := hw j (by omega); omega)
        omega
      by_cases hip : i = p
      · subst hip; omega
      · have := ih (fun j hj => hw j (by omega)) (by omega)
        have := hw p (by omega)
        omega
  unfold cutS
  have h0 := hw i hi
  refine ⟨Int.ediv_nonneg (Int.mul_nonneg ht (by omega)) (by omega), ?_⟩
  refine Int.le_trans (Int.ediv_le_ediv (by omega) (Int.mul_le_mul_of_nonneg_left h1 ht)) ?_
  rw [Int.mul_ediv_cancel _ (by omega)]
  exact Int.le_refl t
theorem lefS_le {p : Nat} {w : Nat → Int} {t : Int} (hp : 0 < p) (hw : ∀ i, i < p → 1 ≤ w i) : 0 ≤ lefS p w t ∧ lefS p w t < p := by
  have hs : 1 ≤ sumN p w := sum_pos hp hw
  have e : ∀ m, sumN p w * sumN m (cutS p w t) = t * sumN m w - sumN m (fun i => t * w i % sumN p w) := by
    intro m
    induction m with
    | zero => simp [sumN]
    | succ m ih =>
      simp only [sumN]
      rw [Int.mul_add, ih, Int.mul_add]
      have := Int.mul_ediv_add_emod (t * w m) (sumN p w)
      unfold cutS
      omega
  have h1 := e p
  have h2 := sumN_ge (n := p) (F := fun i => t * w i % sumN p w) (b := 0) (fun i _ => Int.emod_nonneg _ (by omega))
  have h3 := sumN_le (n := p) (F := fun i => t * w i % sumN p w) (b := sumN p w - 1) (fun i _ => by have := Int.emod_lt_of_pos (t * w i) (b := sumN p w) (by omega); omega)
  unfold lefS
  generalize sumN p (cutS p w t) = C at *
  generalize sumN p (fun i => t * w i % sumN p w) = E at *
  generalize sumN p w = W at *
  have e1 : W * (t - C) = E := by rw [Int.mul_sub, h1, Int.mul_comm t W]; omega
  have hp1 : (1 : Int) ≤ p := by omega
  constructor
  · rcases Int.lt_or_le (t - C) 0 with q | q
    · have : W * (t - C) ≤ W * (-1) := Int.mul_le_mul_of_nonneg_left (by omega) (by omega)
      omega
    · exact q
  · rcases Int.lt_or_le (t - C) p with q | q
    · exact q
    · have z1 : W * p ≤ W * (t - C) := Int.mul_le_mul_of_nonneg_left q (by omega)
      have z2 : (p : Int) * (W - 1) = W * p - p := by rw [Int.mul_sub, Int.mul_one, Int.mul_comm]
      omega
theorem shrS_le {p : Nat} {w : Nat → Int} {t : Int} (ht : 0 ≤ t) (hw : ∀ i, i < p → 1 ≤ w i) {i : Nat} (hi : i < p) : 0 ≤ shrS p w t i ∧ shrS p w t i ≤ t + 1 := by
  have h := cutS_le ht hw hi
  unfold shrS
  split <;> omega
/-- what one has lent less what he has borrowed -/
def net (p : Nat) (l : List Int) (i : Nat) : Int := sumN p (fun j => l.getD (7 * i + j) 0 - l.getD (7 * j + i) 0)
theorem net_le {p : Nat} {l : List Int} (hp : p ≤ 7) (hl : rng l 99) (i : Nat) : -700 ≤ net p l i ∧ net p l i ≤ 700 := by
  have h1 := sumN_ge (n := p) (F := fun j => l.getD (7 * i + j) 0 - l.getD (7 * j + i) 0) (b := -99) (fun j _ => by have := hl (7 * i + j); have := hl (7 * j + i); omega)
  have h2 := sumN_le (n := p) (F := fun j => l.getD (7 * i + j) 0 - l.getD (7 * j + i) 0) (b := 99) (fun j _ => by have := hl (7 * i + j); have := hl (7 * j + i); omega)
  unfold net
  have : (p : Int) ≤ 7 := by omega
  omega
/-- what is there -/
def bOK (p : Nat) (k f c n kp l : List Int) (t d : Int) : Prop :=
  p ≤ 7 ∧ k.length = 7 ∧ f.length = 7 ∧ c.length = 7 ∧ n.length = 7 ∧ kp.length = 7 ∧ l.length = 49 ∧ rng k 5 ∧ rng f 9 ∧ rng c 35 ∧ rng n 99 ∧ rng kp 9999 ∧ rng l 99 ∧ 0 ≤ t ∧ t ≤ 999 ∧ 0 ≤ d ∧ d ≤ 5000
/-- what follows from it -/
def nOK (p : Nat) (l nt : List Int) : Prop := nt.length = 7 ∧ ∀ i, i < p → nt.getD i 0 = net p l i
def wOK (p : Nat) (k f c w : List Int) (wa : Int) : Prop := w.length = 7 ∧ (∀ i, i < p → w.getD i 0 = wt p k f c i) ∧ wa = wAll p k f c
def sOK (p : Nat) (k f c sh : List Int) (t : Int) : Prop := sh.length = 7 ∧ ∀ i, i < p → sh.getD i 0 = shr p k f c t i
/-! bits, days -/
def bitsN : Nat → (Nat → Bool) → Int
  | 0, _ => 0
  | i + 1, P => if P i = true then aOr (bitsN i P) (aShl 1 (i : Int)) else bitsN i P
theorem bitsN_t {i : Nat} {P : Nat → Bool} (h : P i = true) : bitsN (i + 1) P = aOr (bitsN i P) (aShl 1 (i : Int)) := by simp only [bitsN]; rw [if_pos h]
theorem bitsN_f {i : Nat} {P : Nat → Bool} (h : P i = false) : bitsN (i + 1) P = bitsN i P := by simp only [bitsN]; rw [if_neg (by rw [h]; decide)]
theorem bitsN_congr {i : Nat} {P P' : Nat → Bool} (h : ∀ q, q < i → P q = P' q) : bitsN i P = bitsN i P' := by
  induction i with
  | zero => rfl
  | succ i ih => simp only [bitsN]; rw [ih (fun q hq => h q (by omega)), h i (by omega)]
def hasL (sh nt : List Int) (q : Nat) : Int := sh.getD q 0 - nt.getD q 0
def dayV (kp : List Int) (has : Nat → Int) (n : List Int) (i : Nat) : Int := kp.getD i 0 + has i - n.getD i 0
def dayL : Nat → List Int → (Nat → Int) → List Int → List Int
  | 0, kp, _, _ => kp
  | i + 1, kp, has, n => (dayL i kp has n).set i (max 0 (min (dayV kp has n i) 9999))
def dayIt (p : Nat) (has : Nat → Int) (n : List Int) : Nat → List Int → List Int
  | 0, kp => kp
  | m + 1, kp => dayL p (dayIt p has n m kp) has n
/-- who is short on the last of m days -/
def dayB (p : Nat) (has : Nat → Int) (n : List Int) (kp : List Int) : Nat → Int
  | 0 => 0
  | m + 1 => bitsN p (fun q => decide (dayV (dayIt p has n m kp) has n q < 0))
theorem dayL_len (i : Nat) (kp : List Int) (has : Nat → Int) (n : List Int) : (dayL i kp has n).length = kp.length := by
  induction i with
  | zero => rfl
  | succ i ih => simp only [dayL, List.length_set, ih]
theorem dayL_at {i j : Nat} (h : i ≤ j) (kp : List Int) (has : Nat → Int) (n : List Int) : (dayL i kp has n).getD j 0 = kp.getD j 0 := by
  induction i with
  | zero => rfl
  | succ i ih => simp only [dayL]; rw [getD_set_ne (by omega), ih (by omega)]
theorem dayL_rng {i : Nat} {kp : List Int} {has : Nat → Int} {n : List Int} (h : rng kp 9999) : rng (dayL i kp has n) 9999 := by
  induction i with
  | zero => exact h
  | succ i ih => exact rng_set ih (by omega) (by omega)
theorem dayIt_len (p : Nat) (has : Nat → Int) (n : List Int) (m : Nat) (kp : List Int) : (dayIt p has n m kp).length = kp.length := by
  induction m with
  | zero => rfl
  | succ m ih => simp only [dayIt, dayL_len, ih]
theorem dayIt_rng {p : Nat} {has : Nat → Int} {n : List Int} {m : Nat} {kp : List Int} (h : rng kp 9999) : rng (dayIt p has n m kp) 9999 := by
  induction m with
  | zero => exact h
  | succ m ih => exact dayL_rng ih
theorem dayL_congr {p : Nat} {has has' : Nat → Int} (h : ∀ q, q < p → has q = has' q) (kp n : List Int) : ∀ i, i ≤ p → dayL i kp has n = dayL i kp has' n := by
  intro i
  induction i with
  | zero => intro _; rfl
  | succ i ih => intro hi; simp only [dayL, dayV]; rw [ih (by omega), h i (by omega)]
theorem dayIt_congr {p : Nat} {has has' : Nat → Int} (h : ∀ q, q < p → has q = has' q) (n : List Int) (m : Nat) (kp : List Int) : dayIt p has n m kp = dayIt p has' n m kp := by
  induction m with
  | zero => rfl
  | succ m ih => simp only [dayIt]; rw [ih, dayL_congr h _ _ p (Nat.le_refl p)]
theorem dayB_congr {p : Nat} {has has' : Nat → Int} (h : ∀ q, q < p → has q = has' q) (n kp : List Int) (m : Nat) : dayB p has n kp m = dayB p has' n kp m := by
  cases m with
  | zero => rfl
  | succ m =>
    simp only [dayB]; rw [dayIt_congr h]
    refine bitsN_congr fun q hq => ?_
    have e : dayV (dayIt p has' n m kp) has n q = dayV (dayIt p has' n m kp) has' n q := by unfold dayV; rw [h q hq]
    rw [e]
/-! one more; one less -/
def addL (p : Nat) (l : List Int) : Nat → List Int
  | 0 => l
  | m + 1 => ((addL p l m).set (7 * p + m) 0).set (7 * m + p) 0
theorem addL_len (p : Nat) (l : List Int) (m : Nat) : (addL p l m).length = l.length := by
  induction m with
  | zero => rfl
  | succ m ih => simp only [addL, List.length_set, ih]
theorem addL_rng {p : Nat} {l : List Int} {m : Nat} {b : Int} (hb : 0 ≤ b) (h : rng l b) : rng (addL p l m) b := by
  induction m with
  | zero => exact h
  | succ m ih => exact rng_set (rng_set ih (by omega) hb) (by omega) hb
/-- the place of one behind the leaving of another -/
def skp (g i : Nat) : Nat := if i < g then i else i + 1
theorem set_upto {m : List Int} {i : Nat} {v : Int} {F : Nat → Int} (hi : i < m.length) (hv : v = F i) (h : ∀ q, q < i → m.getD q 0 = F q) : ∀ q, q < i + 1 → (m.set i v).getD q 0 = F q := by
  intro q hq
  rw [getD_set hi]
  by_cases z : q = i
  · rw [if_pos z, z, hv]
  · rw [if_neg z]; exact h q (by omega)
theorem six {x : Int} (h : 0 ≤ x ∧ x ≤ 5) : x = 0 ∨ x = 1 ∨ x = 2 ∨ x = 3 ∨ x = 4 ∨ x = 5 := by omega
theorem shrS_in {p : Nat} {w : Nat → Int} {t : Int} {i : Nat} (h : (i : Int) < lefS p w t) : shrS p w t i = cutS p w t i + 1 := by unfold shrS; rw [if_pos h]
theorem shrS_out {p : Nat} {w : Nat → Int} {t : Int} {i : Nat} (h : lefS p w t ≤ i) : shrS p w t i = cutS p w t i := by unfold shrS; rw [if_neg (by omega), Int.add_zero]
theorem shrS_end {p : Nat} {w : Nat → Int} {t : Int} {m : List Int} {i : Nat} (h : lefS p w t ≤ i) (h2 : ∀ q, q < i → m.getD q 0 = shrS p w t q) (h3 : ∀ q, i ≤ q → q < p → m.getD q 0 = cutS p w t q) : ∀ q, q < p → m.getD q 0 = shrS p w t q := by
  intro q hq
  by_cases z : q < i
  · exact h2 q z
  · rw [h3 q (by omega) hq, shrS_out (by omega)]
section WTK
variable {p : Nat} {k f c : List Int} {i : Nat}
theorem wt_0 (h : k.getD i 0 = 0) : wt p k f c i = max 1 (far p c i) := by unfold wt; rw [h]; simp [wtOf]
theorem wt_1 (h : k.getD i 0 = 1) : wt p k f c i = max 1 (far p c i) + f.getD i 0 := by unfold wt; rw [h]; simp [wtOf]
theorem wt_2 (h : k.getD i 0 = 2) : wt p k f c i = 2 * max 1 (far p c i) := by unfold wt; rw [h]; simp [wtOf]
theorem wt_3 (h : k.getD i 0 = 3) : wt p k f c i = max 1 (max 1 (far p c i) / 2) := by unfold wt; rw [h]; simp [wtOf]
theorem wt_4t (h : k.getD i 0 = 4) (h2 : near p c i < 3) : wt p k f c i = max 1 (far p c i) + f.getD i 0 := by unfold wt; rw [h]; simp [wtOf, h2]
theorem wt_4f (h : k.getD i 0 = 4) (h2 : ¬ near p c i < 3) : wt p k f c i = max 1 (far p c i) + f.getD i 0 + 5 := by unfold wt; rw [h]; simp [wtOf, h2]
theorem wt_5 (h : k.getD i 0 = 5) : wt p k f c i = max 1 (max 1 (max 1 (far p c i) / 2) - f.getD i 0) := by unfold wt; rw [h]; simp [wtOf]
end WTK
/-! rows that close up behind one who leaves -/
def shL (g : Nat) (m : List Int) : Nat → List Int
  | 0 => m
  | j + 1 => (shL g m j).set (g + j) ((shL g m j).getD (g + j + 1) 0)
def rowL (m : List Int) (r : Nat) : Nat → List Int
  | 0 => m
  | x + 1 => (rowL m r x).set (7 * r + x) ((rowL m r x).getD (7 * (r + 1) + x) 0)
def colL (m : List Int) (r : Nat) : Nat → List Int
  | 0 => m
  | x + 1 => (colL m r x).set (7 * x + r) ((colL m r x).getD (7 * x + (r + 1)) 0)
def rowsL (g u : Nat) (m : List Int) : Nat → List Int
  | 0 => m
  | j + 1 => rowL (rowsL g u m j) (g + j) u
def colsL (g u : Nat) (m : List Int) : Nat → List Int
  | 0 => m
  | j + 1 => colL (colsL g u m j) (g + j) u
theorem shL_len (g : Nat) (m : List Int) (j : Nat) : (shL g m j).length = m.length := by
  induction j with
  | zero => rfl
  | succ j ih => simp only [shL, List.length_set, ih]
theorem rowL_len (m : List Int) (r x : Nat) : (rowL m r x).length = m.length := by
  induction x with
  | zero => rfl
  | succ j ih => simp only [rowL, List.length_set, ih]
theorem colL_len (m : List Int) (r x : Nat) : (colL m r x).length = m.length := by
  induction x with
  | zero => rfl
  | succ j ih => simp only [colL, List.length_set, ih]
theorem rowsL_len (g u : Nat) (m : List Int) (j : Nat) : (rowsL g u m j).length = m.length := by
  induction j with
  | zero => rfl
  | succ j ih => simp only [rowsL, rowL_len, ih]
theorem colsL_len (g u : Nat) (m : List Int) (j : Nat) : (colsL g u m j).length = m.length := by
  induction j with
  | zero => rfl
  | succ j ih => simp only [colsL, colL_len, ih]
theorem shL_rng {g : Nat} {m : List Int} {b : Int} (h : rng m b) (j : Nat) : rng (shL g m j) b := by
  induction j with
  | zero => exact h
  | succ j ih => exact rng_set ih (ih _).1 (ih _).2
theorem rowL_rng {m : List Int} {b : Int} (h : rng m b) (r x : Nat) : rng (rowL m r x) b := by
  induction x with
  | zero => exact h
  | succ j ih => exact rng_set ih (ih _).1 (ih _).2
theorem colL_rng {m : List Int} {b : Int} (h : rng m b) (r x : Nat) : rng (colL m r x) b := by
  induction x with
  | zero => exact h
  | succ j ih => exact rng_set ih (ih _).1 (ih _).2
theorem rowsL_rng {g u : Nat} {m : List Int} {b : Int} (h : rng m b) (j : Nat) : rng (rowsL g u m j) b := by
  induction j with
  | zero => exact h
  | succ j ih => exact rowL_rng ih _ _
theorem colsL_rng {g u : Nat} {m : List Int} {b : Int} (h : rng m b) (j : Nat) : rng (colsL g u m j) b := by
  induction j with
  | zero => exact h
  | succ j ih => exact colL_rng ih _ _
/-! pairs of people, in their order -/
def npI (c : List Int) (a : Nat) (z : Int × Int) : Nat → Int × Int
  | 0 => z
  | x + 1 => if stp (c.getD a 0) (c.getD (a + 1 + x) 0) < (npI c a z x).2 then (10 * (a : Int) + ((a + 1 + x : Nat) : Int), stp (c.getD a 0) (c.getD (a + 1 + x) 0)) else npI c a z x
def npO (c : List Int) (p : Nat) : Nat → Int × Int
  | 0 => (-9, 11)
  | a + 1 => npI c a (npO c p a) (p - (a + 1))
def msI (c : List Int) (a : Nat) (z : Int) : Nat → Int
  | 0 => z
  | x + 1 => max (msI c a z x) (stp (c.getD a 0) (c.getD (a + 1 + x) 0))
def msO (c : List Int) (p : Nat) : Nat → Int
  | 0 => -9
  | a + 1 => msI c a (msO c p a) (p - (a + 1))
theorem npI_t {c : List Int} {a x : Nat} {z : Int × Int} (h : stp (c.getD a 0) (c.getD (a + 1 + x) 0) < (npI c a z x).2) : npI c a z (x + 1) = (10 * (a : Int) + ((a + 1 + x : Nat) : Int), stp (c.getD a 0) (c.getD (a + 1 + x) 0)) := if_pos h
theorem npI_f {c : List Int} {a x : Nat} {z : Int × Int} (h : (npI c a z x).2 ≤ stp (c.getD a 0) (c.getD (a + 1 + x) 0)) : npI c a z (x + 1) = npI c a z x := if_neg (by omega)
/-- a pair that was found, or none -/
def npOK (c : List Int) (p : Nat) (z : Int × Int) : Prop := z = (-9, 11) ∨ ∃ a b : Nat, a < b ∧ b < p ∧ z = (10 * (a : Int) + (b : Int), stp (c.getD a 0) (c.getD b 0))
theorem npI_ok {c : List Int} {p a : Nat} {z : Int × Int} (h : npOK c p z) : ∀ x, a + 1 + x ≤ p → npOK c p (npI c a z x) := by
  intro x
  induction x with
  | zero => intro _; exact h
  | succ x ih =>
    intro hx
    have := ih (by omega)
    simp only [npI]
    split
    · exact Or.inr ⟨a, a + 1 + x, by omega, by omega, rfl⟩
    · exact this
theorem npO_ok {c : List Int} {p : Nat} : ∀ a, a ≤ p → npOK c p (npO c p a) := by
  intro a
  induction a with
  | zero => intro _; exact Or.inl rfl
  | succ a ih => intro h; exact npI_ok (ih (by omega)) _ (by omega)
theorem npOK_le {c : List Int} {p : Nat} {z : Int × Int} (hc : rng c 35) (hp : p ≤ 7) (h : npOK c p z) : -9 ≤ z.1 ∧ z.1 ≤ 100 ∧ 0 ≤ z.2 ∧ z.2 ≤ 11 := by
  rcases h with rfl | ⟨a, b, h1, h2, rfl⟩
  · decide
  · have := stp_le (hc a) (hc b)
    refine ⟨?_, ?_, ?_, ?_⟩ <;> simp only <;> omega
theorem msI_le {c : List Int} {a : Nat} {z : Int} (hc : rng c 35) (h : -9 ≤ z ∧ z ≤ 10) (x : Nat) : -9 ≤ msI c a z x ∧ msI c a z x ≤ 10 := by
  induction x with
  | zero => exact h
  | succ x ih =>
    have := stp_le (hc a) (hc (a + 1 + x))
    simp only [msI]; omega
theorem msO_le {c : List Int} {p : Nat} (hc : rng c 35) (a : Nat) : -9 ≤ msO c p a ∧ msO c p a ≤ 10 := by
  induction a with
  | zero => exact ⟨(by decide : (-9 : Int) ≤ -9), (by decide : (-9 : Int) ≤ 10)⟩
  | succ a ih => exact msI_le hc ih _
def loansN (p : Nat) (l : List Int) (i m : Nat) : Int := sumN m (fun j => if 0 < l.getD (7 * i + j) 0 then 1 else 0)
theorem loansN_le (p : Nat) (l : List Int) (i m : Nat) : 0 ≤ loansN p l i m ∧ loansN p l i m ≤ m := by
  unfold loansN
  have h1 := sumN_ge (n := m) (F := fun j => if 0 < l.getD (7 * i + j) 0 then (1 : Int) else 0) (b := 0) (fun j _ => by split <;> decide)
  have h2 := sumN_le (n := m) (F := fun j => if 0 < l.getD (7 * i + j) 0 then (1 : Int) else 0) (b := 1) (fun j _ => by split <;> decide)
  omega
