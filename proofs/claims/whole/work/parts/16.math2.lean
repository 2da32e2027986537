/-! Bits of a few, by all cases; what a moor is. -/
def pB (x : Nat) : Nat → Bool := fun q => x.testBit q
theorem pB_of : ∀ b0 b1 b2 b3 b4 b5 b6 : Bool, ∃ x, x < 128 ∧ pB x 0 = b0 ∧ pB x 1 = b1 ∧ pB x 2 = b2 ∧ pB x 3 = b3 ∧ pB x 4 = b4 ∧ pB x 5 = b5 ∧ pB x 6 = b6 := by
  intro b0 b1 b2 b3 b4 b5 b6
  refine ⟨b0.toNat + 2 * (b1.toNat + 2 * (b2.toNat + 2 * (b3.toNat + 2 * (b4.toNat + 2 * (b5.toNat + 2 * b6.toNat))))), ?_⟩
  cases b0 <;> cases b1 <;> cases b2 <;> cases b3 <;> cases b4 <;> cases b5 <;> cases b6 <;> decide
theorem pB_ex (P : Nat → Bool) : ∃ x, x < 128 ∧ ∀ q, q < 7 → P q = pB x q := by
  obtain ⟨x, h, h0, h1, h2, h3, h4, h5, h6⟩ := pB_of (P 0) (P 1) (P 2) (P 3) (P 4) (P 5) (P 6)
  refine ⟨x, h, fun q hq => ?_⟩
  match q, hq with
  | 0, _ => exact h0.symm
  | 1, _ => exact h1.symm
  | 2, _ => exact h2.symm
  | 3, _ => exact h3.symm
  | 4, _ => exact h4.symm
  | 5, _ => exact h5.symm
  | 6, _ => exact h6.symm
  | q + 7, h => omega
theorem pB_and : ∀ x, x < 128 → ∀ p, p < 8 → ∀ i, i < p → aAnd (aShr (bitsN p (pB x)) (i : Int)) 1 = if pB x i = true then 1 else 0 := by decide +kernel
theorem pB_le : ∀ x, x < 128 → ∀ p, p < 8 → 0 ≤ bitsN p (pB x) ∧ bitsN p (pB x) ≤ 127 := by decide +kernel
theorem pB_zero : ∀ x, x < 128 → ∀ p, p < 8 → (bitsN p (pB x) = 0 ↔ (List.range p).all (fun q => !pB x q) = true) := by decide +kernel
theorem bits_and {p : Nat} (hp : p ≤ 7) (P : Nat → Bool) {i : Nat} (hi : i < p) : aAnd (aShr (bitsN p P) (i : Int)) 1 = if P i = true then 1 else 0 := by
  obtain ⟨x, hx, h⟩ := pB_ex P
  rw [bitsN_congr (P' := pB x) (fun q hq => h q (by omega)), pB_and x hx p (by omega) i hi, h i (by omega)]
theorem bits_le {p : Nat} (hp : p ≤ 7) (P : Nat → Bool) : 0 ≤ bitsN p P ∧ bitsN p P ≤ 127 := by
  obtain ⟨x, hx, h⟩ := pB_ex P
  rw [bitsN_congr (P' := pB x) (fun q hq => h q (by omega))]
  exact pB_le x hx p (by omega)
theorem bits_zero {p : Nat} (hp : p ≤ 7) (P : Nat → Bool) : bitsN p P = 0 ↔ ∀ q, q < p → P q = false := by
  obtain ⟨x, hx, h⟩ := pB_ex P
  rw [bitsN_congr (P' := pB x) (fun q hq => h q (by omega)), pB_zero x hx p (by omega)]
  simp only [List.all_eq_true, List.mem_range, Bool.not_eq_true']
  constructor
  · intro z q hq; rw [h q (by omega)]; exact z q hq
  · intro z q hq; rw [← h q (by omega)]; exact z q hq
def cntN (p : Nat) (P : Nat → Bool) : Int := sumN p (fun q => if P q = true then 1 else 0)
/-- Integer.bitCount, as its code reckons -/
def bc1 (v : Int) : Int := v - aAnd (aUshr v 1) 1431655765
def bc2 (v : Int) : Int := aAnd v 858993459 + aAnd (aUshr v 2) 858993459
def bc3 (v : Int) : Int := aAnd (v + aUshr v 4) 252645135
def bc4 (v : Int) : Int := v + aUshr v 8
def bc5 (v : Int) : Int := v + aUshr v 16
def bcE (v : Int) : Int := aAnd (bc5 (bc4 (bc3 (bc2 (bc1 v))))) 63
theorem pB_cnt : ∀ x, x < 128 → ∀ p, p < 8 → bcE (bitsN p (pB x)) = cntN p (pB x) := by decide +kernel
theorem bits_cnt {p : Nat} (hp : p ≤ 7) (P : Nat → Bool) : bcE (bitsN p P) = cntN p P := by
  obtain ⟨x, hx, h⟩ := pB_ex P
  rw [bitsN_congr (P' := pB x) (fun q hq => h q (by omega)), pB_cnt x hx p (by omega)]
  exact sumN_congr fun q hq => by rw [h q (by omega)]
theorem cnt_le {p : Nat} (P : Nat → Bool) : 0 ≤ cntN p P ∧ cntN p P ≤ p := by
  have h1 := sumN_ge (n := p) (F := fun q => if P q = true then (1 : Int) else 0) (b := 0) (fun q _ => by split <;> decide)
  have h2 := sumN_le (n := p) (F := fun q => if P q = true then (1 : Int) else 0) (b := 1) (fun q _ => by split <;> decide)
  unfold cntN; omega
theorem cnt_all {p : Nat} (P : Nat → Bool) : cntN p P = p ↔ ∀ q, q < p → P q = true := by
  induction p with
  | zero => simp [cntN, sumN]
  | succ p ih =>
    have h1 := cnt_le (p := p) P
    have e : cntN (p + 1) P = cntN p P + if P p = true then 1 else 0 := rfl
    constructor
    · intro z
      rw [e] at z
      have z2 : P p = true := by
        cases hP : P p with
        | true => rfl
        | false => rw [hP] at z; simp at z; omega
      rw [z2, if_pos rfl] at z
      have z3 := ih.mp (by omega)
      intro q hq
      by_cases hqp : q = p
      · rw [hqp]; exact z2
      · exact z3 q (by omega)
    · intro z
      rw [e, z p (by omega), if_pos rfl, ih.mpr (fun q hq => z q (by omega))]
      omega
/-! what a moor is, with all that follows -/
def mOK (p : Nat) (k f c n kp l nt w sh : List Int) (t d wa : Int) : Prop := bOK p k f c n kp l t d ∧ nOK p l nt ∧ wOK p k f c w wa ∧ sOK p k f c sh t
def hasM (p : Nat) (k f c l : List Int) (t : Int) (q : Nat) : Int := shr p k f c t q - net p l q
theorem shr_le {p : Nat} {k f c : List Int} {t : Int} (hp : p ≤ 7) (hf : rng f 9) (hc : rng c 35) (ht : 0 ≤ t ∧ t ≤ 999) {q : Nat} (hq : q < p) : 0 ≤ shr p k f c t q ∧ shr p k f c t q ≤ 1000 := by
  have := shrS_le (p := p) (w := wt p k f c) ht.1 (fun i _ => (wt_le hp hf hc i).1) hq
  unfold shr; omega
theorem hasM_le {p : Nat} {k f c l : List Int} {t : Int} (hp : p ≤ 7) (hf : rng f 9) (hc : rng c 35) (hl : rng l 99) (ht : 0 ≤ t ∧ t ≤ 999) {q : Nat} (hq : q < p) : -10000 ≤ hasM p k f c l t q ∧ hasM p k f c l t q ≤ 10000 := by
  have h1 := shr_le (k := k) hp hf hc ht hq
  have h2 := net_le hp hl q
  unfold hasM; omega
section MOK
variable {p : Nat} {k f c n kp l nt w sh : List Int} {t d wa : Int}
theorem mOK_lens (h : mOK p k f c n kp l nt w sh t d wa) : lens k f c n kp l nt w sh := by
  obtain ⟨⟨hp7, hk, hf, hc, hn, hkp, hl, -⟩, ⟨hnt, -⟩, ⟨hw, -⟩, ⟨hsh, -⟩⟩ := h
  exact ⟨hk, hf, hc, hn, hkp, hl, hnt, hw, hsh⟩
theorem mOK_has (h : mOK p k f c n kp l nt w sh t d wa) {q : Nat} (hq : q < p) : hasL sh nt q = hasM p k f c l t q := by
  unfold hasL hasM
  rw [h.2.1.2 q hq, h.2.2.2.2 q hq]
theorem mOK_hle (h : mOK p k f c n kp l nt w sh t d wa) : ∀ q, q < p → -10000 ≤ sh.getD q 0 - nt.getD q 0 ∧ sh.getD q 0 - nt.getD q 0 ≤ 10000 := by
  intro q hq
  have e := mOK_has h hq
  unfold hasL at e
  rw [e]
  obtain ⟨⟨hp7, hk, hf, hc, hn, hkp, hl, rk, rf, rc, rn, rkp, rl, ht0, ht1, -⟩, -⟩ := h
  exact hasM_le hp7 rf rc rl ⟨ht0, ht1⟩ hq
theorem mOK_wH (h : mOK p k f c n kp l nt w sh t d wa) : wH p k f c w sh t := by
  obtain ⟨⟨hp7, hk, hf, hc, hn, hkp, hl, rk, rf, rc, rn, rkp, rl, ht0, ht1, -⟩, -, ⟨hw, -⟩, ⟨hsh, -⟩⟩ := h
  exact ⟨hp7, hk, hf, hc, hw, hsh, rk, rf, rc, ht0, ht1⟩
end MOK
/-- the moor to think on, whatever it holds -/
def thk (B : List (Option aE)) : Prop := ∃ (k f c n kp l nt w sh : List Int) (p t d wa : Int), lens k f c n kp l nt w sh ∧ B = moSeg 64 k f c n kp l nt w sh p t d wa
theorem thk_of {k f c n kp l nt w sh : List Int} {p t d wa : Int} (h : lens k f c n kp l nt w sh) : thk (moSeg 64 k f c n kp l nt w sh p t d wa) := ⟨k, f, c, n, kp, l, nt, w, sh, p, t, d, wa, h, rfl⟩
/-! searches -/
/-- the first day (1 and on) on which P holds, of j days from day i on; -9 -/
def firstF (P : Nat → Bool) : Nat → Nat → Int
  | 0, _ => -9
  | j + 1, i => if P i = true then (i : Int) + 1 else firstF P j (i + 1)
def lastF (P : Nat → Bool) : Nat → Nat → Int
  | 0, _ => 99
  | j + 1, i => if P i = true then (i : Int) else lastF P j (i + 1)
/-- the first of j from i on for whom P holds; -9 -/
def firstQ (P : Nat → Bool) : Nat → Nat → Int
  | 0, _ => -9
  | j + 1, i => if P i = true then (i : Int) else firstQ P j (i + 1)
def firstO (P : Nat → Nat → Bool) (p : Nat) : Nat → Nat → Int
  | 0, _ => -9
  | j + 1, i => if firstQ (P i) p 0 = -9 then firstO P p j (i + 1) else firstQ (P i) p 0
theorem firstF_t {P : Nat → Bool} {j i : Nat} (h : P i = true) : firstF P (j + 1) i = (i : Int) + 1 := if_pos h
theorem firstF_f {P : Nat → Bool} {j i : Nat} (h : P i = false) : firstF P (j + 1) i = firstF P j (i + 1) := if_neg (by rw [h]; decide)
theorem lastF_t {P : Nat → Bool} {j i : Nat} (h : P i = true) : lastF P (j + 1) i = (i : Int) := if_pos h
theorem lastF_f {P : Nat → Bool} {j i : Nat} (h : P i = false) : lastF P (j + 1) i = lastF P j (i + 1) := if_neg (by rw [h]; decide)
theorem firstQ_t {P : Nat → Bool} {j i : Nat} (h : P i = true) : firstQ P (j + 1) i = (i : Int) := if_pos h
theorem firstQ_f {P : Nat → Bool} {j i : Nat} (h : P i = false) : firstQ P (j + 1) i = firstQ P j (i + 1) := if_neg (by rw [h]; decide)
theorem firstO_t {P : Nat → Nat → Bool} {p j i : Nat} (h : firstQ (P i) p 0 ≠ -9) : firstO P p (j + 1) i = firstQ (P i) p 0 := if_neg h
theorem firstO_f {P : Nat → Nat → Bool} {p j i : Nat} (h : firstQ (P i) p 0 = -9) : firstO P p (j + 1) i = firstO P p j (i + 1) := if_pos h
/-- is one short on the day behind i days -/
def sht (p : Nat) (has : Nat → Int) (n kp : List Int) (q i : Nat) : Bool := decide (dayV (dayIt p has n i kp) has n q < 0)
theorem dayB_one (p : Nat) (has : Nat → Int) (n kp : List Int) (i : Nat) : dayB p has n (dayIt p has n i kp) 1 = bitsN p (fun q => sht p has n kp q i) := rfl
theorem dayIt_one (p : Nat) (has : Nat → Int) (n kp : List Int) (i : Nat) : dayIt p has n 1 (dayIt p has n i kp) = dayIt p has n (i + 1) kp := rfl
