/-! Math's three; calls of methods whose answer is said exactly. -/
section ARM
variable {M Mc : aM} {d dc ks n na : Nat} {sc : Option (Nat × (Nat → Int32))} {Q : Option aV → aH → Prop} {pc idx k ci N : Nat} {ls : aLs} {st rest as : List aV} {h h' : aH} {fs : List (Option aV)} {T : u_T} {host : String} {x y : Int} {kc : Nat}
theorem b_max (hM : aOK M) (hf : aFetch (aMt M) pc = some (.invokestatic idx)) (hl : Cond.methodLink (aMy M).cls idx Lib.Math.max.name ∈ aBW) (hs : Cond.static Lib.Math.max.name ∈ aBW) (hc : Cond.code Lib.Math.max.name Lib.Math.max.code 2 (some .int) ∈ aBW) (hd : 1 ≤ d) (hst : st.length ≤ 8) (hx : aI x) (hy : aI y) (kk : AW M d kc ks n sc Q (pc + 3, ls, .inl (max x y) :: st, h)) : AW M d kc ks n sc Q (pc, ls, .inl y :: .inl x :: st, h) := by
  intro p l e R s m args below meth c D cI base b0 adK adV C1 S1 Z hcx hC hS1 hfin la H locs cells slots hP hz hS hL hcs hss
  obtain ⟨hX, hb, hml, hr, hin, hown, hts, hlk, hiv, hrm, -⟩ := id hcx
  refine va_mmax hX hb (hml.trans hL.1.symm) hown (hts _ hl) (hts _ hs) (hts _ iniJ9) (hts _ hc) (by omega) (by rw [aCat_sum]; omega) (by omega) (by omega) (aDec1 hM hf rfl rfl) ?_
  rw [show (if Int32.ofInt x < Int32.ofInt y then Int32.ofInt y else Int32.ofInt x) = Int32.ofInt (max x y) by
    by_cases hxy : x < y
    · rw [if_pos ((aI_lt hx hy).mpr hxy)]; congr 1; omega
    · rw [if_neg (fun z => hxy ((aI_lt hx hy).mp z))]; congr 1; omega]
  exact kk p l e R s m args below meth c D cI base b0 adK adV C1 S1 Z hcx hC hS1 hfin la H locs cells slots hP hz hS hL hcs hss
theorem b_min (hM : aOK M) (hf : aFetch (aMt M) pc = some (.invokestatic idx)) (hl : Cond.methodLink (aMy M).cls idx Lib.Math.min.name ∈ aBW) (hs : Cond.static Lib.Math.min.name ∈ aBW) (hc : Cond.code Lib.Math.min.name Lib.Math.min.code 2 (some .int) ∈ aBW) (hd : 1 ≤ d) (hst : st.length ≤ 8) (hx : aI x) (hy : aI y) (kk : AW M d kc ks n sc Q (pc + 3, ls, .inl (min x y) :: st, h)) : AW M d kc ks n sc Q (pc, ls, .inl y :: .inl x :: st, h) := by
  intro p l e R s m args below meth c D cI base b0 adK adV C1 S1 Z hcx hC hS1 hfin la H locs cells slots hP hz hS hL hcs hss
  obtain ⟨hX, hb, hml, hr, hin, hown, hts, hlk, hiv, hrm, -⟩ := id hcx
  refine va_mmin hX hb (hml.trans hL.1.symm) hown (hts _ hl) (hts _ hs) (hts _ iniJ9) (hts _ hc) (by omega) (by rw [aCat_sum]; omega) (by omega) (by omega) (aDec1 hM hf rfl rfl) ?_
  rw [show (if Int32.ofInt y < Int32.ofInt x then Int32.ofInt y else Int32.ofInt x) = Int32.ofInt (min x y) by
    by_cases hxy : y < x
    · rw [if_pos ((aI_lt hy hx).mpr hxy)]; congr 1; omega
    · rw [if_neg (fun z => hxy ((aI_lt hy hx).mp z))]; congr 1; omega]
  exact kk p l e R s m args below meth c D cI base b0 adK adV C1 S1 Z hcx hC hS1 hfin la H locs cells slots hP hz hS hL hcs hss
/-- how far from 0 -/
def aAbs (x : Int) : Int := if 0 ≤ x then x else 0 - x
theorem b_abs (hM : aOK M) (hf : aFetch (aMt M) pc = some (.invokestatic idx)) (hl : Cond.methodLink (aMy M).cls idx Lib.Math.abs.name ∈ aBW) (hs : Cond.static Lib.Math.abs.name ∈ aBW) (hc : Cond.code Lib.Math.abs.name Lib.Math.abs.code 1 (some .int) ∈ aBW) (hd : 1 ≤ d) (hst : st.length ≤ 8) (hx : aI x) (kk : AW M d kc ks n sc Q (pc + 3, ls, .inl (aAbs x) :: st, h)) : AW M d kc ks n sc Q (pc, ls, .inl x :: st, h) := by
  intro p l e R s m args below meth c D cI base b0 adK adV C1 S1 Z hcx hC hS1 hfin la H locs cells slots hP hz hS hL hcs hss
  obtain ⟨hX, hb, hml, hr, hin, hown, hts, hlk, hiv, hrm, -⟩ := id hcx
  refine va_mabs hX hb (hml.trans hL.1.symm) hown (hts _ hl) (hts _ hs) (hts _ iniJ9) (hts _ hc) (by omega) (by rw [aCat_sum]; omega) (by omega) (by omega) (aDec1 hM hf rfl rfl) ?_
  rw [show (if 0 ≤ Int32.ofInt x then Int32.ofInt x else 0 - Int32.ofInt x) = Int32.ofInt (aAbs x) by
    unfold aAbs
    by_cases hxy : 0 ≤ x
    · have hz0 : (0 : Int32) ≤ Int32.ofInt x := (aI_le aI_0 hx).mpr hxy
      rw [if_pos hz0, if_pos hxy]
    · have hz0 : ¬ (0 : Int32) ≤ Int32.ofInt x := fun z => hxy ((aI_le aI_0 hx).mp z)
      rw [if_neg hz0, if_neg hxy]; exact i32_sub 0 x]
  exact kk p l e R s m args below meth c D cI base b0 adK adV C1 S1 Z hcx hC hS1 hfin la H locs cells slots hP hz hS hL hcs hss
/-- a method's answer, exactly -/
abbrev aQx (v : Option aV) (h : aH) : Option aV → aH → Prop := fun v' h' => v' = v ∧ h' = h
abbrev aEx (M : aM) (d n : Nat) (as : List aV) (h : aH) (v : Option aV) (h' : aH) : Prop := aEv M d 0 0 n as h (aQx v h')
theorem b_cast {f f' : aF} (e : f = f') (kk : AW M d kc ks n sc Q f') : AW M d kc ks n sc Q f := by rw [e]; exact kk
theorem b_vV (v : aV) (hM : aOK M) (hf : aFetch (aMt M) pc = some (.invokevirtual idx)) (hl : aLkV (aMy M).cls idx Mc) (hc : aCal Mc na) (hd : dc + 1 ≤ d) (hna : as.length = na) (hrl : rest.length ≤ 8) (hk : aGet h k = some (.inr (ci, fs))) (hcl : aCls[ci]? = some ((aMy Mc).cls, T, N)) (hst : st = as.reverse ++ .inr k :: rest) (ev : aEx Mc dc n (.inr k :: as) h (some v) h')
    (kk : AW M d kc ks n sc Q (pc + 3, ls, v :: rest, h')) : AW M d kc ks n sc Q (pc, ls, st, h) := by
  have := b_callV (kc := kc) (ks := ks) hM hf hl hc hd hna hrl hk hcl hst ev (ls := ls) (Q := Q) (sc := sc) (fun v1 h1 z => by obtain ⟨rfl, rfl⟩ := z; exact kk)
  rwa [Nat.zero_add, Nat.zero_add] at this
theorem b_vN (hM : aOK M) (hf : aFetch (aMt M) pc = some (.invokevirtual idx)) (hl : aLkV (aMy M).cls idx Mc) (hc : aCal Mc na) (hd : dc + 1 ≤ d) (hna : as.length = na) (hrl : rest.length ≤ 8) (hk : aGet h k = some (.inr (ci, fs))) (hcl : aCls[ci]? = some ((aMy Mc).cls, T, N)) (hst : st = as.reverse ++ .inr k :: rest) (ev : aEx Mc dc n (.inr k :: as) h none h')
    (kk : AW M d kc ks n sc Q (pc + 3, ls, rest, h')) : AW M d kc ks n sc Q (pc, ls, st, h) := by
  have := b_callV (kc := kc) (ks := ks) hM hf hl hc hd hna hrl hk hcl hst ev (ls := ls) (Q := Q) (sc := sc) (fun v1 h1 z => by obtain ⟨rfl, rfl⟩ := z; exact kk)
  rwa [Nat.zero_add, Nat.zero_add] at this
theorem b_vE {Q1 : Option aV → aH → Prop} (hM : aOK M) (hf : aFetch (aMt M) pc = some (.invokevirtual idx)) (hl : aLkV (aMy M).cls idx Mc) (hc : aCal Mc na) (hd : dc + 1 ≤ d) (hna : as.length = na) (hrl : rest.length ≤ 8) (hk : aGet h k = some (.inr (ci, fs))) (hcl : aCls[ci]? = some ((aMy Mc).cls, T, N)) (hst : st = as.reverse ++ .inr k :: rest) (ev : aEv Mc dc 0 0 n (.inr k :: as) h Q1)
    (kk : ∀ v h', Q1 v h' → AW M d kc ks n sc Q (pc + 3, ls, v.toList ++ rest, h')) : AW M d kc ks n sc Q (pc, ls, st, h) := by
  have := b_callV (kc := kc) (ks := ks) hM hf hl hc hd hna hrl hk hcl hst ev (ls := ls) (Q := Q) (sc := sc) kk
  rwa [Nat.zero_add, Nat.zero_add] at this
theorem b_vS (v : aV) (hM : aOK M) (hf : aFetch (aMt M) pc = some (.invokestatic idx)) (hl : aLkS (aMy M).cls idx Mc) (hc : aCal Mc na) (hd : dc + 1 ≤ d) (hna : as.length = na) (hrl : rest.length ≤ 8) (hst : st = as.reverse ++ rest) (ev : aEx Mc dc n as h (some v) h')
    (kk : AW M d kc ks n sc Q (pc + 3, ls, v :: rest, h')) : AW M d kc ks n sc Q (pc, ls, st, h) := by
  have := b_callS (kc := kc) (ks := ks) hM hf hl hc hd hna hrl hst ev (ls := ls) (Q := Q) (sc := sc) (fun v1 h1 z => by obtain ⟨rfl, rfl⟩ := z; exact kk)
  rwa [Nat.zero_add, Nat.zero_add] at this
theorem b_vT (v : aV) (hM : aOK M) (hf : aFetch (aMt M) pc = some (.invokestatic idx)) (hl : aLkSN (aMy M).cls idx Mc host) (hc : aCal Mc na) (hd : dc + 1 ≤ d) (hna : as.length = na) (hrl : rest.length ≤ 8) (hst : st = as.reverse ++ rest) (ev : aEx Mc dc n as h (some v) h')
    (kk : AW M d kc ks n sc Q (pc + 3, ls, v :: rest, h')) : AW M d kc ks n sc Q (pc, ls, st, h) := by
  have := b_callSN (kc := kc) (ks := ks) hM hf hl hc hd hna hrl hst ev (ls := ls) (Q := Q) (sc := sc) (fun v1 h1 z => by obtain ⟨rfl, rfl⟩ := z; exact kk)
  rwa [Nat.zero_add, Nat.zero_add] at this
end ARM
