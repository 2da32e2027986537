/-! An abstract machine over whole numbers: a value is a number (an int by its remainder) or a cell's place; the heap is a list of blocks of cells. -/
abbrev aV : Type := Int ⊕ Nat
abbrev aE : Type := List Int ⊕ (Nat × List (Option aV))
abbrev aH : Type := List (List (Option aE))
def aGet (h : aH) (k : Nat) : Option aE := (h.getD (k / 32) []).getD (k % 32) none
def aSet (h : aH) (k : Nat) (c : aE) : aH := h.set (k / 32) ((h.getD (k / 32) []).set (k % 32) (some c))
/-- how many cells a block has, and how many stand ahead of it -/
def aSz : List Nat := [1, 19, 19, 17, 19, 4, 20]
def aOff : List Nat := [0, 1, 20, 39, 56, 75, 79]
def aOrd (k : Nat) : Nat := aOff.getD (k / 32) 0 + k % 32
def aShape (h : aH) : Prop := h.map List.length = aSz
def aFits (k : Nat) : Prop := k / 32 < 7 ∧ k % 32 < aSz.getD (k / 32) 0
def aBlk (n : Nat) : Nat := if n < 1 then 0 else if n < 20 then 1 else if n < 39 then 2 else if n < 56 then 3 else if n < 75 then 4 else if n < 79 then 5 else 6
theorem aBlk_of : ∀ i, i < 7 → ∀ j, j < aSz.getD i 0 → aBlk (aOff.getD i 0 + j) = i := by decide +kernel
theorem aOrd_inj0 (i : Nat) (hi : i < 7) (i' : Nat) (hi' : i' < 7) (j : Nat) (hj : j < aSz.getD i 0) (j' : Nat) (hj' : j' < aSz.getD i' 0) (e : aOff.getD i 0 + j = aOff.getD i' 0 + j') : i = i' ∧ j = j' := by
  have h1 := aBlk_of i hi j hj
  have h2 := aBlk_of i' hi' j' hj'
  rw [e, h2] at h1
  subst h1
  exact ⟨rfl, by omega⟩
theorem aOrd_inj {k k' : Nat} (h : aFits k) (h' : aFits k') (e : aOrd k = aOrd k') : k = k' := by
  obtain ⟨e1, e2⟩ := aOrd_inj0 _ h.1 _ h'.1 _ h.2 _ h'.2 e
  rw [← Nat.div_add_mod k 32, ← Nat.div_add_mod k' 32, e1, e2]
theorem aOrd_lt0 : ∀ i, i < 7 → ∀ j, j < aSz.getD i 0 → aOff.getD i 0 + j < 99 := by decide +kernel
theorem aShape_len {h : aH} (hs : aShape h) : h.length = 7 := by
  have := congrArg List.length hs
  simpa [aSz] using this
theorem aShape_at {h : aH} (hs : aShape h) (i : Nat) : (h.getD i []).length = aSz.getD i 0 := by
  rw [← hs]
  simp only [List.getD_eq_getElem?_getD, List.getElem?_map]
  cases h[i]? <;> simp
theorem aGet_fits {h : aH} (hs : aShape h) {k : Nat} {e : aE} (hg : aGet h k = some e) : aFits k := by
  have h2 : k % 32 < (h.getD (k / 32) []).length := by
    rcases Nat.lt_or_ge (k % 32) (h.getD (k / 32) []).length with q | q
    · exact q
    · unfold aGet at hg
      rw [List.getD_eq_getElem?_getD, List.getElem?_eq_none q] at hg
      simp at hg
  have h1 : k / 32 < h.length := by
    rcases Nat.lt_or_ge (k / 32) h.length with q | q
    · exact q
    · rw [List.getD_eq_getElem?_getD, List.getElem?_eq_none q] at h2
      simp at h2
  exact ⟨by rw [← aShape_len hs]; exact h1, by rw [← aShape_at hs]; exact h2⟩
theorem aSet_shape {h : aH} (hs : aShape h) (k : Nat) (c : aE) : aShape (aSet h k c) := by
  unfold aShape aSet
  rw [List.map_set, ← hs]
  apply List.ext_getElem?
  intro i
  by_cases hi : i = k / 32
  · subst hi
    by_cases hl : k / 32 < h.length
    · rw [List.getElem?_set_self (by simpa using hl)]
      simp [hl]
    · rw [List.set_eq_of_length_le (by simp; omega)]
  · rw [List.getElem?_set_ne (Ne.symm hi)]
theorem aGet_set {h : aH} (hs : aShape h) {k : Nat} (hk : aFits k) (c : aE) (k' : Nat) : aGet (aSet h k c) k' = if k' = k then some c else aGet h k' := by
  have h1 : k / 32 < h.length := by rw [aShape_len hs]; exact hk.1
  have h2 : k % 32 < (h.getD (k / 32) []).length := by rw [aShape_at hs]; exact hk.2
  unfold aGet aSet
  by_cases e : k' / 32 = k / 32
  · rw [e]
    have e1 : (h.set (k / 32) ((h.getD (k / 32) []).set (k % 32) (some c))).getD (k / 32) [] = (h.getD (k / 32) []).set (k % 32) (some c) := by
      rw [List.getD_eq_getElem?_getD, List.getElem?_set_self h1]; rfl
    rw [e1]
    by_cases e2 : k' % 32 = k % 32
    · have e3 : k' = k := by rw [← Nat.div_add_mod k 32, ← Nat.div_add_mod k' 32, e, e2]
      rw [if_pos e3, e2, List.getD_eq_getElem?_getD, List.getElem?_set_self h2]; rfl
    · rw [if_neg (fun z => e2 (by rw [z])), List.getD_eq_getElem?_getD, List.getElem?_set_ne (Ne.symm e2), ← List.getD_eq_getElem?_getD]
  · rw [if_neg (fun z => e (by rw [z]))]
    have e1 : (h.set (k / 32) ((h.getD (k / 32) []).set (k % 32) (some c))).getD (k' / 32) [] = h.getD (k' / 32) [] := by
      rw [List.getD_eq_getElem?_getD, List.getElem?_set_ne (Ne.symm e), ← List.getD_eq_getElem?_getD]
    rw [e1]
/-! from abstract to concrete -/
def aAd (base b0 : Nat) (adK : Nat → Nat) (k : Nat) : Nat := if k < 1024 then base + aOrd k else if k = 1024 then b0 else adK (k - 1025)
def aC (ad : Nat → Nat) : aV → Value
  | .inl z => .int (Int32.ofInt z)
  | .inr k => .ref (ad k)
def aN (ad : Nat → Nat) : Option aV → Value
  | none => .null
  | some v => aC ad v
def aX (ad : Nat → Nat) (cI : ClassId) : aE → va_E
  | .inl l => .inl (cI, l.length, .inl (fun j => Int32.ofInt (l.getD j 0)))
  | .inr o => .inr (o.1, o.2.map (aN ad))
def aP (D : va_G) (cI : ClassId) (ad : Nat → Nat) (h : aH) (H : Heap) : Prop := aShape h ∧ ∀ (k : Nat) (e : aE), aGet h k = some e → va_at D aCls (ad k, aX ad cI e) H
theorem aFits_lt {k : Nat} (h : aFits k) : k < 1024 := by
  have h1 := h.1
  have := Nat.div_add_mod k 32
  omega
theorem aAd_fits {base b0 : Nat} {adK : Nat → Nat} {k : Nat} (h : aFits k) : aAd base b0 adK k = base + aOrd k := if_pos (aFits_lt h)
theorem aAd_inj {base b0 : Nat} {adK : Nat → Nat} {k k' : Nat} (h : aFits k) (h' : aFits k') (e : aAd base b0 adK k = aAd base b0 adK k') : k = k' := by
  rw [aAd_fits h, aAd_fits h'] at e
  exact aOrd_inj h h' (by omega)
theorem aP_set {D : va_G} {cI : ClassId} {base b0 : Nat} {adK : Nat → Nat} {h : aH} {H H1 : Heap} (hP : aP D cI (aAd base b0 adK) h H) {k : Nat} (hf : aFits k) {c : aE} (hc : va_at D aCls (aAd base b0 adK k, aX (aAd base b0 adK) cI c) H1)
    (ho : ∀ q : Nat, q ≠ aAd base b0 adK k → H1[q]? = H[q]?) : aP D cI (aAd base b0 adK) (aSet h k c) H1 := by
  refine ⟨aSet_shape hP.1 k c, fun k' e hk' => ?_⟩
  rw [aGet_set hP.1 hf] at hk'
  by_cases e1 : k' = k
  · rw [if_pos e1] at hk'
    cases hk'
    rw [e1]; exact hc
  · rw [if_neg e1] at hk'
    have f' := aGet_fits hP.1 hk'
    exact (hP.2 k' e hk').kept (ho _ (fun z => e1 (aAd_inj f' hf z)))
/-- a new cell, at the next address -/
theorem aP_new {D : va_G} {cI : ClassId} {base b0 : Nat} {adK : Nat → Nat} {h : aH} {H H1 : Heap} (hP : aP D cI (aAd base b0 adK) h H) {k : Nat} (hf : aFits k) {c : aE} (hz : aAd base b0 adK k = H.size) (hc : va_at D aCls (aAd base b0 adK k, aX (aAd base b0 adK) cI c) H1)
    (ho : ∀ q : Nat, q < H.size → H1[q]? = H[q]?) : aP D cI (aAd base b0 adK) (aSet h k c) H1 := by
  refine ⟨aSet_shape hP.1 k c, fun k' e hk' => ?_⟩
  rw [aGet_set hP.1 hf] at hk'
  by_cases e1 : k' = k
  · rw [if_pos e1] at hk'
    cases hk'
    rw [e1]; exact hc
  · rw [if_neg e1] at hk'
    exact (hP.2 k' e hk').kept (ho _ (hP.2 k' e hk').lt)
theorem aP_one {D : va_G} {cI : ClassId} {ad : Nat → Nat} {h : aH} {H : Heap} (hP : aP D cI ad h H) {k : Nat} {e : aE} (hk : aGet h k = some e) : va_P D aCls [(ad k, aX ad cI e)] H := by
  intro j q hj
  match j, hj with
  | 0, hj => cases hj; exact hP.2 k e hk
  | j + 1, hj => simp at hj
/-! the methods' tables -/
/-- its name, its bytes, its instructions, its locals, its answer, its class's fields (index, class, slot, kind of type, final), its class's numbers -/
abbrev aM : Type := MethodName × ByteArray × List (Nat × Instr) × Nat × Option FieldType × List (Nat × Nat × Nat × Nat × Bool) × List (Nat × Int)
def aMy (M : aM) : MethodName := M.1
def aMc (M : aM) : ByteArray := M.2.1
def aMt (M : aM) : List (Nat × Instr) := M.2.2.1
def aMn (M : aM) : Nat := M.2.2.2.1
def aMr (M : aM) : Option FieldType := M.2.2.2.2.1
def aMf (M : aM) : List (Nat × Nat × Nat × Nat × Bool) := M.2.2.2.2.2.1
def aMk (M : aM) : List (Nat × Int) := M.2.2.2.2.2.2
def aSwi : Instr → Bool
  | .tableswitch _ _ _ _ => true
  | .lookupswitch _ _ => true
  | _ => false
def aLen : Instr → Nat
  | .bipush _ | .iload _ | .istore _ | .aload _ | .astore _ | .ldc _ | .newarray _ => 2
  | .sipush _ | .getfield _ | .putfield _ | .goto _ | .if_icmp _ _ | .ifCond _ _ | .iinc _ _ | .ldc_w _ | .invokevirtual _ | .invokestatic _ | .invokespecial _ | .new _ => 3
  | _ => 1
def aOkI : Instr → Bool
  | .bipush z => decide (-128 ≤ z) && decide (z ≤ 127)
  | .sipush z => decide (-32768 ≤ z) && decide (z ≤ 32767)
  | _ => true
def aDecOk (cc : ByteArray) (e : Nat × Instr) : Bool := match decode cc e.1 with
  | .ok (i, n) => decide (i = e.2) && (n == aLen i || aSwi i) && aOkI i
  | _ => false
def aTyc : FieldType → Nat
  | .int => 0
  | .boolean => 1
  | .object _ => 2
  | .array _ => 2
  | _ => 9
def aFOk (own : String) (f : Nat × Nat × Nat × Nat × Bool) : Prop := ∃ (C : String) (T : u_T) (N : Nat) (ty : FieldType), aCls[f.2.1]? = some (C, T, N) ∧ f.2.2.1 < N ∧ Cond.fieldLink own f.1 C (T f.2.2.1).2.1 (T f.2.2.1).2.2.1 ∈ aBW ∧ (T f.2.2.1).1 = C ∧ (T f.2.2.1).2.2.2 = f.2.2.2.2 ∧
  parseFieldDescriptor (T f.2.2.1).2.2.1 = some ty ∧ aTyc ty = f.2.2.2.1 ∧ (f.2.2.2.2 = true → C = own)
def aKOk (own : String) (q : Nat × Int) : Prop := Cond.constant own q.1 (Int32.ofInt q.2) ∈ aBW
def aOK (M : aM) : Prop := (∀ e ∈ aMt M, aDecOk (aMc M) e = true) ∧ (∀ f ∈ aMf M, aFOk (aMy M).cls f) ∧ (∀ q ∈ aMk M, aKOk (aMy M).cls q) ∧ aMn M ≤ 17
/-- what is known of each class -/
def aClsOk (q : vw_C) : Prop := (∀ w ∈ u_ws q.1 q.2.1 q.2.2, w ∈ aBW) ∧ (∃ ty : Nat → FieldType, (∀ k, k < q.2.2 → parseFieldDescriptor (q.2.1 k).2.2.1 = some (ty k)) ∧ ∀ k, k < q.2.2 → aTyc (ty k) ≤ 2) ∧ (∀ a, a < q.2.2 → ∀ b, b < q.2.2 → a ≠ b → (q.2.1 a).2.1 ≠ (q.2.1 b).2.1) ∧ Cond.instantiable q.1 q.2.2 ∈ aBW ∧ Cond.initialized q.1 ∈ aBW
theorem aCls_ok : ∀ q ∈ aCls, aClsOk q := by
  intro q hq
  simp only [aCls, List.mem_cons, List.not_mem_nil, or_false] at hq
  rcases hq with rfl | rfl | rfl | rfl | rfl | rfl | rfl | rfl | rfl
  · exact ⟨lyX0, ⟨tyX0, tyokX0, by decide +kernel⟩, nmX0, insX0, iniX0⟩
  · exact ⟨lyX1, ⟨tyX1, tyokX1, by decide +kernel⟩, nmX1, insX1, iniX1⟩
  · exact ⟨lyX2, ⟨tyX2, tyokX2, by decide +kernel⟩, nmX2, insX2, iniX2⟩
  · exact ⟨lyX3, ⟨tyX3, tyokX3, by decide +kernel⟩, nmX3, insX3, iniX3⟩
  · exact ⟨lyX4, ⟨tyX4, tyokX4, by decide +kernel⟩, nmX4, insX4, iniX4⟩
  · exact ⟨lyX5, ⟨tyX5, tyokX5, by decide +kernel⟩, nmX5, insX5, iniX5⟩
  · exact ⟨lyX6, ⟨tyX6, tyokX6, by decide +kernel⟩, nmX6, insX6, iniX6⟩
  · exact ⟨lyX7, ⟨tyX7, tyokX7, by decide +kernel⟩, nmX7, insX7, iniX7⟩
  · exact ⟨lyX8, ⟨tyX8, tyokX8, by decide +kernel⟩, nmX8, insX8, iniX8⟩
theorem aCls_at {ci : Nat} {q : vw_C} (h : aCls[ci]? = some q) : aClsOk q := aCls_ok q (List.mem_of_getElem? h)
/-! one step of a straight stretch -/
def aFetch : List (Nat × Instr) → Nat → Option Instr
  | [], _ => none
  | e :: r, pc => bif Nat.beq e.1 pc then some e.2 else aFetch r pc
def aFld : List (Nat × Nat × Nat × Nat × Bool) → Nat → Option (Nat × Nat × Nat × Bool)
  | [], _ => none
  | e :: r, k => bif Nat.beq e.1 k then some e.2 else aFld r k
def aKst : List (Nat × Int) → Nat → Option Int
  | [], _ => none
  | e :: r, k => bif Nat.beq e.1 k then some e.2 else aKst r k
theorem aFetch_in {l : List (Nat × Instr)} {pc : Nat} {i : Instr} (h : aFetch l pc = some i) : (pc, i) ∈ l := by
  induction l with
  | nil => cases h
  | cons e r ih =>
    unfold aFetch at h
    cases hb : Nat.beq e.1 pc with
    | true =>
      rw [hb] at h
      have := Nat.eq_of_beq_eq_true hb
      cases h
      subst this
      exact List.mem_cons_self
    | false => rw [hb] at h; exact List.mem_cons_of_mem _ (ih h)
theorem aFld_in {l : List (Nat × Nat × Nat × Nat × Bool)} {k : Nat} {i : Nat × Nat × Nat × Bool} (h : aFld l k = some i) : (k, i) ∈ l := by
  induction l with
  | nil => cases h
  | cons e r ih =>
    unfold aFld at h
    cases hb : Nat.beq e.1 k with
    | true =>
      rw [hb] at h
      have := Nat.eq_of_beq_eq_true hb
      cases h
      subst this
      exact List.mem_cons_self
    | false => rw [hb] at h; exact List.mem_cons_of_mem _ (ih h)
theorem aKst_in {l : List (Nat × Int)} {k : Nat} {i : Int} (h : aKst l k = some i) : (k, i) ∈ l := by
  induction l with
  | nil => cases h
  | cons e r ih =>
    unfold aKst at h
    cases hb : Nat.beq e.1 k with
    | true =>
      rw [hb] at h
      have := Nat.eq_of_beq_eq_true hb
      cases h
      subst this
      exact List.mem_cons_self
    | false => rw [hb] at h; exact List.mem_cons_of_mem _ (ih h)
abbrev aLs : Type := List (Option aV)
abbrev aF : Type := Nat × aLs × List aV × aH
def a32 (f : Int32 → Int32 → Int32) (x y : Int) : Int := (f (Int32.ofInt x) (Int32.ofInt y)).toInt
def aAnd : Int → Int → Int := a32 (fun x y => x &&& y)
def aOr : Int → Int → Int := a32 (fun x y => x ||| y)
def aXor : Int → Int → Int := a32 (fun x y => x ^^^ y)
def aShl : Int → Int → Int := a32 (fun x y => x <<< (y &&& 31))
def aShr : Int → Int → Int := a32 (fun x y => x >>> (y &&& 31))
def aUshr : Int → Int → Int := a32 (fun x y => (x.toUInt32 >>> (y.toUInt32 &&& Int32.toUInt32 31)).toInt32)
def aBin : Instr → Int → Int → Option Int
  | .iadd, x, y => some (x + y)
  | .isub, x, y => some (x - y)
  | .imul, x, y => some (x * y)
  | .iand, x, y => some (aAnd x y)
  | .ior, x, y => some (aOr x y)
  | .ixor, x, y => some (aXor x y)
  | .ishl, x, y => some (aShl x y)
  | .ishr, x, y => some (aShr x y)
  | .iushr, x, y => some (aUshr x y)
  | _, _, _ => none
/-- a number that is pushed -/
def aPush (M : aM) : Instr → Option Int
  | .iconst z => some z
  | .bipush z => some z
  | .sipush z => some z
  | .ldc k => aKst (aMk M) k
  | .ldc_w k => aKst (aMk M) k
  | _ => none
def aLdI : Instr → Option Nat
  | .iload k => some k
  | .iload_n k => some k.val
  | _ => none
def aLdA : Instr → Option Nat
  | .aload k => some k
  | .aload_n k => some k.val
  | _ => none
def aStI : Instr → Option Nat
  | .istore k => some k
  | .istore_n k => some k.val
  | _ => none
def aStA : Instr → Option Nat
  | .astore k => some k
  | .astore_n k => some k.val
  | _ => none
def aLoc (ls : aLs) (k : Nat) : Option aV := match ls[k]? with
  | some (some v) => some v
  | _ => none
def aGetF (M : aM) (h : aH) (idx k : Nat) : Option aV := match aFld (aMf M) idx, aGet h k with
  | some f, some (.inr o) => bif Nat.beq f.1 o.1 then (match o.2[f.2.1]? with
    | some (some v) => some v
    | _ => none) else none
  | _, _ => none
def aTyFit : Nat → aV → Bool
  | 0, .inl _ => true
  | 1, .inl z => decide (z = 0) || decide (z = 1)
  | 2, .inr _ => true
  | _, _ => false
def aPutF (M : aM) (h : aH) (idx k : Nat) (v : aV) : Option aH := match aFld (aMf M) idx, aGet h k with
  | some f, some (.inr o) => bif Nat.beq f.1 o.1 && Nat.blt f.2.1 o.2.length && aTyFit f.2.2.1 v && (!f.2.2.2 || decide ((aMy M).name = "<init>")) then some (aSet h k (.inr (o.1, o.2.set f.2.1 (some v)))) else none
  | _, _ => none
def aJmp (pc : Nat) (off : Int) : Nat := ((pc : Int) + off).toNat
def aTry (a b : Option aF) : Option aF := match a with
  | some x => some x
  | none => b
def aOp (M : aM) (i : Instr) (pc : Nat) (ls : aLs) (st : List aV) (h : aH) : Option aF :=
  match i with
  | .iconst z => some (pc + 1, ls, .inl z :: st, h)
  | .bipush z => some (pc + 2, ls, .inl z :: st, h)
  | .sipush z => some (pc + 3, ls, .inl z :: st, h)
  | .ldc k => (aKst (aMk M) k).map fun z => (pc + 2, ls, .inl z :: st, h)
  | .ldc_w k => (aKst (aMk M) k).map fun z => (pc + 3, ls, .inl z :: st, h)
  | .iload k => (match aLoc ls k with
    | some (.inl z) => some (pc + 2, ls, .inl z :: st, h)
    | _ => none)
  | .iload_n k => (match aLoc ls k.val with
    | some (.inl z) => some (pc + 1, ls, .inl z :: st, h)
    | _ => none)
  | .aload k => (match aLoc ls k with
    | some (.inr z) => some (pc + 2, ls, .inr z :: st, h)
    | _ => none)
  | .aload_n k => (match aLoc ls k.val with
    | some (.inr z) => some (pc + 1, ls, .inr z :: st, h)
    | _ => none)
  | .istore k => (match st with
    | .inl z :: st => bif Nat.blt k (aMn M) then some (pc + 2, ls.set k (some (.inl z)), st, h) else none
    | _ => none)
  | .istore_n k => (match st with
    | .inl z :: st => bif Nat.blt k.val (aMn M) then some (pc + 1, ls.set k.val (some (.inl z)), st, h) else none
    | _ => none)
  | .astore k => (match st with
    | .inr z :: st => bif Nat.blt k (aMn M) then some (pc + 2, ls.set k (some (.inr z)), st, h) else none
    | _ => none)
  | .astore_n k => (match st with
    | .inr z :: st => bif Nat.blt k.val (aMn M) then some (pc + 1, ls.set k.val (some (.inr z)), st, h) else none
    | _ => none)
  | .iinc k z => (match aLoc ls k with
    | some (.inl x) => bif Nat.blt k (aMn M) then some (pc + 3, ls.set k (some (.inl (x + z))), st, h) else none
    | _ => none)
  | .iadd => (match st with
    | .inl y :: .inl x :: st => some (pc + 1, ls, .inl (x + y) :: st, h)
    | _ => none)
  | .isub => (match st with
    | .inl y :: .inl x :: st => some (pc + 1, ls, .inl (x - y) :: st, h)
    | _ => none)
  | .imul => (match st with
    | .inl y :: .inl x :: st => some (pc + 1, ls, .inl (x * y) :: st, h)
    | _ => none)
  | .ineg => (match st with
    | .inl x :: st => some (pc + 1, ls, .inl (-x) :: st, h)
    | _ => none)
  | .iand => (match st with
    | .inl y :: .inl x :: st => some (pc + 1, ls, .inl (aAnd x y) :: st, h)
    | _ => none)
  | .ior => (match st with
    | .inl y :: .inl x :: st => some (pc + 1, ls, .inl (aOr x y) :: st, h)
    | _ => none)
  | .ixor => (match st with
    | .inl y :: .inl x :: st => some (pc + 1, ls, .inl (aXor x y) :: st, h)
    | _ => none)
  | .ishl => (match st with
    | .inl y :: .inl x :: st => some (pc + 1, ls, .inl (aShl x y) :: st, h)
    | _ => none)
  | .ishr => (match st with
    | .inl y :: .inl x :: st => some (pc + 1, ls, .inl (aShr x y) :: st, h)
    | _ => none)
  | .iushr => (match st with
    | .inl y :: .inl x :: st => some (pc + 1, ls, .inl (aUshr x y) :: st, h)
    | _ => none)
  | .dup => (match st with
    | x :: st => some (pc + 1, ls, x :: x :: st, h)
    | _ => none)
  | .dup2 => (match st with
    | x :: y :: st => some (pc + 1, ls, x :: y :: x :: y :: st, h)
    | _ => none)
  | .pop => (match st with
    | _ :: st => some (pc + 1, ls, st, h)
    | _ => none)
  | .goto off => bif decide (0 ≤ (pc : Int) + off) then some (aJmp pc off, ls, st, h) else none
  | .getfield idx => (match st with
    | .inr k :: st => (aGetF M h idx k).map fun v => (pc + 3, ls, v :: st, h)
    | _ => none)
  | .putfield idx => (match st with
    | v :: .inr k :: st => (aPutF M h idx k v).map fun h' => (pc + 3, ls, st, h')
    | _ => none)
  | .arraylength => (match st with
    | .inr k :: st => (match aGet h k with
      | some (.inl l) => some (pc + 1, ls, .inl (l.length : Int) :: st, h)
      | _ => none)
    | _ => none)
  | _ => none
def aStep (M : aM) (f : aF) : Option aF := match aFetch (aMt M) f.1 with
  | some i => aOp M i f.1 f.2.1 f.2.2.1 f.2.2.2
  | none => none
def aRun (M : aM) : Nat → aF → Option aF
  | 0, f => some f
  | n + 1, f => match aStep M f with
    | some f' => aRun M n f'
    | none => none
