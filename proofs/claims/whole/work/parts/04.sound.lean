/-! The abstract machine's judgement, and that each of its steps is the machine's. -/
/-- the words of nest mates -/
def aNW : List Cond := lw_tbl.filter (fun w => match w with
  | .methodLinkNest _ _ _ _ => true
  | _ => false)
/-- String constants: where the code names them, their texts, lengths, bytes -/
def aTx : List (Nat × String) := [(66, "p?00000;"), (68, "a000;"), (70, "l0000;"), (72, "k00000;"), (74, "s000;"), (76, "d00;"), (78, ""), (83, "pswcon")]
def aTxLen : List Nat := aTx.map fun q => q.2.length
def aTxByt : List (List Int32) := aTx.map fun q => q.2.toList.map fun c => Int32.ofNat c.toNat
/-- what holds of the world at every call: the classes, int arrays, nest words, String constants -/
def aIv (base : Nat) (D : va_G) (cI : ClassId) (adK adV : Nat → Nat) (U : State) : Prop :=
  va_K D aCls [(cI, .int)] U ∧ (∀ w ∈ aNW, va_Nw w U) ∧ vk_S 8 aTxLen aTxByt adK (fun i => adK (8 + i)) (fun q => base ≤ q) U U.heap ∧ (∀ (i : Nat) (q : Nat × String), aTx[i]? = some q → vk_R RX6 q.1 q.2 (adK i) U) ∧ va_Z "java/lang/String" "COMPACT_STRINGS" "Z" (.int 1) (fun q => base ≤ q) U U.heap ∧ va_Zq "jdk/internal/util/Preconditions" "SIOOBE_FORMATTER" "Ljava/util/function/BiFunction;" (fun q => base ≤ q) U U.heap
def aSc (sc : Option (Nat × (Nat → Int32))) (base b0 : Nat) (s : State) : Prop := ∀ (L : Nat) (xs : Nat → Int32), sc = some (L, xs) → va_X b0 L xs s s.heap ∧ b0 < s.heap.size ∧ b0 < base
def aCx (M : aM) (d : Nat) (sc : Option (Nat × (Nat → Int32))) (base b0 : Nat) (adK adV : Nat → Nat) (D : va_G) (cI : ClassId) (p : Program) (R : Room) (s : State) (m : MethodId) (args : Array Value) (meth : Method) (c : Code) : Prop :=
  p.tables.exec = Jvm.exec ∧ c.code = aMc M ∧ c.maxLocals = aMn M ∧ meth.sig.returnType = aMr M ∧ ((aMy M).name = "<init>" → meth.name = "<init>") ∧ s.vm.findClass (aMy M).cls = some m.cls ∧ (∀ w ∈ aBW, w.before args s = true) ∧ meth.locks = false ∧
  aIv base D cI adK adV s ∧ (d ≤ R.frames ∧ 36 * d ≤ R.locals) ∧ base ≤ s.heap.size ∧ aSc sc base b0 s
def aAss (ad : Nat → Nat) (ls : aLs) : List (Nat × Value) := (List.range ls.length).filterMap fun i => match ls[i]? with
  | some (some v) => some (i, aC ad v)
  | _ => none
theorem aAss_in {ad : Nat → Nat} {ls : aLs} {i : Nat} {v : Value} : (i, v) ∈ aAss ad ls ↔ ∃ w, ls[i]? = some (some w) ∧ v = aC ad w := by
  unfold aAss
  rw [List.mem_filterMap]
  constructor
  · rintro ⟨j, -, hj⟩
    cases hl : ls[j]? with
    | none => rw [hl] at hj; cases hj
    | some o =>
      cases o with
      | none => rw [hl] at hj; cases hj
      | some w =>
        rw [hl] at hj
        cases hj
        exact ⟨w, hl, rfl⟩
  · rintro ⟨w, hw, rfl⟩
    refine ⟨i, List.mem_range.mpr (List.getElem?_eq_some_iff.mp hw).1, ?_⟩
    rw [hw]
def aL (ad : Nat → Nat) (ls : aLs) (la : Array Slot) (nL : Nat) : Prop := lv_has la nL (aAss ad ls)
theorem lv_less {ls : Array Slot} {nL : Nat} {l l' : List (Nat × Value)} (h : lv_has ls nL l) (hs : ∀ q ∈ l', q ∈ l) : lv_has ls nL l' := ⟨h.1, h.2.1, fun q hq => h.2.2 q (hs q hq)⟩
theorem aC_cat (ad : Nat → Nat) (v : aV) : (aC ad v).category = 1 := by cases v <;> rfl
theorem aL_set {ad : Nat → Nat} {ls : aLs} {la : Array Slot} {nL k : Nat} {v : aV} (h : lv_has la nL ((k, aC ad v) :: (aAss ad ls).filter (fun q => !(q.1 == k) && !(q.1 + 1 == k && q.2.category == 2)))) : aL ad (ls.set k (some v)) la nL := by
  refine lv_less h fun q hq => ?_
  obtain ⟨i, w⟩ := q
  obtain ⟨x, hx, rfl⟩ := aAss_in.mp hq
  by_cases hi : i = k
  · subst hi
    have hl : i < ls.length := by
      have := (List.getElem?_eq_some_iff.mp hx).1
      simpa using this
    rw [List.getElem?_set_self hl] at hx
    cases hx
    exact List.mem_cons_self
  · rw [List.getElem?_set_ne (Ne.symm hi)] at hx
    refine List.mem_cons_of_mem _ (List.mem_filter.mpr ⟨aAss_in.mpr ⟨x, hx, rfl⟩, ?_⟩)
    simp [hi, aC_cat]
theorem aL_at {ad : Nat → Nat} {ls : aLs} {la : Array Slot} {nL k : Nat} {v : aV} (h : aL ad ls la nL) (hk : aLoc ls k = some v) : la[k]? = some (.val (aC ad v)) := by
  refine h.2.2 (k, aC ad v) (aAss_in.mpr ⟨v, ?_, rfl⟩)
  unfold aLoc at hk
  cases hl : ls[k]? with
  | none => rw [hl] at hk; cases hk
  | some o =>
    cases o with
    | none => rw [hl] at hk; cases hk
    | some w => rw [hl] at hk; cases hk; rfl
/-- a number that a method of this type may give back -/
def aNar : Option FieldType → Int → Bool
  | some .int, _ => true
  | some .byte, z => decide (-128 ≤ z) && decide (z ≤ 127)
  | some .char, z => decide (0 ≤ z) && decide (z ≤ 65535)
  | _, _ => false
theorem aNar_of {r : Option FieldType} {z : Int} (h : aNar r z = true) : ∃ ty, r = some ty ∧ narrow ty (.int (Int32.ofInt z)) = .int (Int32.ofInt z) := by
  unfold aNar at h
  split at h
  · exact ⟨.int, rfl, rfl⟩
  · refine ⟨.byte, rfl, ?_⟩
    simp only [Bool.and_eq_true, decide_eq_true_eq] at h
    have e : (Int32.ofInt z).toInt8.toInt32 = Int32.ofInt z := by
      rw [← Int32.toInt_inj, Int8.toInt_toInt32, Int32.toInt_toInt8, Int32.toInt_ofInt_of_le (by omega) (by omega)]
      rw [Int.bmod_eq_of_le (by omega) (by omega)]
    show Value.int _ = _
    rw [e]
  · refine ⟨.char, rfl, ?_⟩
    simp only [Bool.and_eq_true, decide_eq_true_eq] at h
    obtain ⟨q, rfl⟩ : ∃ q : Nat, z = (q : Int) := ⟨z.toNat, by omega⟩
    have e : Int32.ofInt (q : Int) = nI q := by
      rw [← Int32.toInt_inj, Int32.toInt_ofInt_of_le (by omega) (by omega)]
      show (q : Int) = (Int32.ofNat q).toInt
      rw [Int32.toInt_ofNat_of_lt (by omega)]
    rw [e]
    exact (pk_charN (q := q) (by omega)).1
  · cases h
/-- the instruction that gives the answer back -/
def aRet (M : aM) (pc : Nat) : Option aV → Prop
  | none => aFetch (aMt M) pc = some .return_ ∧ aMr M = none
  | some (.inl z) => aFetch (aMt M) pc = some .ireturn ∧ (aNar (aMr M) z = true ∨ (aMr M = some .boolean ∧ (z = 0 ∨ z = 1)))
  | some (.inr _) => aFetch (aMt M) pc = some .areturn ∧ ∃ n, aMr M = some (.object n)
def AW (M : aM) (d kc ks n : Nat) (sc : Option (Nat × (Nat → Int32))) (Q : Option aV → aH → Prop) (f : aF) : Prop :=
  ∀ (p : Program) (l : Launch) (e : Env) (R : Room) (s : State) (m : MethodId) (args : Array Value) (below : List Frame) (meth : Method) (c : Code) (D : va_G) (cI : ClassId) (base b0 : Nat) (adK adV : Nat → Nat) (C1 S1 : Nat) (Z : State → Prop),
    aCx M d sc base b0 adK adV D cI p R s m args meth c → C1 ≤ R.cells → S1 ≤ R.slots →
    (∀ (v : Option aV) (h : aH) (pc : Nat) (la : Array Slot) (H : Heap) (locs : List Loc) (slots : Nat), Q v h → aP D cI (aAd base b0 adK) h H → H.size = base + (n + kc) → va_S (fun q => base ≤ q) s.heap H locs → slots ≤ S1 → aRet M pc v →
      W p l e R s m args below meth c H locs C1 slots Z (F0 m pc la (v.map (aC (aAd base b0 adK))).toList)) →
    ∀ (la : Array Slot) (H : Heap) (locs : List Loc) (cells slots : Nat), aP D cI (aAd base b0 adK) f.2.2.2 H → H.size = base + n → va_S (fun q => base ≤ q) s.heap H locs → aL (aAd base b0 adK) f.2.1 la (aMn M) → cells + kc = C1 → slots + ks ≤ S1 →
      W p l e R s m args below meth c H locs cells slots Z (F0 m f.1 la (f.2.2.1.map (aC (aAd base b0 adK))))
theorem aDec_of {M : aM} (hM : aOK M) {pc : Nat} {i : Instr} (h : aFetch (aMt M) pc = some i) : ∃ n, decode (aMc M) pc = .ok (i, n) ∧ (n = aLen i ∨ aSwi i = true) ∧ aOkI i = true := by
  have h1 := hM.1 _ (aFetch_in h)
  unfold aDecOk at h1
  cases hd : decode (aMc M) pc with
  | error e => rw [show ((pc, i) : Nat × Instr).1 = pc from rfl, hd] at h1; cases h1
  | ok q =>
    obtain ⟨i', n⟩ := q
    rw [show ((pc, i) : Nat × Instr).1 = pc from rfl, hd] at h1
    simp only [Bool.and_eq_true, decide_eq_true_eq, Bool.or_eq_true, beq_iff_eq] at h1
    obtain ⟨⟨rfl, h2⟩, h3⟩ := h1
    exact ⟨n, rfl, h2, h3⟩
theorem aDec1 {M : aM} (hM : aOK M) {pc : Nat} {i : Instr} (h : aFetch (aMt M) pc = some i) (hs : aSwi i = false) {n : Nat} (hn : aLen i = n) : decode (aMc M) pc = .ok (i, n) := by
  obtain ⟨k, h1, h2 | h2, -⟩ := aDec_of hM h
  · rw [h1, h2, hn]
  · rw [hs] at h2; cases h2
theorem i32_add (a b : Int) : Int32.ofInt a + Int32.ofInt b = Int32.ofInt (a + b) := (Int32.ofInt_add a b).symm
theorem i32_sub (a b : Int) : Int32.ofInt a - Int32.ofInt b = Int32.ofInt (a - b) := (Int32.ofInt_sub a b).symm
theorem i32_mul (a b : Int) : Int32.ofInt a * Int32.ofInt b = Int32.ofInt (a * b) := (Int32.ofInt_mul a b).symm
theorem i32_neg (a : Int) : -Int32.ofInt a = Int32.ofInt (-a) := (Int32.ofInt_neg a).symm
theorem i32_op (f : Int32 → Int32 → Int32) (a b : Int) : f (Int32.ofInt a) (Int32.ofInt b) = Int32.ofInt (a32 f a b) := (Int32.ofInt_toInt _).symm
theorem i32_byte {z : Int} (h : aOkI (.bipush z) = true) : (Int8.ofInt z).toInt32 = Int32.ofInt z := by
  simp only [aOkI, Bool.and_eq_true, decide_eq_true_eq] at h
  rw [← Int32.toInt_inj, Int8.toInt_toInt32, Int8.toInt_ofInt_of_le (by omega) (by omega), Int32.toInt_ofInt_of_le (by omega) (by omega)]
theorem i32_short {z : Int} (h : aOkI (.sipush z) = true) : (Int16.ofInt z).toInt32 = Int32.ofInt z := by
  simp only [aOkI, Bool.and_eq_true, decide_eq_true_eq] at h
  rw [← Int32.toInt_inj, Int16.toInt_toInt32, Int16.toInt_ofInt_of_le (by omega) (by omega), Int32.toInt_ofInt_of_le (by omega) (by omega)]
