/-! From the law's entry to its loop; laid by gen_start.py -/
theorem rng_0 (n : Nat) {b : Int} (hb : 0 ≤ b) : rng (List.replicate n 0) b := fun i => by
  have e : (List.replicate n (0 : Int)).getD i 0 = 0 := by
    rw [List.getD_eq_getElem?_getD, List.getElem?_replicate]
    by_cases h : i < n
    · rw [if_pos h]; rfl
    · rw [if_neg h]; rfl
  rw [e]; exact ⟨Int.le_refl 0, hb⟩
theorem bOK_0 : bOK 0 (List.replicate 7 0) (List.replicate 7 0) (List.replicate 7 0) (List.replicate 7 0) (List.replicate 7 0) (List.replicate 49 0) 360 0 := ⟨by omega, rfl, rfl, rfl, rfl, rfl, rfl, rng_0 7 (by omega), rng_0 7 (by omega), rng_0 7 (by omega), rng_0 7 (by omega), rng_0 7 (by omega), rng_0 49 (by omega), by omega, by omega, by omega, by omega⟩
theorem mOK_0 : mOK 0 (List.replicate 7 0) (List.replicate 7 0) (List.replicate 7 0) (List.replicate 7 0) (List.replicate 7 0) (List.replicate 49 0) (List.replicate 7 0) (List.replicate 7 0) (List.replicate 7 0) 360 0 0 := ⟨bOK_0, ⟨rfl, fun i h => absurd h (Nat.not_lt_zero i)⟩, ⟨rfl, fun i h => absurd h (Nat.not_lt_zero i), rfl⟩, ⟨rfl, fun i h => absurd h (Nat.not_lt_zero i)⟩⟩
theorem aux_0 : auxOK 0 (List.replicate 12 0) (List.replicate 7 0) 0 (List.replicate 96 0) := ⟨rfl, rng_0 96 (by omega), by omega, rfl, rng_0 12 (by omega), by omega, rfl⟩
set_option maxRecDepth 100000 in
theorem LI_0 : LI [(mainSeg 0 0), (moSeg 32 (List.replicate 7 0) (List.replicate 7 0) (List.replicate 7 0) (List.replicate 7 0) (List.replicate 7 0) (List.replicate 49 0) (List.replicate 7 0) (List.replicate 7 0) (List.replicate 7 0) 0 360 0 0), (moSeg 64 (List.replicate 7 0) (List.replicate 7 0) (List.replicate 7 0) (List.replicate 7 0) (List.replicate 7 0) (List.replicate 49 0) (List.replicate 7 0) (List.replicate 7 0) (List.replicate 7 0) 0 360 0 0), (miscSeg 0 (List.replicate 25 0) (List.replicate 25 0) (List.replicate 6 0) (List.replicate 6 0) (List.replicate 64 0) 0 (List.replicate 96 0)), (moSeg 128 (List.replicate 7 0) (List.replicate 7 0) (List.replicate 7 0) (List.replicate 7 0) (List.replicate 7 0) (List.replicate 49 0) (List.replicate 7 0) (List.replicate 7 0) (List.replicate 7 0) 0 360 0 0), (auxSeg (List.replicate 12 0) (List.replicate 7 0)), (modSeg (List.replicate 7 0) (List.replicate 7 0) (List.replicate 7 0) (List.replicate 7 0) (List.replicate 7 0) (List.replicate 7 0) (List.replicate 49 0) (List.replicate 96 0) (List.replicate 48 0) (List.replicate 48 0) (List.replicate 192 0) (List.replicate 270 0) (List.replicate 7 0) (List.replicate 7 0) (List.replicate 7 0) (List.replicate 64 0) (List.replicate 25 0) (List.replicate 25 0) (List.replicate 12 0) 0 360 0 0 0 0 0 0 0 0 0 0)] := by
  have h1 : imOK ((List.replicate 7 0), (List.replicate 7 0), (List.replicate 7 0), (List.replicate 7 0), (List.replicate 7 0), (List.replicate 49 0), 0, 360, 0) (moSeg 128 (List.replicate 7 0) (List.replicate 7 0) (List.replicate 7 0) (List.replicate 7 0) (List.replicate 7 0) (List.replicate 49 0) (List.replicate 7 0) (List.replicate 7 0) (List.replicate 7 0) 0 360 0 0) := ⟨by show (0 : Nat) ≤ 6; omega, by show (0 : Int) ≤ 999; omega, _, _, _, _, mOK_0, rfl⟩
  exact ⟨0, 0, (List.replicate 7 0), (List.replicate 7 0), (List.replicate 7 0), (List.replicate 7 0), (List.replicate 7 0), (List.replicate 49 0), 0, 360, 0, (List.replicate 12 0), (List.replicate 7 0), 0, (List.replicate 96 0), ((List.replicate 7 0), (List.replicate 7 0), (List.replicate 7 0), (List.replicate 7 0), (List.replicate 7 0), (List.replicate 49 0), 0, 360, 0), _, _, _, _, _, _, _, cSt_of (by omega) (by omega) aux_0 mOK_0 (thk_of ⟨rfl, rfl, rfl, rfl, rfl, rfl, rfl, rfl, rfl⟩) ⟨rfl, rfl, rfl, rfl, rfl⟩ h1 (Or.inl rfl), mSt_of (by omega) (by omega) aux_0 bOK_0 ⟨rfl, rfl, rfl, rfl, rfl, rfl, rfl, rfl, rfl, rfl⟩ (Or.inl rfl)⟩
set_option maxRecDepth 100000 in
theorem law_all {L : Nat} {xs : Nat → Int32} (hL : L ≤ 2560) : AW mL_law 12 99 1578 0 (some (L, xs)) QL (0, [some (.inr 1024), none, none, none], [], [[none], [none, none, none, none, none, none, none, none, none, none, none, none, none, none, none, none, none, none, none], [none, none, none, none, none, none, none, none, none, none, none, none, none, none, none, none, none, none, none], [none, none, none, none, none, none, none, none, none, none, none, none, none, none, none, none, none], [none, none, none, none, none, none, none, none, none, none, none, none, none, none, none, none, none, none, none], [none, none, none, none], [none, none, none, none, none, none, none, none, none, none, none, none, none, none, none, none, none, none, none, none]]) := by
  refine b_new (kc := 98) (ks := 1567) (k := 0) (ci := 7) (fs := [none, none, none, none, none, none, none, some (.inl 0), none, some (.inl 0), none]) okL_law rfl rfl clL_7 ⟨by decide, by decide⟩ rfl rfl df_7 ?_
  refine aGo okL_law 1 (f' := (4, [some (.inr 1024), none, none, none], [.inr 0, .inr 0], [[some (.inr (7, [none, none, none, none, none, none, none, some (.inl 0), none, some (.inl 0), none]))], [none, none, none, none, none, none, none, none, none, none, none, none, none, none, none, none, none, none, none], [none, none, none, none, none, none, none, none, none, none, none, none, none, none, none, none, none, none, none], [none, none, none, none, none, none, none, none, none, none, none, none, none, none, none, none, none], [none, none, none, none, none, none, none, none, none, none, none, none, none, none, none, none, none, none, none], [none, none, none, none], [none, none, none, none, none, none, none, none, none, none, none, none, none, none, none, none, none, none, none, none]])) rfl ?_
  refine b_callI (kc := 20) (ks := 923) (kc1 := 78) (ks1 := 644) (as := []) (rest := [.inr 0]) (k := 0) okL_law rfl lkL_9 caX7_init (Nat.le_of_ble_eq_true rfl) rfl (Nat.le_of_ble_eq_true rfl) rfl c_init7 ?_
  rintro _ _ ⟨rfl, rfl⟩
  refine aGo okL_law 1 (f' := (8, [some (.inr 1024), some (.inr 0), none, none], [], [(mainSeg 0 0), (moSeg 32 (List.replicate 7 0) (List.replicate 7 0) (List.replicate 7 0) (List.replicate 7 0) (List.replicate 7 0) (List.replicate 49 0) (List.replicate 7 0) (List.replicate 7 0) (List.replicate 7 0) 0 360 0 0), (moSeg 64 (List.replicate 7 0) (List.replicate 7 0) (List.replicate 7 0) (List.replicate 7 0) (List.replicate 7 0) (List.replicate 49 0) (List.replicate 7 0) (List.replicate 7 0) (List.replicate 7 0) 0 360 0 0), (miscSeg 0 (List.replicate 25 0) (List.replicate 25 0) (List.replicate 6 0) (List.replicate 6 0) (List.replicate 64 0) 0 (List.replicate 96 0)), (moSeg 128 (List.replicate 7 0) (List.replicate 7 0) (List.replicate 7 0) (List.replicate 7 0) (List.replicate 7 0) (List.replicate 49 0) (List.replicate 7 0) (List.replicate 7 0) (List.replicate 7 0) 0 360 0 0), (auxSeg (List.replicate 12 0) (List.replicate 7 0)), [none, none, none, none, none, none, none, none, none, none, none, none, none, none, none, none, none, none, none, none]])) rfl ?_
  refine b_new (kc := 19) (ks := 892) (k := 192) (ci := 8) (fs := [none, none, none, none, none, none, none, some (.inl 0), some (.inl 0), some (.inl 0), none, none, none, none, some (.inl 0), some (.inl 0), some (.inl 0), none, some (.inl 0), some (.inl 0), some (.inl 0), some (.inl 0), none, none, some (.inl 0), none, none, none, none, none, some (.inl 0)]) okL_law rfl rfl clL_10 ⟨by decide, by decide⟩ rfl rfl df_8 ?_
  refine aGo okL_law 1 (f' := (12, [some (.inr 1024), some (.inr 0), none, none], [.inr 192, .inr 192], [(mainSeg 0 0), (moSeg 32 (List.replicate 7 0) (List.replicate 7 0) (List.replicate 7 0) (List.replicate 7 0) (List.replicate 7 0) (List.replicate 49 0) (List.replicate 7 0) (List.replicate 7 0) (List.replicate 7 0) 0 360 0 0), (moSeg 64 (List.replicate 7 0) (List.replicate 7 0) (List.replicate 7 0) (List.replicate 7 0) (List.replicate 7 0) (List.replicate 49 0) (List.replicate 7 0) (List.replicate 7 0) (List.replicate 7 0) 0 360 0 0), (miscSeg 0 (List.replicate 25 0) (List.replicate 25 0) (List.replicate 6 0) (List.replicate 6 0) (List.replicate 64 0) 0 (List.replicate 96 0)), (moSeg 128 (List.replicate 7 0) (List.replicate 7 0) (List.replicate 7 0) (List.replicate 7 0) (List.replicate 7 0) (List.replicate 49 0) (List.replicate 7 0) (List.replicate 7 0) (List.replicate 7 0) 0 360 0 0), (auxSeg (List.replicate 12 0) (List.replicate 7 0)), [some (.inr (8, [none, none, none, none, none, none, none, some (.inl 0), some (.inl 0), some (.inl 0), none, none, none, none, some (.inl 0), some (.inl 0), some (.inl 0), none, some (.inl 0), some (.inl 0), some (.inl 0), some (.inl 0), none, none, some (.inl 0), none, none, none, none, none, some (.inl 0)])), none, none, none, none, none, none, none, none, none, none, none, none, none, none, none, none, none, none, none]])) rfl ?_
  refine b_callI (kc := 0) (ks := 0) (kc1 := 19) (ks1 := 892) (as := []) (rest := [.inr 192]) (k := 192) okL_law rfl lkL_12 caX8_init (Nat.le_of_ble_eq_true rfl) rfl (Nat.le_of_ble_eq_true rfl) rfl c_init8 ?_
  rintro _ _ ⟨rfl, rfl⟩
  refine aGo okL_law 3 (f' := (18, [some (.inr 1024), some (.inr 0), some (.inr 192), some (.inl ((0 : Nat) : Int))], [], [(mainSeg 0 0), (moSeg 32 (List.replicate 7 0) (List.replicate 7 0) (List.replicate 7 0) (List.replicate 7 0) (List.replicate 7 0) (List.replicate 49 0) (List.replicate 7 0) (List.replicate 7 0) (List.replicate 7 0) 0 360 0 0), (moSeg 64 (List.replicate 7 0) (List.replicate 7 0) (List.replicate 7 0) (List.replicate 7 0) (List.replicate 7 0) (List.replicate 49 0) (List.replicate 7 0) (List.replicate 7 0) (List.replicate 7 0) 0 360 0 0), (miscSeg 0 (List.replicate 25 0) (List.replicate 25 0) (List.replicate 6 0) (List.replicate 6 0) (List.replicate 64 0) 0 (List.replicate 96 0)), (moSeg 128 (List.replicate 7 0) (List.replicate 7 0) (List.replicate 7 0) (List.replicate 7 0) (List.replicate 7 0) (List.replicate 49 0) (List.replicate 7 0) (List.replicate 7 0) (List.replicate 7 0) 0 360 0 0), (auxSeg (List.replicate 12 0) (List.replicate 7 0)), (modSeg (List.replicate 7 0) (List.replicate 7 0) (List.replicate 7 0) (List.replicate 7 0) (List.replicate 7 0) (List.replicate 7 0) (List.replicate 49 0) (List.replicate 96 0) (List.replicate 48 0) (List.replicate 48 0) (List.replicate 192 0) (List.replicate 270 0) (List.replicate 7 0) (List.replicate 7 0) (List.replicate 7 0) (List.replicate 64 0) (List.replicate 25 0) (List.replicate 25 0) (List.replicate 12 0) 0 360 0 0 0 0 0 0 0 0 0 0)])) rfl ?_
  exact law_loop hL L 0 _ (by omega) (by omega) LI_0
theorem no_cell : ∀ (ns : List Nat) (i j : Nat), ((ns.map fun n => List.replicate n (none : Option aE)).getD i []).getD j none = none := fun ns i j => by
  rw [List.getD_eq_getElem?_getD (l := ns.map _), List.getElem?_map]
  cases ns[i]? with
  | none => rfl
  | some n =>
    show (List.replicate n (none : Option aE)).getD j none = none
    rw [List.getD_eq_getElem?_getD, List.getElem?_replicate]
    by_cases h : j < n
    · rw [if_pos h]; rfl
    · rw [if_neg h]; rfl
theorem aP_0 (D : va_G) (cI : ClassId) (ad : Nat → Nat) (H : Heap) : aP D cI ad [[none], [none, none, none, none, none, none, none, none, none, none, none, none, none, none, none, none, none, none, none], [none, none, none, none, none, none, none, none, none, none, none, none, none, none, none, none, none, none, none], [none, none, none, none, none, none, none, none, none, none, none, none, none, none, none, none, none], [none, none, none, none, none, none, none, none, none, none, none, none, none, none, none, none, none, none, none], [none, none, none, none], [none, none, none, none, none, none, none, none, none, none, none, none, none, none, none, none, none, none, none, none]] H := ⟨rfl, fun k e hk => by
  have h1 : aGet [[none], [none, none, none, none, none, none, none, none, none, none, none, none, none, none, none, none, none, none, none], [none, none, none, none, none, none, none, none, none, none, none, none, none, none, none, none, none, none, none], [none, none, none, none, none, none, none, none, none, none, none, none, none, none, none, none, none], [none, none, none, none, none, none, none, none, none, none, none, none, none, none, none, none, none, none, none], [none, none, none, none], [none, none, none, none, none, none, none, none, none, none, none, none, none, none, none, none, none, none, none, none]] k = none := no_cell [1, 19, 19, 17, 19, 4, 20] (k / 32) (k % 32)
  rw [h1] at hk; cases hk⟩
def tmS (i : Nat) : Term := .string RX6 (aTx.getD i (0, "")).1
def FL : List Cond := flatC (Jvm.Cond.and given_1 narrow_1)
set_option maxRecDepth 100000 in
theorem fl_ex : ∀ i : Nat, i < 8 → Cond.exactly (tmS i) "java/lang/String" ∈ FL := by decide +kernel
set_option maxRecDepth 100000 in
theorem fl_co : ∀ i : Nat, i < 8 → Cond.eq (.field (tmS i) "java/lang/String" "coder" "B") (.int 0) ∈ FL := by decide +kernel
set_option maxRecDepth 100000 in
theorem fl_ar : ∀ i : Nat, i < 8 → Cond.arrayOf (.field (tmS i) "java/lang/String" "value" "[B") .byte ∈ FL := by decide +kernel
set_option maxRecDepth 100000 in
theorem fl_le : ∀ i : Nat, i < 8 → Cond.eq (.length (.field (tmS i) "java/lang/String" "value" "[B")) (.int (Int32.ofNat (aTxLen.getD i 0))) ∈ FL := by decide +kernel
set_option maxRecDepth 100000 in
theorem fl_el : ∀ i : Nat, i < 8 → ∀ j : Nat, j < aTxLen.getD i 0 → Cond.eq (.elem (.field (tmS i) "java/lang/String" "value" "[B") (.int (Int32.ofNat j))) (.int ((aTxByt.getD i []).getD j 0)) ∈ FL := by decide +kernel
set_option maxRecDepth 100000 in
theorem fl_ne : ∀ i : Nat, i < 8 → ∀ j : Nat, j < 8 → i ≠ j → Cond.not (Cond.eq (tmS i) (tmS j)) ∈ FL ∨ Cond.not (Cond.eq (tmS j) (tmS i)) ∈ FL := by decide +kernel
set_option maxRecDepth 100000 in
theorem fl_cs : Cond.eq (.static "java/lang/String" "COMPACT_STRINGS" "Z") (.int 1) ∈ FL ∧ Cond.isRef (.static "jdk/internal/util/Preconditions" "SIOOBE_FORMATTER" "Ljava/util/function/BiFunction;") ∈ FL := by decide +kernel
set_option maxRecDepth 100000 in
theorem tb_st : ∀ q ∈ aTx, Cond.stringRef RX6 q.1 q.2 ∈ lw_tbl := by decide +kernel
set_option maxRecDepth 100000 in
theorem tb_cs : Cond.laysStatic "java/lang/String" "COMPACT_STRINGS" "Z" ∈ lw_tbl ∧ Cond.initialized "java/lang/String" ∈ lw_tbl ∧ Cond.laysStatic "jdk/internal/util/Preconditions" "SIOOBE_FORMATTER" "Ljava/util/function/BiFunction;" ∈ lw_tbl ∧ Cond.initialized "jdk/internal/util/Preconditions" ∈ lw_tbl := by decide +kernel
theorem cls_at {s : State} {args : Array Value} (htb : ∀ w ∈ aBW, w.before args s = true) : ∃ D : va_G, ∀ (k : Nat) (q : vw_C), aCls[k]? = some q → u_Kn s q.1 q.2.1 q.2.2 (D.1 k) (D.2 k) := by
  have hKn : ∀ q ∈ aCls, ∃ (cC : ClassId) (iS : Nat → Nat), u_Kn s q.1 q.2.1 q.2.2 cC iS := fun q hq => u_known htb (aCls_ok q hq).1 (htb _ (aCls_ok q hq).2.2.2.1)
  have h0 : ∀ k : Nat, ∃ z : ClassId × (Nat → Nat), ∀ q, aCls[k]? = some q → u_Kn s q.1 q.2.1 q.2.2 z.1 z.2 := fun k => by
    cases h : aCls[k]? with
    | none =>
      obtain ⟨c0, i0, -⟩ := hKn (RX0, TX0, 2) List.mem_cons_self
      exact ⟨(c0, i0), fun q hq => by cases hq⟩
    | some q =>
      obtain ⟨c0, i0, hab⟩ := hKn q (List.mem_of_getElem? h)
      exact ⟨(c0, i0), fun q' hq' => by cases hq'; exact hab⟩
  obtain ⟨z, hz⟩ := Classical.axiomOfChoice h0
  exact ⟨(fun k => (z k).1, fun k => (z k).2), hz⟩
theorem int_at {s : State} {args : Array Value} (htb : ∀ w ∈ aBW, w.before args s = true) : ∃ cI : ClassId, ArrOfT s cI .int ∧ va_RA s cI .int := by
  obtain ⟨cI, kI, comp, h1, h2, h3⟩ := Cond.arrayClass_spec (htb _ arrI)
  exact ⟨cI, fun N z => ⟨(fun k h => by cases h), kI, h2, comp, h3⟩, h1⟩
theorem str_at {s : State} {args : Array Value} (hq : ∀ w ∈ FL, w.before args s = true) (hts : ∀ w ∈ lw_tbl, w.before args s = true) : ∃ adK : Nat → Nat, vk_S 8 aTxLen aTxByt adK (fun i => adK (8 + i)) (fun q => s.heap.size ≤ q) s s.heap ∧ ∀ (i : Nat) (q : Nat × String), aTx[i]? = some q → vk_R RX6 q.1 q.2 (adK i) s := by
  obtain ⟨a0, v0, h1, h2⟩ := vk_Sof (args := args) (s := s) (N := 8) (tm := tmS) (len := aTxLen) (byt := aTxByt) (A := fun q => s.heap.size ≤ q) (by decide) (fun i hi => hq _ (fl_ex i hi)) (fun i hi => hq _ (fl_co i hi)) (fun i hi => hq _ (fl_ar i hi)) (fun i hi => hq _ (fl_le i hi)) (fun i hi j hj => hq _ (fl_el i hi j hj)) (fun i j hi hj hij => (fl_ne i hi j hj hij).imp (hq _) (hq _)) (fun a ha => Nat.not_le.mpr ha)
  have e1 : ∀ i, i < 8 → (fun j => if j < 8 then a0 j else v0 (j - 8)) i = a0 i := fun i hi => if_pos hi
  have e2 : ∀ i, (fun j => if j < 8 then a0 j else v0 (j - 8)) (8 + i) = v0 i := fun i => (if_neg (by omega)).trans (congrArg v0 (by omega))
  generalize (fun j => if j < 8 then a0 j else v0 (j - 8)) = aK at e1 e2
  refine ⟨aK, ⟨fun i hi => ?_, fun i j hi hj e => h1.2 i j hi hj (by rw [← e1 i hi, ← e1 j hj]; exact e)⟩, fun i q hiq => ?_⟩
  · have := h1.1 i hi
    show va_O _ (aK i) _ _ _ ∧ va_OF _ _ _ _ (aK i) _ _ _ ∧ va_OF _ _ _ (.ref (aK (8 + i))) (aK i) _ _ _ ∧ va_T .byte (aK (8 + i)) _ _ _ _ _
    rw [e1 i hi, e2 i]
    exact this
  · have hi : i < 8 := (List.getElem?_eq_some_iff.mp hiq).1
    have := h2 i hi
    rw [← e1 i hi] at this
    have e3 : tmS i = .string RX6 q.1 := by unfold tmS; rw [List.getD_eq_getElem?_getD, hiq]; rfl
    rw [e3] at this
    exact vk_R.of (hts _ (tb_st q (List.mem_of_getElem? hiq))) this
theorem iv_at {s : State} {args : Array Value} (hq : ∀ w ∈ FL, w.before args s = true) (hts : ∀ w ∈ lw_tbl, w.before args s = true) : ∃ (D : va_G) (cI : ClassId) (adK : Nat → Nat), aIv s.heap.size D cI adK adK s := by
  have htb : ∀ w ∈ aBW, w.before args s = true := fun w hw => hts w (List.mem_filter.mp hw).1
  obtain ⟨D, hD⟩ := cls_at htb
  obtain ⟨cI, h1, h2⟩ := int_at htb
  obtain ⟨adK, h3, h4⟩ := str_at hq hts
  have hA : ∀ a : Nat, a < s.heap.size → ¬ (fun q => s.heap.size ≤ q) a := fun a ha => Nat.not_le.mpr ha
  refine ⟨D, cI, adK, ⟨hD, fun k q hk => ?_⟩, fun w hw => ?_, h3, h4, va_Zof (hts _ tb_cs.1) (hts _ tb_cs.2.1) (va_eqt (hq _ fl_cs.1)) hA, va_Zqof (hts _ tb_cs.2.2.1) (hts _ tb_cs.2.2.2) (hq _ fl_cs.2) hA⟩
  · match k, hk with
    | 0, hk => cases hk; exact ⟨h1, h2⟩
    | k + 1, hk => simp at hk
  · have hl := (List.mem_filter.mp hw).1
    obtain ⟨a, i, y, hst, rfl⟩ := aNW_is hw
    exact va_Nw.of rfl (hts _ hl)
