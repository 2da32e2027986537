/-! The rules of the abstract machine: branches, arrays, division, switches, answers, new cells, calls. -/
def aI (z : Int) : Prop := -2147483648 ≤ z ∧ z ≤ 2147483647
theorem aI_toInt {z : Int} (h : aI z) : (Int32.ofInt z).toInt = z := Int32.toInt_ofInt_of_le h.1 (by have := h.2; omega)
theorem aI_lt {x y : Int} (hx : aI x) (hy : aI y) : Int32.ofInt x < Int32.ofInt y ↔ x < y := by rw [Int32.lt_iff_toInt_lt, aI_toInt hx, aI_toInt hy]
theorem aI_le {x y : Int} (hx : aI x) (hy : aI y) : Int32.ofInt x ≤ Int32.ofInt y ↔ x ≤ y := by rw [Int32.le_iff_toInt_le, aI_toInt hx, aI_toInt hy]
theorem aI_eq {x y : Int} (hx : aI x) (hy : aI y) : Int32.ofInt x = Int32.ofInt y ↔ x = y := by rw [← Int32.toInt_inj, aI_toInt hx, aI_toInt hy]
theorem aI_0 : aI 0 := ⟨by decide, by decide⟩
theorem aIx {j N : Nat} (h : j < N) (h2 : j < 2147483648) : ¬ (nI j < 0 ∨ N ≤ (nI j).toNatClampNeg) := fun q => by
  rcases q with q | q
  · exact nI_pos (by omega) q
  · rw [nI_clamp (by omega)] at q; omega
theorem aCat_sum (ad : Nat → Nat) (st : List aV) : ((st.map (aC ad)).map fun v => v.category).sum = st.length := by
  induction st with
  | nil => rfl
  | cons v st ih => simp only [List.map_cons, List.sum_cons, List.length_cons, ih, aC_cat]; omega
theorem i32_0 : (0 : Int32) = Int32.ofInt 0 := rfl
section ARU
variable {M : aM} {d kc ks n : Nat} {sc : Option (Nat × (Nat → Int32))} {Q : Option aV → aH → Prop} {pc tgt : Nat} {off : Int} {ls : aLs} {st : List aV} {h : aH} {x y : Int}
theorem b_eq (hM : aOK M) (hf : aFetch (aMt M) pc = some (.if_icmp .eq off)) (ht : (pc : Int) + off = (tgt : Int)) (hx : aI x) (hy : aI y) (kt : x = y → AW M d kc ks n sc Q (tgt, ls, st, h)) (kf : x ≠ y → AW M d kc ks n sc Q (pc + 3, ls, st, h)) : AW M d kc ks n sc Q (pc, ls, .inl y :: .inl x :: st, h) := by
  intro p l e R s m args below meth c D cI base b0 adK adV C1 S1 Z hcx hC hS1 hfin la H locs cells slots hP hz hS hL hcs hss
  obtain ⟨hX, hb, -⟩ := id hcx
  exact lv_icmp_eq hX hb (aDec1 hM hf rfl rfl) ht (fun z => kt ((aI_eq hx hy).mp z) p l e R s m args below meth c D cI base b0 adK adV C1 S1 Z hcx hC hS1 hfin la H locs cells slots hP hz hS hL hcs hss) (fun z => kf (fun e => z ((aI_eq hx hy).mpr e)) p l e R s m args below meth c D cI base b0 adK adV C1 S1 Z hcx hC hS1 hfin la H locs cells slots hP hz hS hL hcs hss)
theorem b0_eq (hM : aOK M) (hf : aFetch (aMt M) pc = some (.ifCond .eq off)) (ht : (pc : Int) + off = (tgt : Int)) (hx : aI x) (kt : x = 0 → AW M d kc ks n sc Q (tgt, ls, st, h)) (kf : x ≠ 0 → AW M d kc ks n sc Q (pc + 3, ls, st, h)) : AW M d kc ks n sc Q (pc, ls, .inl x :: st, h) := by
  have hy := aI_0
  intro p l e R s m args below meth c D cI base b0 adK adV C1 S1 Z hcx hC hS1 hfin la H locs cells slots hP hz hS hL hcs hss
  obtain ⟨hX, hb, -⟩ := id hcx
  exact lv_if_eq hX hb (aDec1 hM hf rfl rfl) ht (fun z => kt ((aI_eq hx hy).mp z) p l e R s m args below meth c D cI base b0 adK adV C1 S1 Z hcx hC hS1 hfin la H locs cells slots hP hz hS hL hcs hss) (fun z => kf (fun e => z ((aI_eq hx hy).mpr e)) p l e R s m args below meth c D cI base b0 adK adV C1 S1 Z hcx hC hS1 hfin la H locs cells slots hP hz hS hL hcs hss)
theorem b_ne (hM : aOK M) (hf : aFetch (aMt M) pc = some (.if_icmp .ne off)) (ht : (pc : Int) + off = (tgt : Int)) (hx : aI x) (hy : aI y) (kt : x ≠ y → AW M d kc ks n sc Q (tgt, ls, st, h)) (kf : x = y → AW M d kc ks n sc Q (pc + 3, ls, st, h)) : AW M d kc ks n sc Q (pc, ls, .inl y :: .inl x :: st, h) := by
  intro p l e R s m args below meth c D cI base b0 adK adV C1 S1 Z hcx hC hS1 hfin la H locs cells slots hP hz hS hL hcs hss
  obtain ⟨hX, hb, -⟩ := id hcx
  exact lv_icmp_ne hX hb (aDec1 hM hf rfl rfl) ht (fun z => kt (fun e => z ((aI_eq hx hy).mpr e)) p l e R s m args below meth c D cI base b0 adK adV C1 S1 Z hcx hC hS1 hfin la H locs cells slots hP hz hS hL hcs hss) (fun z => kf ((aI_eq hx hy).mp z) p l e R s m args below meth c D cI base b0 adK adV C1 S1 Z hcx hC hS1 hfin la H locs cells slots hP hz hS hL hcs hss)
theorem b0_ne (hM : aOK M) (hf : aFetch (aMt M) pc = some (.ifCond .ne off)) (ht : (pc : Int) + off = (tgt : Int)) (hx : aI x) (kt : x ≠ 0 → AW M d kc ks n sc Q (tgt, ls, st, h)) (kf : x = 0 → AW M d kc ks n sc Q (pc + 3, ls, st, h)) : AW M d kc ks n sc Q (pc, ls, .inl x :: st, h) := by
  have hy := aI_0
  intro p l e R s m args below meth c D cI base b0 adK adV C1 S1 Z hcx hC hS1 hfin la H locs cells slots hP hz hS hL hcs hss
  obtain ⟨hX, hb, -⟩ := id hcx
  exact lv_if_ne hX hb (aDec1 hM hf rfl rfl) ht (fun z => kt (fun e => z ((aI_eq hx hy).mpr e)) p l e R s m args below meth c D cI base b0 adK adV C1 S1 Z hcx hC hS1 hfin la H locs cells slots hP hz hS hL hcs hss) (fun z => kf ((aI_eq hx hy).mp z) p l e R s m args below meth c D cI base b0 adK adV C1 S1 Z hcx hC hS1 hfin la H locs cells slots hP hz hS hL hcs hss)
theorem b_lt (hM : aOK M) (hf : aFetch (aMt M) pc = some (.if_icmp .lt off)) (ht : (pc : Int) + off = (tgt : Int)) (hx : aI x) (hy : aI y) (kt : x < y → AW M d kc ks n sc Q (tgt, ls, st, h)) (kf : y ≤ x → AW M d kc ks n sc Q (pc + 3, ls, st, h)) : AW M d kc ks n sc Q (pc, ls, .inl y :: .inl x :: st, h) := by
  intro p l e R s m args below meth c D cI base b0 adK adV C1 S1 Z hcx hC hS1 hfin la H locs cells slots hP hz hS hL hcs hss
  obtain ⟨hX, hb, -⟩ := id hcx
  exact lv_icmp_lt hX hb (aDec1 hM hf rfl rfl) ht (fun z => kt ((aI_lt hx hy).mp z) p l e R s m args below meth c D cI base b0 adK adV C1 S1 Z hcx hC hS1 hfin la H locs cells slots hP hz hS hL hcs hss) (fun z => kf (Int.not_lt.mp (fun e => z ((aI_lt hx hy).mpr e))) p l e R s m args below meth c D cI base b0 adK adV C1 S1 Z hcx hC hS1 hfin la H locs cells slots hP hz hS hL hcs hss)
theorem b0_lt (hM : aOK M) (hf : aFetch (aMt M) pc = some (.ifCond .lt off)) (ht : (pc : Int) + off = (tgt : Int)) (hx : aI x) (kt : x < 0 → AW M d kc ks n sc Q (tgt, ls, st, h)) (kf : 0 ≤ x → AW M d kc ks n sc Q (pc + 3, ls, st, h)) : AW M d kc ks n sc Q (pc, ls, .inl x :: st, h) := by
  have hy := aI_0
  intro p l e R s m args below meth c D cI base b0 adK adV C1 S1 Z hcx hC hS1 hfin la H locs cells slots hP hz hS hL hcs hss
  obtain ⟨hX, hb, -⟩ := id hcx
  exact lv_if_lt hX hb (aDec1 hM hf rfl rfl) ht (fun z => kt ((aI_lt hx hy).mp z) p l e R s m args below meth c D cI base b0 adK adV C1 S1 Z hcx hC hS1 hfin la H locs cells slots hP hz hS hL hcs hss) (fun z => kf (Int.not_lt.mp (fun e => z ((aI_lt hx hy).mpr e))) p l e R s m args below meth c D cI base b0 adK adV C1 S1 Z hcx hC hS1 hfin la H locs cells slots hP hz hS hL hcs hss)
theorem b_ge (hM : aOK M) (hf : aFetch (aMt M) pc = some (.if_icmp .ge off)) (ht : (pc : Int) + off = (tgt : Int)) (hx : aI x) (hy : aI y) (kt : y ≤ x → AW M d kc ks n sc Q (tgt, ls, st, h)) (kf : x < y → AW M d kc ks n sc Q (pc + 3, ls, st, h)) : AW M d kc ks n sc Q (pc, ls, .inl y :: .inl x :: st, h) := by
  intro p l e R s m args below meth c D cI base b0 adK adV C1 S1 Z hcx hC hS1 hfin la H locs cells slots hP hz hS hL hcs hss
  obtain ⟨hX, hb, -⟩ := id hcx
  exact lv_icmp_ge hX hb (aDec1 hM hf rfl rfl) ht (fun z => kt ((aI_le hy hx).mp z) p l e R s m args below meth c D cI base b0 adK adV C1 S1 Z hcx hC hS1 hfin la H locs cells slots hP hz hS hL hcs hss) (fun z => kf (Int.not_le.mp (fun e => z ((aI_le hy hx).mpr e))) p l e R s m args below meth c D cI base b0 adK adV C1 S1 Z hcx hC hS1 hfin la H locs cells slots hP hz hS hL hcs hss)
theorem b0_ge (hM : aOK M) (hf : aFetch (aMt M) pc = some (.ifCond .ge off)) (ht : (pc : Int) + off = (tgt : Int)) (hx : aI x) (kt : 0 ≤ x → AW M d kc ks n sc Q (tgt, ls, st, h)) (kf : x < 0 → AW M d kc ks n sc Q (pc + 3, ls, st, h)) : AW M d kc ks n sc Q (pc, ls, .inl x :: st, h) := by
  have hy := aI_0
  intro p l e R s m args below meth c D cI base b0 adK adV C1 S1 Z hcx hC hS1 hfin la H locs cells slots hP hz hS hL hcs hss
  obtain ⟨hX, hb, -⟩ := id hcx
  exact lv_if_ge hX hb (aDec1 hM hf rfl rfl) ht (fun z => kt ((aI_le hy hx).mp z) p l e R s m args below meth c D cI base b0 adK adV C1 S1 Z hcx hC hS1 hfin la H locs cells slots hP hz hS hL hcs hss) (fun z => kf (Int.not_le.mp (fun e => z ((aI_le hy hx).mpr e))) p l e R s m args below meth c D cI base b0 adK adV C1 S1 Z hcx hC hS1 hfin la H locs cells slots hP hz hS hL hcs hss)
theorem b_gt (hM : aOK M) (hf : aFetch (aMt M) pc = some (.if_icmp .gt off)) (ht : (pc : Int) + off = (tgt : Int)) (hx : aI x) (hy : aI y) (kt : y < x → AW M d kc ks n sc Q (tgt, ls, st, h)) (kf : x ≤ y → AW M d kc ks n sc Q (pc + 3, ls, st, h)) : AW M d kc ks n sc Q (pc, ls, .inl y :: .inl x :: st, h) := by
  intro p l e R s m args below meth c D cI base b0 adK adV C1 S1 Z hcx hC hS1 hfin la H locs cells slots hP hz hS hL hcs hss
  obtain ⟨hX, hb, -⟩ := id hcx
  exact lv_icmp_gt hX hb (aDec1 hM hf rfl rfl) ht (fun z => kt ((aI_lt hy hx).mp z) p l e R s m args below meth c D cI base b0 adK adV C1 S1 Z hcx hC hS1 hfin la H locs cells slots hP hz hS hL hcs hss) (fun z => kf (Int.not_lt.mp (fun e => z ((aI_lt hy hx).mpr e))) p l e R s m args below meth c D cI base b0 adK adV C1 S1 Z hcx hC hS1 hfin la H locs cells slots hP hz hS hL hcs hss)
theorem b0_gt (hM : aOK M) (hf : aFetch (aMt M) pc = some (.ifCond .gt off)) (ht : (pc : Int) + off = (tgt : Int)) (hx : aI x) (kt : 0 < x → AW M d kc ks n sc Q (tgt, ls, st, h)) (kf : x ≤ 0 → AW M d kc ks n sc Q (pc + 3, ls, st, h)) : AW M d kc ks n sc Q (pc, ls, .inl x :: st, h) := by
  have hy := aI_0
  intro p l e R s m args below meth c D cI base b0 adK adV C1 S1 Z hcx hC hS1 hfin la H locs cells slots hP hz hS hL hcs hss
  obtain ⟨hX, hb, -⟩ := id hcx
  exact lv_if_gt hX hb (aDec1 hM hf rfl rfl) ht (fun z => kt ((aI_lt hy hx).mp z) p l e R s m args below meth c D cI base b0 adK adV C1 S1 Z hcx hC hS1 hfin la H locs cells slots hP hz hS hL hcs hss) (fun z => kf (Int.not_lt.mp (fun e => z ((aI_lt hy hx).mpr e))) p l e R s m args below meth c D cI base b0 adK adV C1 S1 Z hcx hC hS1 hfin la H locs cells slots hP hz hS hL hcs hss)
theorem b_le (hM : aOK M) (hf : aFetch (aMt M) pc = some (.if_icmp .le off)) (ht : (pc : Int) + off = (tgt : Int)) (hx : aI x) (hy : aI y) (kt : x ≤ y → AW M d kc ks n sc Q (tgt, ls, st, h)) (kf : y < x → AW M d kc ks n sc Q (pc + 3, ls, st, h)) : AW M d kc ks n sc Q (pc, ls, .inl y :: .inl x :: st, h) := by
  intro p l e R s m args below meth c D cI base b0 adK adV C1 S1 Z hcx hC hS1 hfin la H locs cells slots hP hz hS hL hcs hss
  obtain ⟨hX, hb, -⟩ := id hcx
  exact lv_icmp_le hX hb (aDec1 hM hf rfl rfl) ht (fun z => kt ((aI_le hx hy).mp z) p l e R s m args below meth c D cI base b0 adK adV C1 S1 Z hcx hC hS1 hfin la H locs cells slots hP hz hS hL hcs hss) (fun z => kf (Int.not_le.mp (fun e => z ((aI_le hx hy).mpr e))) p l e R s m args below meth c D cI base b0 adK adV C1 S1 Z hcx hC hS1 hfin la H locs cells slots hP hz hS hL hcs hss)
theorem b0_le (hM : aOK M) (hf : aFetch (aMt M) pc = some (.ifCond .le off)) (ht : (pc : Int) + off = (tgt : Int)) (hx : aI x) (kt : x ≤ 0 → AW M d kc ks n sc Q (tgt, ls, st, h)) (kf : 0 < x → AW M d kc ks n sc Q (pc + 3, ls, st, h)) : AW M d kc ks n sc Q (pc, ls, .inl x :: st, h) := by
  have hy := aI_0
  intro p l e R s m args below meth c D cI base b0 adK adV C1 S1 Z hcx hC hS1 hfin la H locs cells slots hP hz hS hL hcs hss
  obtain ⟨hX, hb, -⟩ := id hcx
  exact lv_if_le hX hb (aDec1 hM hf rfl rfl) ht (fun z => kt ((aI_le hx hy).mp z) p l e R s m args below meth c D cI base b0 adK adV C1 S1 Z hcx hC hS1 hfin la H locs cells slots hP hz hS hL hcs hss) (fun z => kf (Int.not_le.mp (fun e => z ((aI_le hx hy).mpr e))) p l e R s m args below meth c D cI base b0 adK adV C1 S1 Z hcx hC hS1 hfin la H locs cells slots hP hz hS hL hcs hss)
/-- two answers that are the same, of whatever size -/
theorem b_same (hM : aOK M) (hf : aFetch (aMt M) pc = some (.if_icmp .eq off)) (ht : (pc : Int) + off = (tgt : Int)) (hxy : x = y) (kt : AW M d kc ks n sc Q (tgt, ls, st, h)) : AW M d kc ks n sc Q (pc, ls, .inl y :: .inl x :: st, h) := by
  intro p l e R s m args below meth c D cI base b0 adK adV C1 S1 Z hcx hC hS1 hfin la H locs cells slots hP hz hS hL hcs hss
  obtain ⟨hX, hb, -⟩ := id hcx
  exact lv_icmp_eq hX hb (aDec1 hM hf rfl rfl) ht (fun z => kt p l e R s m args below meth c D cI base b0 adK adV C1 S1 Z hcx hC hS1 hfin la H locs cells slots hP hz hS hL hcs hss) (fun z => absurd (by rw [hxy]) z)
/-! division of numbers that are not below 0 -/
theorem i32_div (hx : 0 ≤ x ∧ x ≤ 2147483647) (hy : 0 < y ∧ y ≤ 2147483647) : Int32.ofInt x / Int32.ofInt y = Int32.ofInt (x / y) := by
  have h1 : x / y ≤ x := Int.ediv_le_self y hx.1
  have h2 : 0 ≤ x / y := Int.ediv_nonneg hx.1 (by omega)
  rw [← Int32.toInt_inj, Int32.toInt_div, aI_toInt ⟨by omega, hx.2⟩, aI_toInt ⟨by omega, hy.2⟩, Int.tdiv_eq_ediv_of_nonneg hx.1, aI_toInt ⟨by omega, by omega⟩]
  exact Int.bmod_eq_of_le (by omega) (by omega)
theorem b_div (hM : aOK M) (hf : aFetch (aMt M) pc = some .idiv) (hx : 0 ≤ x ∧ x ≤ 2147483647) (hy : 0 < y ∧ y ≤ 2147483647) (kk : AW M d kc ks n sc Q (pc + 1, ls, .inl (x / y) :: st, h)) : AW M d kc ks n sc Q (pc, ls, .inl y :: .inl x :: st, h) := by
  intro p l e R s m args below meth c D cI base b0 adK adV C1 S1 Z hcx hC hS1 hfin la H locs cells slots hP hz hS hL hcs hss
  obtain ⟨hX, hb, -⟩ := id hcx
  refine lv_idiv hX hb (aDec1 hM hf rfl rfl) (fun z => ?_) ?_
  · have := (aI_eq (x := y) (y := 0) ⟨by omega, hy.2⟩ aI_0).mp z
    omega
  · rw [i32_div hx hy]
    exact kk p l e R s m args below meth c D cI base b0 adK adV C1 S1 Z hcx hC hS1 hfin la H locs cells slots hP hz hS hL hcs hss
theorem b_rem (hM : aOK M) (hf : aFetch (aMt M) pc = some .irem) (hx : 0 ≤ x ∧ x ≤ 2147483647) (hy : 0 < y ∧ y ≤ 2147483647) (kk : AW M d kc ks n sc Q (pc + 1, ls, .inl (x % y) :: st, h)) : AW M d kc ks n sc Q (pc, ls, .inl y :: .inl x :: st, h) := by
  intro p l e R s m args below meth c D cI base b0 adK adV C1 S1 Z hcx hC hS1 hfin la H locs cells slots hP hz hS hL hcs hss
  obtain ⟨hX, hb, -⟩ := id hcx
  refine lv_irem hX hb (aDec1 hM hf rfl rfl) (fun z => ?_) ?_
  · have := (aI_eq (x := y) (y := 0) ⟨by omega, hy.2⟩ aI_0).mp z
    omega
  · rw [i32_div hx hy, i32_mul, i32_sub, show x - x / y * y = x % y by rw [Int.emod_def, Int.mul_comm]]
    exact kk p l e R s m args below meth c D cI base b0 adK adV C1 S1 Z hcx hC hS1 hfin la H locs cells slots hP hz hS hL hcs hss
/-! switches -/
theorem b_swIn {dflt lo hi : Int} {offs : Array Int} (hM : aOK M) (hf : aFetch (aMt M) pc = some (.tableswitch dflt lo hi offs)) (hx : aI x) (h1 : lo ≤ x) (h2 : x ≤ hi) (ho : offs[(x - lo).toNat]? = some off) (ht : (pc : Int) + off = (tgt : Int)) (kk : AW M d kc ks n sc Q (tgt, ls, st, h)) : AW M d kc ks n sc Q (pc, ls, .inl x :: st, h) := by
  intro p l e R s m args below meth c D cI base b0 adK adV C1 S1 Z hcx hC hS1 hfin la H locs cells slots hP hz hS hL hcs hss
  obtain ⟨hX, hb, -⟩ := id hcx
  obtain ⟨len, hd, -⟩ := aDec_of hM hf
  exact lv_tableIn hX hb hd (by rw [aI_toInt hx]; omega) (by rw [aI_toInt hx]; omega) (by rw [aI_toInt hx]; exact ho) ht (kk p l e R s m args below meth c D cI base b0 adK adV C1 S1 Z hcx hC hS1 hfin la H locs cells slots hP hz hS hL hcs hss)
theorem b_swOut {dflt lo hi : Int} {offs : Array Int} (hM : aOK M) (hf : aFetch (aMt M) pc = some (.tableswitch dflt lo hi offs)) (hx : aI x) (h1 : x < lo ∨ hi < x) (ht : (pc : Int) + dflt = (tgt : Int)) (kk : AW M d kc ks n sc Q (tgt, ls, st, h)) : AW M d kc ks n sc Q (pc, ls, .inl x :: st, h) := by
  intro p l e R s m args below meth c D cI base b0 adK adV C1 S1 Z hcx hC hS1 hfin la H locs cells slots hP hz hS hL hcs hss
  obtain ⟨hX, hb, -⟩ := id hcx
  obtain ⟨len, hd, -⟩ := aDec_of hM hf
  exact lv_tableOut hX hb hd (by rw [aI_toInt hx]; exact h1) ht (kk p l e R s m args below meth c D cI base b0 adK adV C1 S1 Z hcx hC hS1 hfin la H locs cells slots hP hz hS hL hcs hss)
theorem b_look {dflt : Int} {ps : Array (Int × Int)} (hM : aOK M) (hf : aFetch (aMt M) pc = some (.lookupswitch dflt ps)) (hp : (ps.toList.zip (ps.toList.drop 1)).all (fun (a, next) => a.1 < next.1) = true) (hx : aI x) (ho : Op.lookupswitch.offset ps.toList dflt x = off) (ht : (pc : Int) + off = (tgt : Int)) (kk : AW M d kc ks n sc Q (tgt, ls, st, h)) : AW M d kc ks n sc Q (pc, ls, .inl x :: st, h) := by
  intro p l e R s m args below meth c D cI base b0 adK adV C1 S1 Z hcx hC hS1 hfin la H locs cells slots hP hz hS hL hcs hss
  obtain ⟨hX, hb, -⟩ := id hcx
  obtain ⟨len, hd, -⟩ := aDec_of hM hf
  exact lv_lookup hX hb hd hp (by rw [aI_toInt hx]; exact ho) ht (kk p l e R s m args below meth c D cI base b0 adK adV C1 S1 Z hcx hC hS1 hfin la H locs cells slots hP hz hS hL hcs hss)
/-! arrays of ints -/
theorem b_ald {k j : Nat} {a : List Int} (hM : aOK M) (hf : aFetch (aMt M) pc = some .iaload) (hk : aGet h k = some (.inl a)) (hx : x = (j : Int)) (hj : j < a.length) (hj2 : j < 2147483648) (kk : AW M d kc ks n sc Q (pc + 1, ls, .inl (a.getD j 0) :: st, h)) : AW M d kc ks n sc Q (pc, ls, .inl x :: .inr k :: st, h) := by
  intro p l e R s m args below meth c D cI base b0 adK adV C1 S1 Z hcx hC hS1 hfin la H locs cells slots hP hz hS hL hcs hss
  obtain ⟨hX, hb, hml, hr, hin, hown, hts, hlk, hiv, -⟩ := id hcx
  have ej : Int32.ofInt x = nI j := by rw [hx]; rfl
  refine va_iald (D := D) (cl := aCls) (tys := [(cI, .int)]) (n := a.length) (f := fun j => Int32.ofInt (a.getD j 0)) hX hb hiv.1 (aP_one hP hk) 0 0 rfl rfl (i := Int32.ofInt x) (by rw [ej]; exact aIx hj (by omega)) (aDec1 hM hf rfl rfl) ?_
  rw [ej, nI_clamp (by omega)]
  exact kk p l e R s m args below meth c D cI base b0 adK adV C1 S1 Z hcx hC hS1 hfin la H locs cells slots hP hz hS hL hcs hss
theorem b_ast {k j : Nat} {a : List Int} (hM : aOK M) (hf : aFetch (aMt M) pc = some .iastore) (hk : aGet h k = some (.inl a)) (hx : x = (j : Int)) (hj : j < a.length) (hj2 : j < 2147483648) (kk : AW M d kc ks n sc Q (pc + 1, ls, st, aSet h k (.inl (a.set j y)))) : AW M d kc ks n sc Q (pc, ls, .inl y :: .inl x :: .inr k :: st, h) := by
  intro p l e R s m args below meth c D cI base b0 adK adV C1 S1 Z hcx hC hS1 hfin la H locs cells slots hP hz hS hL hcs hss
  obtain ⟨hX, hb, hml, hr, hin, hown, hts, hlk, hiv, -⟩ := id hcx
  have ej : Int32.ofInt x = nI j := by rw [hx]; rfl
  have hfk := aGet_fits hP.1 hk
  have hat : H[aAd base b0 adK k]? = some (vp_cell cI (a.length, .inl (fun j => Int32.ofInt (a.getD j 0)))) := hP.2 k _ hk
  have hba' : base ≤ aAd base b0 adK k := by rw [aAd_fits hfk]; omega
  refine W.iast (x := Int32.ofInt y) (j := Int32.ofInt x) hX hb hat ((hiv.1.2 0 _ rfl).1 a.length (fun j => .int (Int32.ofInt (a.getD j 0)))) (fun q => by cases q) (by
    show ¬ (_ ∨ (arrV _ _ _).slots.size ≤ _)
    rw [arrV_size, ej]
    exact aIx hj hj2) rfl rfl (aDec1 hM hf rfl rfl) fun H1 z1 z2 z3 => ?_
  refine kk p l e R s m args below meth c D cI base b0 adK adV C1 S1 Z hcx hC hS1 hfin la H1 _ cells slots (aP_set hP hfk ?_ z3) (z2.trans hz) (hS.put z2 z3 hba') hL hcs hss
  show H1[_]? = some (vp_cell _ _)
  rw [z1, ej, nI_clamp (by omega), vp_cell_i, vp_cell_i, arrV_store]
  congr 2
  · rw [List.length_set]
  · funext q
    simp only [updV]
    by_cases hq : q = j
    · subst hq
      rw [if_pos rfl, List.getD_eq_getElem?_getD, List.getElem?_set_self hj]
      rfl
    · rw [if_neg hq, List.getD_eq_getElem?_getD, List.getD_eq_getElem?_getD, List.getElem?_set_ne (fun z => hq z.symm)]
/-! the law's script -/
theorem b_sld {j L : Nat} {xs : Nat → Int32} (hM : aOK M) (hf : aFetch (aMt M) pc = some .iaload) (hs : sc = some (L, xs)) (hx : x = (j : Int)) (hj : j < L) (hj2 : L < 2147483648) (kk : AW M d kc ks n sc Q (pc + 1, ls, .inl (xs j).toInt :: st, h)) : AW M d kc ks n sc Q (pc, ls, .inl x :: .inr 1024 :: st, h) := by
  intro p l e R s m args below meth c D cI base b0 adK adV C1 S1 Z hcx hC hS1 hfin la H locs cells slots hP hz hS hL hcs hss
  obtain ⟨hX, hb, hml, hr, hin, hown, hts, hlk, hiv, -, hba, hsc⟩ := id hcx
  obtain ⟨g1, g2, g3⟩ := hsc L xs hs
  have ej : Int32.ofInt x = nI j := by rw [hx]; rfl
  refine va_sld hX hb g1 g2 (Nat.not_le.mpr g3) hS (i := Int32.ofInt x) (by rw [ej]; exact aIx hj (by omega)) (aDec1 hM hf rfl rfl) ?_
  rw [ej, nI_clamp (by omega)]
  have k2 := kk p l e R s m args below meth c D cI base b0 adK adV C1 S1 Z hcx hC hS1 hfin la H locs cells slots hP hz hS hL hcs hss
  simp only [List.map_cons, aC, Int32.ofInt_toInt] at k2
  exact k2
theorem b_slen {L : Nat} {xs : Nat → Int32} (hM : aOK M) (hf : aFetch (aMt M) pc = some .arraylength) (hs : sc = some (L, xs)) (kk : AW M d kc ks n sc Q (pc + 1, ls, .inl (L : Int) :: st, h)) : AW M d kc ks n sc Q (pc, ls, .inr 1024 :: st, h) := by
  intro p l e R s m args below meth c D cI base b0 adK adV C1 S1 Z hcx hC hS1 hfin la H locs cells slots hP hz hS hL hcs hss
  obtain ⟨hX, hb, hml, hr, hin, hown, hts, hlk, hiv, -, hba, hsc⟩ := id hcx
  obtain ⟨g1, g2, g3⟩ := hsc L xs hs
  exact va_slen hX hb g1 g2 (Nat.not_le.mpr g3) hS (aDec1 hM hf rfl rfl) (kk p l e R s m args below meth c D cI base b0 adK adV C1 S1 Z hcx hC hS1 hfin la H locs cells slots hP hz hS hL hcs hss)
/-! answers; locals that are forgotten -/
theorem b_ret {v : Option aV} (hr : aRet M pc v) (hq : Q v h) (hst : st = v.toList) : AW M d 0 ks n sc Q (pc, ls, st, h) := by
  intro p l e R s m args below meth c D cI base b0 adK adV C1 S1 Z hcx hC hS1 hfin la H locs cells slots hP hz hS hL hcs hss
  subst hst
  simp only [Nat.add_zero] at hcs
  subst hcs
  have := hfin v h pc la H locs slots hq hP hz hS (by omega) hr
  cases v <;> exact this
theorem b_lose {ls' : aLs} (hl : ∀ (i : Nat) (v : aV), ls'[i]? = some (some v) → ls[i]? = some (some v)) (kk : AW M d kc ks n sc Q (pc, ls', st, h)) : AW M d kc ks n sc Q (pc, ls, st, h) := by
  intro p l e R s m args below meth c D cI base b0 adK adV C1 S1 Z hcx hC hS1 hfin la H locs cells slots hP hz hS hL hcs hss
  refine kk p l e R s m args below meth c D cI base b0 adK adV C1 S1 Z hcx hC hS1 hfin la H locs cells slots hP hz hS (lv_less hL fun q hq => ?_) hcs hss
  obtain ⟨i, w⟩ := q
  obtain ⟨v, h1, h2⟩ := aAss_in.mp hq
  exact aAss_in.mpr ⟨v, hl i v h1, h2⟩
theorem b_post {Q' : Option aV → aH → Prop} {f : aF} (hq : ∀ v h, Q' v h → Q v h) (kk : AW M d kc ks n sc Q' f) : AW M d kc ks n sc Q f := by
  intro p l e R s m args below meth c D cI base b0 adK adV C1 S1 Z hcx hC hS1 hfin
  exact kk p l e R s m args below meth c D cI base b0 adK adV C1 S1 Z hcx hC hS1 (fun v h pc la H locs slots g => hfin v h pc la H locs slots (hq v h g))
/-! new cells -/
def aDef : FieldType → Option aV
  | .int => some (.inl 0)
  | .boolean => some (.inl 0)
  | _ => none
theorem aDef_ok (ad : Nat → Nat) {ty : FieldType} (h : aTyc ty ≤ 2) : defaultValue ty = aN ad (aDef ty) := by
  cases ty <;> first | rfl | (simp [aTyc] at h)
theorem b_new {idx k ci N : Nat} {C : String} {T : u_T} (hM : aOK M) (hf : aFetch (aMt M) pc = some (.new idx)) (hcl : aCls[ci]? = some (C, T, N)) (hlk : Cond.classLink (aMy M).cls idx C ∈ aBW) (hfk : aFits k) (hk : n = aOrd k) {fs : List (Option aV)} (hlen : fs.length = N) (hfs : ∀ j, j < N → ∀ ty, parseFieldDescriptor (T j).2.2.1 = some ty → fs[j]? = some (aDef ty))
    (kk : AW M d kc ks (n + 1) sc Q (pc + 3, ls, .inr k :: st, aSet h k (.inr (ci, fs)))) : AW M d (kc + 1) (ks + N) n sc Q (pc, ls, st, h) := by
  intro p l e R s m args below meth c D cI base b0 adK adV C1 S1 Z hcx hC hS1 hfin la H locs cells slots hP hz hS hL hcs hss
  obtain ⟨hX, hb, hml, hr, hin, hown, hts, hlo, hiv, -⟩ := id hcx
  obtain ⟨c1, ⟨tyF, c2, c4⟩, c3, c5, c6⟩ := aCls_at hcl
  simp only at c1 c2 c3 c4 c5 c6
  have hKn := hiv.1.1 ci _ hcl
  have had : aAd base b0 adK k = H.size := by rw [aAd_fits hfk, hz, hk]
  have hba := hcx.2.2.2.2.2.2.2.2.2.2.1
  refine W.newcK hX hb hown (hts _ hlk) (hts _ c5) (hts _ c6) rfl (aDec1 hM hf rfl rfl) (by omega) (by omega) hKn.2.1 had.symm fun H1 kC hkC e1 z1 o1 => ?_
  have hP1 : aP D cI (aAd base b0 adK) (aSet h k (.inr (ci, fs))) H1 := by
    refine aP_new hP hfk had ⟨_, hcl, (u_born tyF hts c1 hKn hkC e1 c2).to fun j hj => ?_⟩ (fun q hq => o1 q (by rw [had]; exact hq))
    rw [aDef_ok (aAd base b0 adK) (c4 j hj)]
    simp only [vp_V, List.getD_eq_getElem?_getD, List.getElem?_map, hfs j hj _ (c2 j hj)]
    rfl
  exact kk p l e R s m args below meth c D cI base b0 adK adV C1 S1 Z hcx hC hS1 (fun v h pc la H locs slots g1 g2 g3 => hfin v h pc la H locs slots g1 g2 (by omega)) la H1 locs (cells + 1) (slots + N) hP1 (by rw [z1, had, hz]; omega) ⟨by have := hS.1; omega, fun x h1 h2 => (o1 x (by rw [had]; exact Nat.lt_of_lt_of_le h1 hS.1)).trans (hS.2.1 x h1 h2), hS.2.2⟩ hL (by omega) (by omega)
theorem b_newa {k N : Nat} (hM : aOK M) (hf : aFetch (aMt M) pc = some (.newarray .int)) (hN : N < 65536) (hx : x = (N : Int)) (hfk : aFits k) (hk : n = aOrd k) (hI : Cond.arrayClass .int ∈ aBW)
    (kk : AW M d kc ks (n + 1) sc Q (pc + 2, ls, .inr k :: st, aSet h k (.inl (List.replicate N 0)))) : AW M d (kc + 1) (ks + N) n sc Q (pc, ls, .inl x :: st, h) := by
  intro p l e R s m args below meth c D cI base b0 adK adV C1 S1 Z hcx hC hS1 hfin la H locs cells slots hP hz hS hL hcs hss
  obtain ⟨hX, hb, hml, hr, hin, hown, hts, hlo, hiv, -⟩ := id hcx
  have ej : Int32.ofInt x = nI N := by rw [hx]; rfl
  have had : aAd base b0 adK k = H.size := by rw [aAd_fits hfk, hz, hk]
  refine va_newaK (atype := .int) (n := Int32.ofInt x) (N := N) hX hb (hts _ hI) rfl (aDec1 hM hf rfl rfl) rfl (by rw [ej]; exact nI_pos (by omega)) (by rw [ej]; exact nI_clamp (by omega)) (by show N * 4 ≤ _; omega) (by omega) (by omega) had.symm fun H1 cA e1 z1 o1 hAr hNm => ?_
  have hcA : cA = cI := Option.some.inj (hNm.symm.trans (hiv.1.2 0 _ rfl).2)
  subst hcA
  have hP1 : aP D cA (aAd base b0 adK) (aSet h k (.inl (List.replicate N 0))) H1 := by
    refine aP_new hP hfk had ?_ (fun q hq => o1 q (by rw [had]; exact hq))
    show H1[_]? = some (vp_cell _ _)
    rw [e1, vp_cell_i, List.length_replicate]
    congr 2
    funext q
    simp only [List.getD_eq_getElem?_getD, List.getElem?_replicate]
    by_cases hq : q < N
    · rw [if_pos hq]; rfl
    · rw [if_neg hq]; rfl
  exact kk p l e R s m args below meth c D cA base b0 adK adV C1 S1 Z hcx hC hS1 (fun v h pc la H locs slots g1 g2 g3 => hfin v h pc la H locs slots g1 g2 (by omega)) la H1 locs (cells + 1) (slots + N) hP1 (by rw [z1, had, hz]; omega) ⟨by have := hS.1; omega, fun x h1 h2 => (o1 x (by rw [had]; exact Nat.lt_of_lt_of_le h1 hS.1)).trans (hS.2.1 x h1 h2), hS.2.2⟩ hL (by omega) (by omega)
/-- Object.<init> -/
theorem b_obj {idx k : Nat} (hM : aOK M) (hf : aFetch (aMt M) pc = some (.invokespecial idx)) (hlk : Cond.methodLink (aMy M).cls idx Lib.objectInit ∈ aBW) (hin : Cond.instanceMethod Lib.objectInit ∈ aBW) (hco : Cond.code Lib.objectInit ⟨#[0xb1]⟩ 1 none ∈ aBW) (hd : 1 ≤ d) (hst : st.length ≤ 8) (kk : AW M d kc ks n sc Q (pc + 3, ls, st, h)) : AW M d kc ks n sc Q (pc, ls, .inr k :: st, h) := by
  intro p l e R s m args below meth c D cI base b0 adK adV C1 S1 Z hcx hC hS1 hfin la H locs cells slots hP hz hS hL hcs hss
  obtain ⟨hX, hb, hml, hr, hin0, hown, hts, hlo, hiv, hrm, -⟩ := id hcx
  refine W.objInit hX hb hown (hts _ hlk) (hts _ hin) (hts _ hco) rfl (by rw [hml]; exact hL.1) rfl (aDec1 hM hf rfl rfl) (by omega) ?_ (kk p l e R s m args below meth c D cI base b0 adK adV C1 S1 Z hcx hC hS1 hfin la H locs cells slots hP hz hS hL hcs hss)
  have hsum := aCat_sum (aAd base b0 adK) st
  show 2 * 0 + _ + 12 ≤ _
  rw [hsum]; omega
end ARU
