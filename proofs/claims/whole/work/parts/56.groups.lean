/-! Groups that settle among themselves: the class's chain of sets, the reference's groups. -/
def sb (T x : Nat) : Bool := (List.range 6).all fun q => !T.testBit q || x.testBit q
def dj (T x : Nat) : Bool := (List.range 6).all fun q => !(T.testBit q && x.testBit q)
theorem sbx_at {T x : Nat} (h : sb T x = true) {q : Nat} (hq : q < 6) (ht : T.testBit q = true) : x.testBit q = true := by
  have := List.all_eq_true.mp h q (List.mem_range.mpr hq)
  rw [ht] at this; simpa using this
theorem sb_of {T x : Nat} (h : ∀ q, q < 6 → T.testBit q = true → x.testBit q = true) : sb T x = true :=
  List.all_eq_true.mpr fun q hq => by
    have h2 := h q (List.mem_range.mp hq)
    cases e : T.testBit q with
    | false => rfl
    | true => rw [h2 e]; rfl
theorem dj_of {T x : Nat} (h : ∀ q, q < 6 → T.testBit q = true → x.testBit q = false) : dj T x = true :=
  List.all_eq_true.mpr fun q hq => by
    have h2 := h q (List.mem_range.mp hq)
    cases e : T.testBit q with
    | false => rfl
    | true => rw [h2 e]; rfl
theorem sb_sub : ∀ x, x < 64 → ∀ T, T < 64 → sb T x = true → T ≤ x ∧ ∀ q, q < 6 → (x - T).testBit q = (x.testBit q && !T.testBit q) := by decide +kernel
theorem sb_any : ∀ x, x < 64 → ∀ y, y < 64 → sb y x = true → y ≠ x → ((List.range 6).any fun q => x.testBit q && !y.testBit q) = true := by decide +kernel
theorem dj_add : ∀ x, x < 64 → ∀ y, y < 64 → dj x y = true → x + y < 64 ∧ ∀ q, q < 6 → (x + y).testBit q = (x.testBit q || y.testBit q) := by decide +kernel
theorem bit_ext : ∀ x, x < 64 → ∀ y, y < 64 → ((List.range 6).all fun q => x.testBit q == y.testBit q) = true → x = y := by decide +kernel
theorem pow_bit : ∀ q, q < 6 → 2 ^ q < 64 ∧ 2 ^ q ≠ 0 ∧ ∀ r, r < 6 → (2 ^ q).testBit r = decide (r = q) := by decide +kernel
theorem sb_ne {x y : Nat} (hx : x < 64) (hy : y < 64) (h : sb y x = true) (hn : y ≠ x) : ∃ q, q < 6 ∧ x.testBit q = true ∧ y.testBit q = false := by
  obtain ⟨q, h1, h2⟩ := List.any_eq_true.mp (sb_any x hx y hy h hn)
  simp only [Bool.and_eq_true, Bool.not_eq_true'] at h2
  exact ⟨q, List.mem_range.mp h1, h2.1, h2.2⟩
theorem sb_refl (x : Nat) : sb x x = true := sb_of fun _ _ h => h
theorem sb_zero (x : Nat) : sb 0 x = true := sb_of fun q _ h => by rw [Nat.zero_testBit] at h; cases h
theorem sb_trans {a b c : Nat} (h1 : sb a b = true) (h2 : sb b c = true) : sb a c = true := sb_of fun _ hq h => sbx_at h2 hq (sbx_at h1 hq h)
theorem sb_minus {x T : Nat} (hx : x < 64) (hT : T < 64) (h : sb T x = true) : sb (x - T) x = true := sb_of fun q hq e => by
  rw [(sb_sub x hx T hT h).2 q hq] at e
  simp only [Bool.and_eq_true] at e; exact e.1
theorem sb_pow {x q : Nat} (hq : q < 6) (h : x.testBit q = true) : sb (2 ^ q) x = true := sb_of fun r hr e => by
  rw [(pow_bit q hq).2.2 r hr] at e
  have := of_decide_eq_true e
  subst this; exact h
/-- y misses q of x: it is within x without q -/
theorem sb_drop {x y q : Nat} (hx : x < 64) (hq : q < 6) (h : sb y x = true) (hxq : x.testBit q = true) (hyq : y.testBit q = false) : sb y (x - 2 ^ q) = true := sb_of fun r hr e => by
  rw [(sb_sub x hx _ (pow_bit q hq).1 (sb_pow hq hxq)).2 r hr, sbx_at h hr e, (pow_bit q hq).2.2 r hr]
  by_cases z : r = q
  · rw [z, hyq] at e; cases e
  · simp [z]
section GRP
variable {V : Nat → Int} {p : Nat}
theorem nt_sub (hp : p ≤ 6) {x T : Nat} (hx : x < 64) (hT : T < 64) (h : sb T x = true) : ntS V (x - T) p = ntS V x p - ntS V T p := by
  unfold ntS
  rw [← sumN_sub]
  refine sumN_congr fun q hq => ?_
  rw [(sb_sub x hx T hT h).2 q (by omega)]
  cases e : T.testBit q with
  | false => cases x.testBit q <;> simp
  | true => rw [sbx_at h (by omega) e]; simp
theorem nt_add (hp : p ≤ 6) {x y : Nat} (hx : x < 64) (hy : y < 64) (h : dj x y = true) : ntS V (x + y) p = ntS V x p + ntS V y p := by
  unfold ntS
  rw [← sumN_add]
  refine sumN_congr fun q hq => ?_
  rw [(dj_add x hx y hy h).2 q (by omega)]
  have := List.all_eq_true.mp h q (List.mem_range.mpr (by omega))
  cases e : x.testBit q <;> cases e2 : y.testBit q <;> simp [e, e2] at this ⊢
theorem nt_zero : ntS V 0 p = 0 := by
  unfold ntS
  have : sumN p (fun q => if (0 : Nat).testBit q = true then V q else 0) = sumN p (fun _ => 0) := sumN_congr fun q _ => by rw [Nat.zero_testBit]; rfl
  rw [this]
  have h2 := sumN_ge (n := p) (F := fun _ => (0 : Int)) (b := 0) (fun _ _ => Int.le_refl 0)
  have h3 := sumN_le (n := p) (F := fun _ => (0 : Int)) (b := 0) (fun _ _ => Int.le_refl 0)
  omega
/-- k groups apart of each other within x, each of sum 0 -/
def grp (V : Nat → Int) (p : Nat) : Nat → Nat → Prop
  | 0, _ => True
  | k + 1, x => ∃ T, T < 64 ∧ sb T x = true ∧ T ≠ 0 ∧ ntS V T p = 0 ∧ grp V p k (x - T)
theorem grp_mono : ∀ k x y, x < 64 → y < 64 → sb y x = true → grp V p k y → grp V p k x := by
  intro k
  induction k with
  | zero => intro x y _ _ _ _; trivial
  | succ k ih =>
    rintro x y hx hy h ⟨T, t1, t2, t3, t4, t5⟩
    have t6 := sb_trans t2 h
    refine ⟨T, t1, t6, t3, t4, ih (x - T) (y - T) (by omega) (by omega) (sb_of fun q hq e => ?_) t5⟩
    rw [(sb_sub y hy T t1 t2).2 q hq] at e
    simp only [Bool.and_eq_true] at e
    rw [(sb_sub x hx T t1 t6).2 q hq, sbx_at h hq e.1, e.2]; rfl
theorem grp_le : ∀ k x, x < 64 → grp V p k x → k ≤ x := by
  intro k
  induction k with
  | zero => intro x _ _; omega
  | succ k ih =>
    rintro x hx ⟨T, t1, t2, t3, t4, t5⟩
    have h1 := ih (x - T) (by omega) t5
    have h2 := (sb_sub x hx T t1 t2).1
    omega
/-- a smaller set's groups, and the rest: one more, if all is of sum 0 -/
theorem grp_up (hp : p ≤ 6) : ∀ k x y, x < 64 → y < 64 → sb y x = true → y ≠ x → ntS V x p = 0 → grp V p k y → grp V p (k + 1) x := by
  intro k
  induction k with
  | zero =>
    intro x y hx hy h hn h0 _
    refine ⟨x, hx, sb_refl x, fun z => hn ?_, h0, trivial⟩
    have := (sb_sub x hx y hy h).1; omega
  | succ k ih =>
    rintro x y hx hy h hn h0 ⟨T, t1, t2, t3, t4, t5⟩
    have t6 := sb_trans t2 h
    have l1 := (sb_sub x hx T t1 t6).1
    have l2 := (sb_sub y hy T t1 t2).1
    refine ⟨T, t1, t6, t3, t4, ih (x - T) (y - T) (by omega) (by omega) (sb_of fun q hq e => ?_) (by omega) (by rw [nt_sub hp hx t1 t6, h0, t4]; rfl) t5⟩
    rw [(sb_sub y hy T t1 t2).2 q hq] at e
    simp only [Bool.and_eq_true] at e
    rw [(sb_sub x hx T t1 t6).2 q hq, sbx_at h hq e.1, e.2]; rfl
/-- the class's number of a set -/
def dpD (V : Nat → Int) (p x : Nat) : Int := dpF p V x x
theorem dpF_D : ∀ x y, y ≤ x → dpF p V x y = dpD V p y := by
  intro x
  induction x with
  | zero => intro y hy; obtain rfl : y = 0 := by omega
            rfl
  | succ x ih =>
    intro y hy
    by_cases e : y = x + 1
    · subst e; rfl
    · rw [dpF_lt e]; exact ih y (by omega)
theorem mst_ge {F : Nat → Int} {x : Nat} : ∀ m q, q < m → x.testBit q = true → F (x - 2 ^ q) ≤ mstN F x m := by
  intro m
  induction m with
  | zero => intro q h; omega
  | succ m ih =>
    intro q hq h
    simp only [mstN]
    by_cases e : q = m
    · subst e; rw [if_pos h]; omega
    · have := ih q (by omega) h
      split <;> omega
theorem mst_has {F : Nat → Int} {x : Nat} : ∀ m, mstN F x m = 0 ∨ ∃ q, q < m ∧ x.testBit q = true ∧ mstN F x m = F (x - 2 ^ q) := by
  intro m
  induction m with
  | zero => exact Or.inl rfl
  | succ m ih =>
    simp only [mstN]
    by_cases h : x.testBit m = true
    · rw [if_pos h]
      by_cases e : mstN F x m ≤ F (x - 2 ^ m)
      · exact Or.inr ⟨m, by omega, h, by omega⟩
      · rcases ih with g | ⟨q, g1, g2, g3⟩
        · exact Or.inl (by omega)
        · exact Or.inr ⟨q, by omega, g2, by omega⟩
    · rw [if_neg h]
      rcases ih with g | ⟨q, g1, g2, g3⟩
      · exact Or.inl g
      · exact Or.inr ⟨q, by omega, g2, g3⟩
theorem mst_congr {F G : Nat → Int} {x : Nat} : ∀ m, (∀ q, q < m → x.testBit q = true → F (x - 2 ^ q) = G (x - 2 ^ q)) → mstN F x m = mstN G x m := by
  intro m
  induction m with
  | zero => intro _; rfl
  | succ m ih =>
    intro h
    simp only [mstN]
    rw [ih (fun q hq => h q (by omega))]
    by_cases e : x.testBit m = true
    · rw [if_pos e, if_pos e, h m (by omega) e]
    · rw [if_neg e, if_neg e]
theorem bit_le {x q : Nat} (h : x.testBit q = true) : 2 ^ q ≤ x := Nat.ge_two_pow_of_testBit h
theorem dpD_eq {x : Nat} (hx : 0 < x) : dpD V p x = mstN (dpD V p) x p + if ntS V x p = 0 then 1 else 0 := by
  obtain ⟨x, rfl⟩ : ∃ y, x = y + 1 := ⟨x - 1, by omega⟩
  have e : mstN (dpF p V x) (x + 1) p = mstN (dpD V p) (x + 1) p := mst_congr p fun q _ h => dpF_D x _ (by have := bit_le h; have := Nat.two_pow_pos q; omega)
  unfold dpD at *
  rw [dpF_at, e]
  split <;> omega
theorem dpD_0 : dpD V p 0 = 0 := rfl
theorem dpD_ge {x : Nat} : 0 ≤ dpD V p x := (dpF_le p V x x).1
theorem dpD_mono (hp : p ≤ 6) : ∀ n x y, x ≤ n → x < 2 ^ p → y < 64 → sb y x = true → dpD V p y ≤ dpD V p x := by
  have h64 : 2 ^ p ≤ 64 := Nat.pow_le_pow_right (n := 2) (by decide) hp
  intro n
  induction n with
  | zero =>
    intro x y hn hx hy h
    obtain rfl : x = 0 := by omega
    have := (sb_sub 0 (by decide) y hy h).1
    obtain rfl : y = 0 := by omega
    exact Int.le_refl _
  | succ n ih =>
    intro x y hn hx hy h
    by_cases e : y = x
    · rw [e]; exact Int.le_refl _
    · obtain ⟨q, q1, q2, q3⟩ := sb_ne (by omega) hy h e
      have hqp : q < p := by
        rcases Nat.lt_or_ge q p with z | z
        · exact z
        · have := bit_le q2
          have := Nat.pow_le_pow_right (n := 2) (by decide) z
          omega
      have hb := bit_le q2
      have hb2 := Nat.two_pow_pos q
      have h1 := ih (x - 2 ^ q) y (by omega) (by omega) hy (sb_drop (by omega) q1 h q2 q3)
      have h2 := mst_ge (F := dpD V p) p q hqp q2
      have h3 := dpD_eq (V := V) (p := p) (x := x) (by omega)
      rw [h3]; split <;> omega
theorem dpD_has (hp : p ≤ 6) : ∀ n x, x ≤ n → x < 2 ^ p → ∃ k : Nat, (k : Int) = dpD V p x ∧ grp V p k x := by
  have h64 : 2 ^ p ≤ 64 := Nat.pow_le_pow_right (n := 2) (by decide) hp
  intro n
  induction n with
  | zero => intro x hn _; obtain rfl : x = 0 := by omega
            exact ⟨0, rfl, trivial⟩
  | succ n ih =>
    intro x hn hx
    rcases Nat.eq_zero_or_pos x with z | z
    · subst z; exact ⟨0, rfl, trivial⟩
    · rw [dpD_eq z]
      have hk : ∃ k y : Nat, (k : Int) = mstN (dpD V p) x p ∧ y < 64 ∧ sb y x = true ∧ y ≠ x ∧ grp V p k y := by
        rcases mst_has (F := dpD V p) (x := x) p with g | ⟨q, g1, g2, g3⟩
        · exact ⟨0, 0, by rw [g]; rfl, by decide, sb_zero x, by omega, trivial⟩
        · have hb := bit_le g2
          have hb2 := Nat.two_pow_pos q
          obtain ⟨k, k1, k2⟩ := ih (x - 2 ^ q) (by omega) (by omega)
          exact ⟨k, x - 2 ^ q, by rw [g3]; exact k1, by omega, sb_minus (by omega) (pow_bit q (by omega)).1 (sb_pow (by omega) g2), by omega, k2⟩
      obtain ⟨k, y, k1, k2, k3, k4, k5⟩ := hk
      by_cases h0 : ntS V x p = 0
      · rw [if_pos h0]
        exact ⟨k + 1, by omega, grp_up hp k x y (by omega) k2 k3 k4 h0 k5⟩
      · rw [if_neg h0]
        exact ⟨k, by omega, grp_mono k x y (by omega) k2 k3 k5⟩
theorem dpD_most (hp : p ≤ 6) : ∀ k x, x < 2 ^ p → grp V p k x → ∃ U, U < 64 ∧ sb U x = true ∧ ntS V U p = 0 ∧ (k : Int) ≤ dpD V p U := by
  have h64 : 2 ^ p ≤ 64 := Nat.pow_le_pow_right (n := 2) (by decide) hp
  intro k
  induction k with
  | zero => intro x _ _; exact ⟨0, by decide, sb_zero x, nt_zero, Int.le_refl 0⟩
  | succ k ih =>
    rintro x hx ⟨T, t1, t2, t3, t4, t5⟩
    have l1 := (sb_sub x (by omega) T t1 t2).1
    obtain ⟨U, u1, u2, u3, u4⟩ := ih (x - T) (by omega) t5
    have hd : dj U T = true := dj_of fun q hq e => by
      have := sbx_at u2 hq e
      rw [(sb_sub x (by omega) T t1 t2).2 q hq] at this
      simp only [Bool.and_eq_true, Bool.not_eq_true'] at this
      exact this.2
    obtain ⟨a1, a2⟩ := dj_add U u1 T t1 hd
    have hs : sb (U + T) x = true := sb_of fun q hq e => by
      rw [a2 q hq] at e
      rcases Bool.or_eq_true _ _ |>.mp e with z | z
      · exact sbx_at (sb_minus (by omega) t1 t2) hq (sbx_at u2 hq z)
      · exact sbx_at t2 hq z
    have hle := (sb_sub x (by omega) (U + T) a1 hs).1
    refine ⟨U + T, a1, hs, by rw [nt_add hp u1 t1 hd, u3, t4]; rfl, ?_⟩
    obtain ⟨q, q1, q2, q3⟩ := sb_ne t1 (by decide) (sb_zero T) (Ne.symm t3)
    have q4 : (U + T).testBit q = true := by rw [a2 q q1, q2, Bool.or_true]
    have q5 : U.testBit q = false := by
      cases e : U.testBit q with
      | false => rfl
      | true =>
        have := List.all_eq_true.mp hd q (List.mem_range.mpr q1)
        rw [e, q2] at this; cases this
    have hb := bit_le q4
    have hqp : q < p := by
      rcases Nat.lt_or_ge q p with z | z
      · exact z
      · have := Nat.pow_le_pow_right (n := 2) (by decide) z
        omega
    have hsU : sb U (U + T) = true := sb_of fun r hr e => by rw [a2 r hr, e]; rfl
    have l9 := Nat.sub_le (U + T) (2 ^ q)
    have l8 := Nat.two_pow_pos q
    have h1 := dpD_mono (V := V) hp 64 (U + T - 2 ^ q) U (by omega) (by omega) u1 (sb_drop a1 q1 hsU q4 q5)
    have h2 := mst_ge (F := dpD V p) p q hqp q4
    have h3 := dpD_eq (V := V) (p := p) (x := U + T) (by omega)
    rw [h3, if_pos (by rw [nt_add hp u1 t1 hd, u3, t4]; rfl)]
    omega
theorem dpD_le (hp : p ≤ 6) {k x : Nat} (hx : x < 2 ^ p) (h : grp V p k x) : (k : Int) ≤ dpD V p x := by
  obtain ⟨U, u1, u2, u3, u4⟩ := dpD_most hp k x hx h
  have := dpD_mono (V := V) hp 64 x U (by have := Nat.pow_le_pow_right (n := 2) (by decide) hp; omega) hx u1 u2
  omega
/-- one whose net is 0 takes one group at most with him -/
theorem grp_less (hp : p ≤ 6) : ∀ k x q, x < 64 → q < 6 → x.testBit q = true → grp V p k x → grp V p (k - 1) (x - 2 ^ q) := by
  intro k
  induction k with
  | zero => intro x q _ _ _ _; trivial
  | succ k ih =>
    rintro x q hx hq h ⟨T, t1, t2, t3, t4, t5⟩
    show grp V p k (x - 2 ^ q)
    have hsq := sb_pow hq h
    have l9 := Nat.sub_le x (2 ^ q)
    have l8 := Nat.sub_le x T
    by_cases e : T.testBit q = true
    · refine grp_mono k (x - 2 ^ q) (x - T) (by omega) (by omega) (sb_of fun r hr z => ?_) t5
      rw [(sb_sub x hx T t1 t2).2 r hr] at z
      simp only [Bool.and_eq_true, Bool.not_eq_true'] at z
      rw [(sb_sub x hx _ (pow_bit q hq).1 hsq).2 r hr, z.1, (pow_bit q hq).2.2 r hr]
      by_cases y : r = q
      · rw [y, e] at z; cases z.2
      · simp [y]
    · have e2 : T.testBit q = false := by simpa using e
      cases k with
      | zero => trivial
      | succ k =>
        have h2 : (x - T).testBit q = true := by rw [(sb_sub x hx T t1 t2).2 q hq, h, e2]; rfl
        have h3 := ih (x - T) q (by omega) hq h2 t5
        have h4 := sb_drop hx hq t2 h e2
        refine ⟨T, t1, h4, t3, t4, ?_⟩
        have l1 := bit_le h
        have l2 := bit_le h2
        rw [show x - 2 ^ q - T = x - T - 2 ^ q by omega]
        exact h3
theorem grp_one {k x q : Nat} (hx : x < 64) (hq : q < 6) (hqp : q < p) (h : x.testBit q = false) (hV : V q = 0) (hg : grp V p k x) : grp V p (k + 1) (x + 2 ^ q) := by
  have hd : dj x (2 ^ q) = true := dj_of fun r hr e => by
    rw [(pow_bit q hq).2.2 r hr]
    by_cases y : r = q
    · rw [y, h] at e; cases e
    · simp [y]
  obtain ⟨a1, a2⟩ := dj_add x hx _ (pow_bit q hq).1 hd
  refine ⟨2 ^ q, (pow_bit q hq).1, sb_of fun r hr e => by rw [a2 r hr, e, Bool.or_true], (pow_bit q hq).2.1, ?_, by rw [Nat.add_sub_cancel]; exact hg⟩
  unfold ntS
  have : ∀ m, m ≤ 6 → sumN m (fun r => if (2 ^ q).testBit r = true then V r else 0) = 0 := by
    intro m
    induction m with
    | zero => intro _; rfl
    | succ m ih =>
      intro hm
      simp only [sumN]
      rw [ih (by omega), (pow_bit q hq).2.2 m (by omega)]
      by_cases y : m = q
      · subst y; simp [hV]
      · simp [y]
  rcases Nat.lt_or_ge 6 p with z | z
  · have h6 : ∀ m, 6 ≤ m → sumN m (fun r => if (2 ^ q).testBit r = true then V r else 0) = 0 := by
      intro m hm
      induction m with
      | zero => omega
      | succ m ih =>
        by_cases y : m + 1 = 6
        · rw [y]; exact this 6 (by omega)
        · simp only [sumN]
          rw [ih (by omega), Nat.testBit_lt_two_pow (Nat.pow_lt_pow_right (by decide) (by omega : q < m))]; rfl
    exact h6 p (by omega)
  · exact this p z
/-- the class's number is the reference's: those whose net is 0 are groups themselves -/
theorem grp_all (hp : p ≤ 6) {O g : Nat} (hO : O < 64) (hb : ∀ q, q < 6 → (O.testBit q = true ↔ q < p ∧ V q ≠ 0)) (h1 : grp V p g O) (h2 : ∀ k, grp V p k O → k ≤ g) :
    dpD V p (2 ^ p - 1) = (g : Int) + ((p : Int) - cntN p (fun q => decide (V q ≠ 0))) := by
  have h64 : 2 ^ p ≤ 64 := Nat.pow_le_pow_right (n := 2) (by decide) hp
  have hpos := Nat.two_pow_pos p
  have hall : ∀ q, (2 ^ p - 1).testBit q = decide (q < p) := fun q => Nat.testBit_two_pow_sub_one p q
  -- up from those who owe, down to them
  have up : ∀ v, v ≤ p → ∃ X k : Nat, X < 64 ∧ (∀ q, q < 6 → (X.testBit q = true ↔ O.testBit q = true ∨ q < v)) ∧ (k : Int) = (g : Int) + ((v : Int) - cntN v (fun q => decide (V q ≠ 0))) ∧ grp V p k X ∧ (∀ k2, grp V p k2 X → k2 ≤ k) := by
    intro v
    induction v with
    | zero => intro _; exact ⟨O, g, hO, fun q _ => ⟨Or.inl, fun z => z.resolve_right (by omega)⟩, by show (g : Int) = (g : Int) + (((0 : Nat) : Int) - 0); omega, h1, h2⟩
    | succ v ih =>
      intro hv
      obtain ⟨X, k, x1, x2, x3, x4, x5⟩ := ih (by omega)
      by_cases z : V v = 0
      · have c1 : cntN (v + 1) (fun q => decide (V q ≠ 0)) = cntN v (fun q => decide (V q ≠ 0)) + 0 := cntN_f (by rw [z]; rfl)
        have nv : X.testBit v = false := by
          cases e : X.testBit v with
          | false => rfl
          | true =>
            rcases (x2 v (by omega)).mp e with y | y
            · exact absurd z ((hb v (by omega)).mp y).2
            · omega
        have hd : dj X (2 ^ v) = true := dj_of fun r hr e => by
          rw [(pow_bit v (by omega)).2.2 r hr]
          by_cases y : r = v
          · rw [y, nv] at e; cases e
          · simp [y]
        obtain ⟨a1, a2⟩ := dj_add X x1 _ (pow_bit v (by omega)).1 hd
        refine ⟨X + 2 ^ v, k + 1, a1, fun q hq => ?_, by rw [c1]; omega, grp_one x1 (by omega) (by omega) nv z x4, fun k2 hk2 => ?_⟩
        · rw [a2 q hq, Bool.or_eq_true, x2 q hq, (pow_bit v (by omega)).2.2 q hq, decide_eq_true_eq]
          constructor
          · rintro ((y | y) | y)
            · exact Or.inl y
            · exact Or.inr (by omega)
            · exact Or.inr (by omega)
          · rintro (y | y)
            · exact Or.inl (Or.inl y)
            · by_cases w : q = v
              · exact Or.inr w
              · exact Or.inl (Or.inr (by omega))
        · have h3 := grp_less hp k2 (X + 2 ^ v) v a1 (by omega) (by rw [a2 v (by omega), (pow_bit v (by omega)).2.2 v (by omega)]; simp) hk2
          rw [Nat.add_sub_cancel] at h3
          have := x5 _ h3; omega
      · have c1 : cntN (v + 1) (fun q => decide (V q ≠ 0)) = cntN v (fun q => decide (V q ≠ 0)) + 1 := cntN_t (decide_eq_true z)
        have ov := (hb v (by omega)).mpr ⟨by omega, z⟩
        refine ⟨X, k, x1, fun q hq => ?_, by rw [c1]; omega, x4, x5⟩
        rw [x2 q hq]
        constructor
        · rintro (y | y)
          · exact Or.inl y
          · exact Or.inr (by omega)
        · rintro (y | y)
          · exact Or.inl y
          · by_cases w : q = v
            · rw [w]; exact Or.inl ov
            · exact Or.inr (by omega)
  obtain ⟨X, k, x1, x2, x3, x4, x5⟩ := up p (Nat.le_refl p)
  have hX : X = 2 ^ p - 1 := bit_ext X x1 _ (by omega) (List.all_eq_true.mpr fun q hq => by
    have hq := List.mem_range.mp hq
    rw [hall q, beq_iff_eq]
    cases e : X.testBit q with
    | true =>
      rcases (x2 q hq).mp e with y | y
      · exact (decide_eq_true ((hb q hq).mp y).1).symm
      · exact (decide_eq_true y).symm
    | false =>
      refine (decide_eq_false fun y => ?_).symm
      have := (x2 q hq).mpr (Or.inr y)
      rw [e] at this; cases this)
  rw [hX] at x4 x5
  obtain ⟨k2, d1, d2⟩ := dpD_has (V := V) hp 64 (2 ^ p - 1) (by omega) (by omega)
  have e1 := x5 k2 d2
  have e2 := dpD_le (V := V) hp (x := 2 ^ p - 1) (by omega) x4
  omega
end GRP
theorem sumN_swap (F : Nat → Nat → Int) : ∀ m n, sumN m (fun i => sumN n (F i)) = sumN n (fun j => sumN m (fun i => F i j)) := by
  intro m n
  induction m with
  | zero =>
    show (0 : Int) = sumN n (fun _ => 0)
    have h2 := sumN_ge (n := n) (F := fun _ => (0 : Int)) (b := 0) (fun _ _ => Int.le_refl 0)
    have h3 := sumN_le (n := n) (F := fun _ => (0 : Int)) (b := 0) (fun _ _ => Int.le_refl 0)
    omega
  | succ m ih =>
    simp only [sumN]
    rw [ih, ← sumN_add]
theorem net_sum (p : Nat) (l : List Int) : sumN p (net p l) = 0 := by
  have e : sumN p (net p l) = sumN p (fun i => sumN p (fun j => l.getD (7 * i + j) 0)) - sumN p (fun i => sumN p (fun j => l.getD (7 * j + i) 0)) := by
    rw [← sumN_sub]; exact sumN_congr fun i _ => sumN_sub p _ _
  rw [e, sumN_swap (fun i j => l.getD (7 * i + j) 0) p p]; omega
/-- submasks, one behind the other -/
theorem sm_next : ∀ s, s < 64 → ∀ o, o < 64 → sb o s = true → 0 < o → aAnd ((o : Int) - 1) (s : Int) = (((o - 1) &&& s : Nat) : Int) ∧ sb ((o - 1) &&& s) s = true ∧ (o - 1) &&& s < o := by decide +kernel
theorem sm_skip0 : ∀ s, s < 64 → ∀ o, o < 64 → sb o s = true → 0 < o → ((List.range 64).all fun z => !sb z s || (Nat.ble o z || Nat.ble z ((o - 1) &&& s))) = true := by decide +kernel
theorem sm_skip {s o z : Nat} (hs : s < 64) (ho : o < 64) (h1 : sb o s = true) (h2 : 0 < o) (hz : z < 64) (h3 : sb z s = true) (h4 : z < o) : z ≤ (o - 1) &&& s := by
  have h := List.all_eq_true.mp (sm_skip0 s hs o ho h1 h2) z (List.mem_range.mpr hz)
  rw [h3] at h
  simp only [Bool.not_true, Bool.false_or, Bool.or_eq_true] at h
  rcases h with h | h
  · have := Nat.le_of_ble_eq_true h; omega
  · exact Nat.le_of_ble_eq_true h
theorem sm_not : ∀ s, s < 64 → ∀ o, o < 64 → sb o s = true → aAnd (s : Int) (aXor (o : Int) (-1)) = ((s - o : Nat) : Int) := by decide +kernel
theorem sm_in : ∀ s : Nat, s < 64 → ∀ o : Nat, o < 64 → (decide (aAnd (s : Int) (aXor (o : Int) (-1)) = 0)) = sb s o ∧ 0 ≤ aAnd (s : Int) (aXor (o : Int) (-1)) ∧ aAnd (s : Int) (aXor (o : Int) (-1)) ≤ 63 := by decide +kernel
/-- bits of six, as a number -/
theorem bits6 (P : Nat → Bool) : ∀ m, m ≤ 6 → ∃ x : Nat, x < 64 ∧ bitsN m P = (x : Int) ∧ ∀ q, q < 6 → (x.testBit q = true ↔ q < m ∧ P q = true) := by
  have h : ∀ m : Nat, m ≤ 6 → ∃ x : Nat, x < 2 ^ m ∧ bitsN m P = (x : Int) ∧ ∀ q, q < 6 → (x.testBit q = true ↔ q < m ∧ P q = true) := by
    intro m
    induction m with
    | zero => intro _; exact ⟨0, by decide, rfl, fun q _ => by rw [Nat.zero_testBit]; simp⟩
    | succ m ih =>
      intro hm
      obtain ⟨x, h1, h2, h3⟩ := ih (by omega)
      have e : ∀ m : Nat, m < 6 → ∀ x : Nat, x < 2 ^ m → aOr (x : Int) (aShl 1 (m : Int)) = ((2 ^ m + x : Nat) : Int) := by decide +kernel
      cases z : P m with
      | true =>
        refine ⟨2 ^ m + x, by rw [Nat.pow_succ]; omega, by rw [bitsN_t z, h2, e m (by omega) x h1], fun q hq => ?_⟩
        by_cases w : q = m
        · subst w
          rw [Nat.testBit_two_pow_add_eq, Nat.testBit_lt_two_pow h1]
          simp [z]
        · rcases Nat.lt_or_ge q m with y | y
          · rw [Nat.testBit_two_pow_add_gt y, h3 q hq]
            constructor
            · rintro ⟨a, b⟩; exact ⟨by omega, b⟩
            · rintro ⟨a, b⟩; exact ⟨by omega, b⟩
          · constructor
            · intro a
              have := bit_le a
              have := Nat.pow_le_pow_right (n := 2) (by decide) (show m + 1 ≤ q by omega)
              rw [Nat.pow_succ] at this
              omega
            · rintro ⟨a, b⟩; omega
      | false =>
        refine ⟨x, by rw [Nat.pow_succ]; omega, by rw [bitsN_f z, h2], fun q hq => ?_⟩
        rw [h3 q hq]
        constructor
        · rintro ⟨a, b⟩; exact ⟨by omega, b⟩
        · rintro ⟨a, b⟩
          refine ⟨?_, b⟩
          by_cases w : q = m
          · rw [w, z] at b; cases b
          · omega
  intro m hm
  obtain ⟨x, h1, h2, h3⟩ := h m hm
  exact ⟨x, by have := Nat.pow_le_pow_right (n := 2) (by decide) hm; omega, h2, h3⟩
/-- rows of seven, cell by cell -/
theorem sum7 (F : Nat → Int) : sumN 7 F = F 0 + F 1 + F 2 + F 3 + F 4 + F 5 + F 6 := by
  show 0 + F 0 + F 1 + F 2 + F 3 + F 4 + F 5 + F 6 = _
  omega
theorem sum_rows (F : Nat → Int) : ∀ m, sumN (7 * m) F = sumN m (fun i => sumN 7 (fun j => F (7 * i + j))) := by
  intro m
  induction m with
  | zero => rfl
  | succ m ih =>
    show sumN (7 * m) F + F (7 * m) + F (7 * m + 1) + F (7 * m + 2) + F (7 * m + 3) + F (7 * m + 4) + F (7 * m + 5) + F (7 * m + 6) = sumN m (fun i => sumN 7 (fun j => F (7 * i + j))) + sumN 7 (fun j => F (7 * m + j))
    rw [ih, sum7 (fun j => F (7 * m + j))]
    show _ = _ + (F (7 * m) + F (7 * m + 1) + F (7 * m + 2) + F (7 * m + 3) + F (7 * m + 4) + F (7 * m + 5) + F (7 * m + 6))
    omega
theorem sum_cut {F : Nat → Int} {p m : Nat} (hp : p ≤ m) (h : ∀ q, p ≤ q → q < m → F q = 0) : sumN m F = sumN p F := by
  induction m with
  | zero => obtain rfl : p = 0 := by omega
            rfl
  | succ m ih =>
    by_cases e : p = m + 1
    · rw [e]
    · simp only [sumN]
      rw [ih (by omega) (fun q h1 h2 => h q h1 (by omega)), h m (by omega) (by omega), Int.add_zero]
theorem loans_sum {p : Nat} {l : List Int} (hp : p ≤ 7) : sumN 49 (fun k => if k / 7 < p ∧ k % 7 < p ∧ 0 < l.getD k 0 then (1 : Int) else 0) = sumN p (fun i => loansN p l i p) := by
  rw [show 49 = 7 * 7 by rfl, sum_rows, sum_cut hp (fun q h1 h2 => ?_)]
  · refine sumN_congr fun i hi => ?_
    rw [sum_cut hp (fun j h1 h2 => if_neg (by omega))]
    unfold loansN
    refine sumN_congr fun j hj => ?_
    by_cases z : 0 < l.getD (7 * i + j) 0
    · rw [if_pos z, if_pos ⟨by omega, by omega, z⟩]
    · rw [if_neg z, if_neg (fun y => z y.2.2)]
  · have : sumN 7 (fun j => if (7 * q + j) / 7 < p ∧ (7 * q + j) % 7 < p ∧ 0 < l.getD (7 * q + j) 0 then (1 : Int) else 0) = sumN 0 (fun _ => 0) := by
      rw [sum_cut (p := 0) (by omega) (fun j h3 h4 => if_neg (by omega))]; rfl
    exact this
