/-! The reference: searches and sums; laid by gen_mod3.py -/
/-- what is left over goes to the first ones: all is shared out -/
theorem sum_first (p : Nat) (b : Int) (h0 : 0 ≤ b) : ∀ m : Nat, sumN m (fun i => if (i : Int) < b then (1 : Int) else 0) = min (m : Int) b := by
  intro m
  induction m with
  | zero => simp [sumN]; omega
  | succ m ih => simp only [sumN]; rw [ih]; split <;> omega
theorem shr_sum {p : Nat} {k f c : List Int} {t : Int} (hp0 : 0 < p) (hp : p ≤ 7) (hf : rng f 9) (hc : rng c 35) : sumN p (shr p k f c t) = t := by
  have hl := lefS_le (p := p) (w := wt p k f c) (t := t) hp0 (fun i _ => (wt_le hp hf hc i).1)
  have e : sumN p (shr p k f c t) = sumN p (cutS p (wt p k f c) t) + sumN p (fun i => if (i : Int) < lefS p (wt p k f c) t then (1 : Int) else 0) := (sumN_add p _ _)
  rw [e, sum_first p _ hl.1]
  unfold lefS at *
  omega
theorem shr_le999 {p : Nat} {k f c : List Int} {t : Int} (hp : p ≤ 7) (hf : rng f 9) (hc : rng c 35) (ht : 0 ≤ t ∧ t ≤ 999) {q : Nat} (hq : q < p) : shr p k f c t q ≤ 999 := by
  have h1 := sum_one (m := p) (w := shr p k f c t) (fun i hi => (shr_le hp hf hc ht hi).1) hq
  rw [shr_sum (by omega) hp hf hc] at h1
  omega
/-- the least of all but one, from 1000 down -/
def lsM (i : Nat) (S : Nat → Int) : Nat → Int
  | 0 => 1000
  | q + 1 => if q ≠ i ∧ S q < lsM i S q then S q else lsM i S q
theorem lsM_t {i q : Nat} {S : Nat → Int} (h : q ≠ i) (h2 : S q < lsM i S q) : lsM i S (q + 1) = S q := if_pos ⟨h, h2⟩
theorem lsM_f {i q : Nat} {S : Nat → Int} (h : ¬ (q ≠ i ∧ S q < lsM i S q)) : lsM i S (q + 1) = lsM i S q := if_neg h
theorem lsM_le {i : Nat} {S : Nat → Int} {p : Nat} (h : ∀ q, q < p → 0 ≤ S q ∧ S q ≤ 1000) : ∀ q, q ≤ p → 0 ≤ lsM i S q ∧ lsM i S q ≤ 1000 := by
  intro q
  induction q with
  | zero => intro _; exact ⟨(by decide : (0 : Int) ≤ 1000), (by decide : (1000 : Int) ≤ 1000)⟩
  | succ q ih =>
    intro hq
    have h1 := ih (by omega)
    have h2 := h q (by omega)
    simp only [lsM]
    split <;> omega
theorem lsN_M {i : Nat} {S : Nat → Int} : ∀ q, lsN i S q = min 999 (lsM i S q) := by
  intro q
  induction q with
  | zero => rfl
  | succ q ih =>
    simp only [lsN, lsM]
    by_cases h : q = i
    · rw [if_pos h, if_neg (fun z => z.1 h), ih]
    · rw [if_neg h, ih]
      split <;> omega
/-- who has more when g is out -/
def gdP (p : Nat) (k f c l : List Int) (t : Int) (g q : Nat) : Bool := decide (q ≠ g) && decide (hasM p k f c l t q < shG p k f c t g q - sumN p (netT l g q))
theorem gdP_t {p : Nat} {k f c l : List Int} {t : Int} {g q : Nat} (h : q ≠ g) (h2 : hasM p k f c l t q < shG p k f c t g q - sumN p (netT l g q)) : gdP p k f c l t g q = true := by
  unfold gdP; rw [decide_eq_true h, decide_eq_true h2]; rfl
theorem gdP_f {p : Nat} {k f c l : List Int} {t : Int} {g q : Nat} (h : ¬ (q ≠ g ∧ hasM p k f c l t q < shG p k f c t g q - sumN p (netT l g q))) : gdP p k f c l t g q = false := by
  unfold gdP
  by_cases z : q ≠ g
  · rw [decide_eq_true z, decide_eq_false (fun y => h ⟨z, y⟩)]; rfl
  · rw [decide_eq_false z]; rfl
def nrM (p : Nat) (L : Nat → Int) (c : List Int) (d : Int) (x i : Nat) : Bool := (List.range p).any fun e => x.testBit e && decide (0 < L e) && decide (stp (c.getD i 0) (c.getD e 0) ≤ d)
theorem nrM_iff {p : Nat} {L : Nat → Int} {c : List Int} {d : Int} {x i : Nat} : nrM p L c d x i = true ↔ ∃ e, e < p ∧ x.testBit e = true ∧ 0 < L e ∧ stp (c.getD i 0) (c.getD e 0) ≤ d := by
  unfold nrM
  rw [List.any_eq_true]
  constructor
  · rintro ⟨e, h1, h2⟩
    have h1 := List.mem_range.mp h1
    simp only [Bool.and_eq_true, decide_eq_true_eq] at h2
    exact ⟨e, h1, h2.1.1, h2.1.2, h2.2⟩
  · rintro ⟨e, h1, h2, h3, h4⟩
    refine ⟨e, List.mem_range.mpr h1, ?_⟩
    simp only [Bool.and_eq_true, decide_eq_true_eq]
    exact ⟨⟨h2, h3⟩, h4⟩
/-- what one adds to the reference's cut -/
def cuM (p : Nat) (S L : Nat → Int) (c : List Int) (d : Int) (x i : Nat) : Int := (if x.testBit i = true then 0 else L i) + (if nrM p L c d x i = true then S i else 0)
theorem cuM_le {p : Nat} {S L : Nat → Int} {c : List Int} {d : Int} {x q : Nat} (h : 0 ≤ S q ∧ S q ≤ 10000 ∧ 0 ≤ L q ∧ L q ≤ 10000) : 0 ≤ cuM p S L c d x q ∧ cuM p S L c d x q ≤ 20000 := by
  unfold cuM; split <;> split <;> omega
theorem cuMs_le {p : Nat} {S L : Nat → Int} {c : List Int} {d : Int} {x : Nat} {m : Nat} (hm : m ≤ 7) (h : ∀ q, q < m → 0 ≤ S q ∧ S q ≤ 10000 ∧ 0 ≤ L q ∧ L q ≤ 10000) : 0 ≤ sumN m (cuM p S L c d x) ∧ sumN m (cuM p S L c d x) ≤ 140000 := by
  have h1 := sumN_ge (n := m) (F := cuM p S L c d x) (b := 0) (fun q hq => (cuM_le (h q hq)).1)
  have h2 := sumN_le (n := m) (F := cuM p S L c d x) (b := 20000) (fun q hq => (cuM_le (h q hq)).2)
  omega
theorem ltA_f {p : Nat} {k f c n l : List Int} {t : Int} (h : ltA p k f c n l t = false) : ∃ q, q < p ∧ hasM p k f c l t q < n.getD q 0 := by
  rcases Classical.em (∃ q, q < p ∧ hasM p k f c l t q < n.getD q 0) with z | z
  · exact z
  · rw [ltA_of (fun q hq => by
      rcases Int.lt_or_le (hasM p k f c l t q) (n.getD q 0) with y | y
      · exact absurd ⟨q, hq, y⟩ z
      · exact y)] at h; cases h
theorem sht_so {p : Nat} {has : Nat → Int} {n kp so : List Int} {v i : Nat} (hi : i < p) (hs : p ≤ so.length) : (soL (fun q => decide (dayV (dayIt p has n v kp) has n q < 0)) so p).getD i 0 = so.getD i 0 + if sht p has n kp i v = true then 1 else 0 := soL_in hs hi
theorem bOK_it {p : Nat} {k f c n kp l : List Int} {t d : Int} (h : bOK p k f c n kp l t d) (has : Nat → Int) {m : Nat} (hm : d + (m : Int) ≤ 5000) : bOK p k f c n (dayIt p has n m kp) l t (d + (m : Int)) := by
  obtain ⟨hp7, hk, hf, hc, hn, hkp, hl, rk, rf, rc, rn, rkp, rl, ht0, ht1, hd0, hd1⟩ := h
  exact ⟨hp7, hk, hf, hc, hn, by rw [dayIt_len]; exact hkp, hl, rk, rf, rc, rn, dayIt_rng rkp, rl, ht0, ht1, by omega, hm⟩
theorem bOK_c {p : Nat} {k f c n kp l : List Int} {t d : Int} (h : bOK p k f c n kp l t d) {i : Nat} {v : Int} (h0 : 0 ≤ v) (h1 : v ≤ 35) : bOK p k f (c.set i v) n kp l t d := by
  obtain ⟨hp7, hk, hf, hc, hn, hkp, hl, rk, rf, rc, rn, rkp, rl, ht0, ht1, hd0, hd1⟩ := h
  exact ⟨hp7, hk, hf, by rw [List.length_set]; exact hc, hn, hkp, hl, rk, rf, rng_set rc h0 h1, rn, rkp, rl, ht0, ht1, hd0, hd1⟩
theorem gH_add {p : Nat} {k f c sh : List Int} {t x y z : Int} (hp6 : p ≤ 6) (h : gH p k f c sh t) (g1 : 0 ≤ x ∧ x ≤ 5) (g2 : 0 ≤ y ∧ y ≤ 9) (g3 : 0 ≤ z ∧ z ≤ 35) : gH (p + 1) (k.set p x) (f.set p y) (c.set p z) sh t := by
  obtain ⟨hp7, hk, hf, hc, hs, rk, rf, rc, ht0, ht1⟩ := h
  exact ⟨by omega, by rw [List.length_set]; exact hk, by rw [List.length_set]; exact hf, by rw [List.length_set]; exact hc, hs, rng_set rk g1.1 g1.2, rng_set rf g2.1 g2.2, rng_set rc g3.1 g3.2, ht0, ht1⟩
theorem c_mCut {N : Nat} {hH : aH} {x : Int} (hx : aI x) : aEx mX8_cut 0 N [.inl x] hH (some (.inl (min x 99))) hH := by
  refine aEv_of okX8_cut caX8_cut (Nat.le_of_ble_eq_true rfl) ?_
  obtain ⟨hx1, hx2⟩ := hx
  refine aGo okX8_cut 2 (f' := (3, [some (.inl x)], [.inl 99, .inl x], _)) rfl ?_
  refine b_le (tgt := 11) okX8_cut rfl rfl ⟨by omega, by omega⟩ ⟨by omega, by omega⟩ (fun h3 => ?_) (fun h3 => ?_)
  · refine aGo okX8_cut 1 (f' := (12, [some (.inl x)], [.inl x], _)) rfl ?_
    exact b_ret (v := (some (.inl x))) ⟨rfl, Or.inl rfl⟩ ⟨congrArg (fun q : Int => (some (.inl q) : Option aV)) (by omega), rfl⟩ rfl
  · refine aGo okX8_cut 2 (f' := (12, [some (.inl x)], [.inl 99], _)) rfl ?_
    exact b_ret (v := (some (.inl 99))) ⟨rfl, Or.inl rfl⟩ ⟨congrArg (fun q : Int => (some (.inl q) : Option aV)) (by omega), rfl⟩ rfl
theorem c_moved_0 {N : Nat} {hH : aH} {x : Int} (hx : 0 ≤ x ∧ x ≤ 35) : aEx mX8_moved 0 N [.inl x, .inl 0] hH (some (.inl (mov x 0))) hH := by
  refine aEv_of okX8_moved caX8_moved (Nat.le_of_ble_eq_true rfl) ?_
  refine aGo okX8_moved 1 (f' := (1, [some (.inl x), some (.inl 0)], [.inl 0], _)) rfl ?_
  refine b_swOut (tgt := 93) okX8_moved rfl ⟨by decide, by decide⟩ (by decide) rfl ?_
  refine aGo okX8_moved 1 (f' := (94, [some (.inl x), some (.inl 0)], [.inl x], _)) rfl ?_
  exact b_ret (v := (some (.inl x))) ⟨rfl, Or.inl rfl⟩ ⟨congrArg (fun q : Int => (some (.inl q) : Option aV)) (rfl), rfl⟩ rfl
theorem c_moved_1 {N : Nat} {hH : aH} {x : Int} (hx : 0 ≤ x ∧ x ≤ 35) : aEx mX8_moved 0 N [.inl x, .inl 1] hH (some (.inl (mov x 1))) hH := by
  refine aEv_of okX8_moved caX8_moved (Nat.le_of_ble_eq_true rfl) ?_
  refine aGo okX8_moved 1 (f' := (1, [some (.inl x), some (.inl 1)], [.inl 1], _)) rfl ?_
  refine b_swIn (tgt := 32) okX8_moved rfl ⟨by decide, by decide⟩ (by decide) (by decide) rfl rfl ?_
  refine aGo okX8_moved 2 (f' := (35, [some (.inl x), some (.inl 1)], [.inl 6, .inl x], _)) rfl ?_
  refine b_ge (tgt := 42) okX8_moved rfl rfl ⟨by omega, by omega⟩ ⟨by omega, by omega⟩ (fun h35 => ?_) (fun h35 => ?_)
  · refine aGo okX8_moved 3 (f' := (46, [some (.inl x), some (.inl 1)], [.inl (x - 6)], _)) rfl ?_
    exact b_ret (v := (some (.inl (x - 6)))) ⟨rfl, Or.inl rfl⟩ ⟨congrArg (fun q : Int => (some (.inl q) : Option aV)) ((if_pos (c := 6 ≤ x) (by omega)).symm), rfl⟩ rfl
  · refine aGo okX8_moved 2 (f' := (46, [some (.inl x), some (.inl 1)], [.inl x], _)) rfl ?_
    exact b_ret (v := (some (.inl x))) ⟨rfl, Or.inl rfl⟩ ⟨congrArg (fun q : Int => (some (.inl q) : Option aV)) ((if_neg (c := 6 ≤ x) (by omega)).symm), rfl⟩ rfl
theorem c_moved_2 {N : Nat} {hH : aH} {x : Int} (hx : 0 ≤ x ∧ x ≤ 35) : aEx mX8_moved 0 N [.inl x, .inl 2] hH (some (.inl (mov x 2))) hH := by
  refine aEv_of okX8_moved caX8_moved (Nat.le_of_ble_eq_true rfl) ?_
  refine aGo okX8_moved 1 (f' := (1, [some (.inl x), some (.inl 2)], [.inl 2], _)) rfl ?_
  refine b_swIn (tgt := 47) okX8_moved rfl ⟨by decide, by decide⟩ (by decide) (by decide) rfl rfl ?_
  refine aGo okX8_moved 2 (f' := (50, [some (.inl x), some (.inl 2)], [.inl 6, .inl x], _)) rfl ?_
  refine b_rem okX8_moved rfl ⟨by omega, by omega⟩ ⟨by omega, by omega⟩ ?_
  refine b0_ne (tgt := 58) okX8_moved rfl rfl ⟨by omega, by omega⟩ (fun h51 => ?_) (fun h51 => ?_)
  · refine aGo okX8_moved 3 (f' := (61, [some (.inl x), some (.inl 2)], [.inl (x - 1)], _)) rfl ?_
    exact b_ret (v := (some (.inl (x - 1)))) ⟨rfl, Or.inl rfl⟩ ⟨congrArg (fun q : Int => (some (.inl q) : Option aV)) ((if_pos (c := 0 < x % 6) (by omega)).symm), rfl⟩ rfl
  · refine aGo okX8_moved 2 (f' := (61, [some (.inl x), some (.inl 2)], [.inl x], _)) rfl ?_
    exact b_ret (v := (some (.inl x))) ⟨rfl, Or.inl rfl⟩ ⟨congrArg (fun q : Int => (some (.inl q) : Option aV)) ((if_neg (c := 0 < x % 6) (by omega)).symm), rfl⟩ rfl
theorem c_moved_3 {N : Nat} {hH : aH} {x : Int} (hx : 0 ≤ x ∧ x ≤ 35) : aEx mX8_moved 0 N [.inl x, .inl 3] hH (some (.inl (mov x 3))) hH := by
  refine aEv_of okX8_moved caX8_moved (Nat.le_of_ble_eq_true rfl) ?_
  refine aGo okX8_moved 1 (f' := (1, [some (.inl x), some (.inl 3)], [.inl 3], _)) rfl ?_
  refine b_swIn (tgt := 62) okX8_moved rfl ⟨by decide, by decide⟩ (by decide) (by decide) rfl rfl ?_
  refine aGo okX8_moved 2 (f' := (65, [some (.inl x), some (.inl 3)], [.inl 6, .inl x], _)) rfl ?_
  refine b_rem okX8_moved rfl ⟨by omega, by omega⟩ ⟨by omega, by omega⟩ ?_
  refine aGo okX8_moved 1 (f' := (67, [some (.inl x), some (.inl 3)], [.inl 5, .inl (x % 6)], _)) rfl ?_
  refine b_ne (tgt := 74) okX8_moved rfl rfl ⟨by omega, by omega⟩ ⟨by omega, by omega⟩ (fun h67 => ?_) (fun h67 => ?_)
  · refine aGo okX8_moved 3 (f' := (77, [some (.inl x), some (.inl 3)], [.inl (x + 1)], _)) rfl ?_
    exact b_ret (v := (some (.inl (x + 1)))) ⟨rfl, Or.inl rfl⟩ ⟨congrArg (fun q : Int => (some (.inl q) : Option aV)) ((if_pos (c := x % 6 < 5) (by omega)).symm), rfl⟩ rfl
  · refine aGo okX8_moved 2 (f' := (77, [some (.inl x), some (.inl 3)], [.inl x], _)) rfl ?_
    exact b_ret (v := (some (.inl x))) ⟨rfl, Or.inl rfl⟩ ⟨congrArg (fun q : Int => (some (.inl q) : Option aV)) ((if_neg (c := x % 6 < 5) (by omega)).symm), rfl⟩ rfl
theorem c_moved_4 {N : Nat} {hH : aH} {x : Int} (hx : 0 ≤ x ∧ x ≤ 35) : aEx mX8_moved 0 N [.inl x, .inl 4] hH (some (.inl (mov x 4))) hH := by
  refine aEv_of okX8_moved caX8_moved (Nat.le_of_ble_eq_true rfl) ?_
  refine aGo okX8_moved 1 (f' := (1, [some (.inl x), some (.inl 4)], [.inl 4], _)) rfl ?_
  refine b_swIn (tgt := 78) okX8_moved rfl ⟨by decide, by decide⟩ (by decide) (by decide) rfl rfl ?_
  refine aGo okX8_moved 2 (f' := (81, [some (.inl x), some (.inl 4)], [.inl 29, .inl x], _)) rfl ?_
  refine b_le (tgt := 88) okX8_moved rfl rfl ⟨by omega, by omega⟩ ⟨by omega, by omega⟩ (fun h81 => ?_) (fun h81 => ?_)
  · refine aGo okX8_moved 3 (f' := (92, [some (.inl x), some (.inl 4)], [.inl (x + 6)], _)) rfl ?_
    exact b_ret (v := (some (.inl (x + 6)))) ⟨rfl, Or.inl rfl⟩ ⟨congrArg (fun q : Int => (some (.inl q) : Option aV)) ((if_pos (c := x + 6 < 36) (by omega)).symm), rfl⟩ rfl
  · refine aGo okX8_moved 2 (f' := (92, [some (.inl x), some (.inl 4)], [.inl x], _)) rfl ?_
    exact b_ret (v := (some (.inl x))) ⟨rfl, Or.inl rfl⟩ ⟨congrArg (fun q : Int => (some (.inl q) : Option aV)) ((if_neg (c := x + 6 < 36) (by omega)).symm), rfl⟩ rfl
theorem c_moved {N : Nat} {hH : aH} {x : Int} (hx : 0 ≤ x ∧ x ≤ 35) {w : Nat} (hw : w < 5) : aEx mX8_moved 0 N [.inl x, .inl (w : Int)] hH (some (.inl (mov x w))) hH := by
  match w, hw with
  | 0, _ => exact c_moved_0 hx
  | 1, _ => exact c_moved_1 hx
  | 2, _ => exact c_moved_2 hx
  | 3, _ => exact c_moved_3 hx
  | 4, _ => exact c_moved_4 hx
  | w + 5, h => omega
section AME
variable {A0 A1 A2 A3 A4 A5 : List (Option aE)} {re k f c n kp l tp le la td kt sh so had gr fi se to : List Int} {p g : Nat} {t d tl at_ sn him ik cu ou st rm : Int} {N : Nat}
set_option maxRecDepth 100000 in
set_option maxHeartbeats 4000000 in
theorem c_sharesOfFirst {m : Nat} (hm7 : m ≤ 7) (hsh : sh.length = 7) (hm8 : m ≤ 7) : aEv mX8_sharesOfFirst 0 0 0 N [.inr 192, .inl (m : Int)] [A0, A1, A2, A3, A4, A5, (modSeg re k f c n kp l tp le la td kt sh so had gr fi se to (p : Int) t d tl at_ sn him ik cu ou st rm)] ((aQx (some (.inl (sumN m (fun q => sh.getD q 0)))) [A0, A1, A2, A3, A4, A5, (modSeg re k f c n kp l tp le la td kt sh so had gr fi se to (p : Int) t d tl at_ sn him ik cu ou st rm)])) := by
  refine aEv_of okX8_sharesOfFirst caX8_sharesOfFirst (Nat.le_of_ble_eq_true rfl) ?_
  have lp : ∀ (j v : Nat), v + j = m → AW mX8_sharesOfFirst 0 0 0 N none (aQx (some (.inl (sumN m (fun q => sh.getD q 0)))) [A0, A1, A2, A3, A4, A5, (modSeg re k f c n kp l tp le la td kt sh so had gr fi se to (p : Int) t d tl at_ sn him ik cu ou st rm)]) (4, [some (.inr 192), some (.inl (m : Int)), some (.inl (sumN v (fun q => sh.getD q 0))), some (.inl (v : Int))], [], [A0, A1, A2, A3, A4, A5, (modSeg re k f c n kp l tp le la td kt sh so had gr fi se to (p : Int) t d tl at_ sn him ik cu ou st rm)]) := by
    intro j
    induction j with
    | zero =>
      intro v  hij 
      obtain rfl : m = v := by omega
      refine aGo okX8_sharesOfFirst 2 (f' := (6, [some (.inr 192), some (.inl (m : Int)), some (.inl (sumN m (fun q => sh.getD q 0))), some (.inl (m : Int))], [.inl (m : Int), .inl (m : Int)], _)) rfl ?_
      refine b_ge (tgt := 24) okX8_sharesOfFirst rfl rfl ⟨by omega, by omega⟩ ⟨by omega, by omega⟩ (fun h6 => ?_) (fun h6 => absurd h6 (by omega))
      refine aGo okX8_sharesOfFirst 1 (f' := (25, [some (.inr 192), some (.inl (m : Int)), some (.inl (sumN m (fun q => sh.getD q 0))), some (.inl (m : Int))], [.inl (sumN m (fun q => sh.getD q 0))], _)) rfl ?_
      exact b_ret (v := (some (.inl (sumN m (fun q => sh.getD q 0))))) ⟨rfl, Or.inl rfl⟩ ⟨rfl, rfl⟩ rfl
    | succ j ih =>
      intro v  hij 
      refine aGo okX8_sharesOfFirst 2 (f' := (6, [some (.inr 192), some (.inl (m : Int)), some (.inl (sumN v (fun q => sh.getD q 0))), some (.inl (v : Int))], [.inl (m : Int), .inl (v : Int)], _)) rfl ?_
      refine b_ge (tgt := 24) okX8_sharesOfFirst rfl rfl ⟨by omega, by omega⟩ ⟨by omega, by omega⟩ (fun h6 => absurd h6 (by omega)) (fun h6 => ?_)
      refine aGo okX8_sharesOfFirst 4 (f' := (15, [some (.inr 192), some (.inl (m : Int)), some (.inl (sumN v (fun q => sh.getD q 0))), some (.inl (v : Int))], [.inl (v : Int), .inr 205, .inl (sumN v (fun q => sh.getD q 0))], _)) rfl ?_
      refine b_ald (k := 205) (j := v) (a := sh) okX8_sharesOfFirst rfl rfl (by omega) (by omega) (by omega) ?_
      refine aGo okX8_sharesOfFirst 4 (f' := (4, [some (.inr 192), some (.inl (m : Int)), some (.inl ((sumN v (fun q => sh.getD q 0)) + (sh.getD v 0))), some (.inl ((v : Int) + 1))], [], _)) rfl ?_
      exact ih (v + 1) (by omega)
  refine aGo okX8_sharesOfFirst 4 (f' := (4, [some (.inr 192), some (.inl (m : Int)), some (.inl 0), some (.inl 0)], [], _)) rfl ?_
  exact lp m 0 (by omega)
set_option maxRecDepth 100000 in
set_option maxHeartbeats 4000000 in
theorem c_leastOfOthers (hp7 : p ≤ 7) (hsh : sh.length = 7) {i : Nat} (hi : i < 7) (hsb : ∀ q, q < p → 0 ≤ sh.getD q 0 ∧ sh.getD q 0 ≤ 1000) : aEv mX8_leastOfOthers 0 0 0 N [.inr 192, .inl (i : Int)] [A0, A1, A2, A3, A4, A5, (modSeg re k f c n kp l tp le la td kt sh so had gr fi se to (p : Int) t d tl at_ sn him ik cu ou st rm)] ((aQx (some (.inl (lsM i (fun q => sh.getD q 0) p))) [A0, A1, A2, A3, A4, A5, (modSeg re k f c n kp l tp le la td kt sh so had gr fi se to (p : Int) t d tl at_ sn him ik cu ou st rm)])) := by
  refine aEv_of okX8_leastOfOthers caX8_leastOfOthers (Nat.le_of_ble_eq_true rfl) ?_
  have lp : ∀ (j v : Nat), v + j = p → AW mX8_leastOfOthers 0 0 0 N none (aQx (some (.inl (lsM i (fun q => sh.getD q 0) p))) [A0, A1, A2, A3, A4, A5, (modSeg re k f c n kp l tp le la td kt sh so had gr fi se to (p : Int) t d tl at_ sn him ik cu ou st rm)]) (6, [some (.inr 192), some (.inl (i : Int)), some (.inl (lsM i (fun q => sh.getD q 0) v)), some (.inl (v : Int))], [], [A0, A1, A2, A3, A4, A5, (modSeg re k f c n kp l tp le la td kt sh so had gr fi se to (p : Int) t d tl at_ sn him ik cu ou st rm)]) := by
    intro j
    induction j with
    | zero =>
      intro v  hij 
      obtain rfl : p = v := by omega
      refine aGo okX8_leastOfOthers 3 (f' := (11, [some (.inr 192), some (.inl (i : Int)), some (.inl (lsM i (fun q => sh.getD q 0) p)), some (.inl (p : Int))], [.inl (p : Int), .inl (p : Int)], _)) rfl ?_
      refine b_ge (tgt := 46) okX8_leastOfOthers rfl rfl ⟨by omega, by omega⟩ ⟨by omega, by omega⟩ (fun h11 => ?_) (fun h11 => absurd h11 (by omega))
      refine aGo okX8_leastOfOthers 1 (f' := (47, [some (.inr 192), some (.inl (i : Int)), some (.inl (lsM i (fun q => sh.getD q 0) p)), some (.inl (p : Int))], [.inl (lsM i (fun q => sh.getD q 0) p)], _)) rfl ?_
      exact b_ret (v := (some (.inl (lsM i (fun q => sh.getD q 0) p)))) ⟨rfl, Or.inl rfl⟩ ⟨rfl, rfl⟩ rfl
    | succ j ih =>
      intro v  hij 
      have e1 := hsb v (by omega)
      have e2 := lsM_le (i := i) hsb v (by omega)
      refine aGo okX8_leastOfOthers 3 (f' := (11, [some (.inr 192), some (.inl (i : Int)), some (.inl (lsM i (fun q => sh.getD q 0) v)), some (.inl (v : Int))], [.inl (p : Int), .inl (v : Int)], _)) rfl ?_
      refine b_ge (tgt := 46) okX8_leastOfOthers rfl rfl ⟨by omega, by omega⟩ ⟨by omega, by omega⟩ (fun h11 => absurd h11 (by omega)) (fun h11 => ?_)
      refine aGo okX8_leastOfOthers 2 (f' := (16, [some (.inr 192), some (.inl (i : Int)), some (.inl (lsM i (fun q => sh.getD q 0) v)), some (.inl (v : Int))], [.inl (i : Int), .inl (v : Int)], _)) rfl ?_
      refine b_eq (tgt := 38) okX8_leastOfOthers rfl rfl ⟨by omega, by omega⟩ ⟨by omega, by omega⟩ (fun h16 => ?_) (fun h16 => ?_)
      · refine aGo okX8_leastOfOthers 4 (f' := (6, [some (.inr 192), some (.inl (i : Int)), some (.inl (lsM i (fun q => sh.getD q 0) v)), some (.inl ((v : Int) + 1))], [], _)) rfl ?_
        refine b_cast (f' := (6, [some (.inr 192), some (.inl (i : Int)), some (.inl (lsM i (fun q => sh.getD q 0) (v + 1))), some (.inl ((v : Int) + 1))], [], [A0, A1, A2, A3, A4, A5, (modSeg re k f c n kp l tp le la td kt sh so had gr fi se to (p : Int) t d tl at_ sn him ik cu ou st rm)])) (congrArg (fun q : Int => ((6, [some (.inr 192), some (.inl (i : Int)), some (.inl q), some (.inl ((v : Int) + 1))], [], [A0, A1, A2, A3, A4, A5, (modSeg re k f c n kp l tp le la td kt sh so had gr fi se to (p : Int) t d tl at_ sn him ik cu ou st rm)]) : aF)) (((lsM_f (show ¬ (v ≠ i ∧ sh.getD v 0 < lsM i (fun q => sh.getD q 0) v) by omega)).symm))) ?_
        exact ih (v + 1) (by omega)
      · refine aGo okX8_leastOfOthers 3 (f' := (24, [some (.inr 192), some (.inl (i : Int)), some (.inl (lsM i (fun q => sh.getD q 0) v)), some (.inl (v : Int))], [.inl (v : Int), .inr 205], _)) rfl ?_
        refine b_ald (k := 205) (j := v) (a := sh) okX8_leastOfOthers rfl rfl (by omega) (by omega) (by omega) ?_
        refine aGo okX8_leastOfOthers 1 (f' := (26, [some (.inr 192), some (.inl (i : Int)), some (.inl (lsM i (fun q => sh.getD q 0) v)), some (.inl (v : Int))], [.inl (lsM i (fun q => sh.getD q 0) v), .inl (sh.getD v 0)], _)) rfl ?_
        refine b_ge (tgt := 38) okX8_leastOfOthers rfl rfl ⟨by omega, by omega⟩ ⟨by omega, by omega⟩ (fun h26 => ?_) (fun h26 => ?_)
        · refine aGo okX8_leastOfOthers 4 (f' := (6, [some (.inr 192), some (.inl (i : Int)), some (.inl (lsM i (fun q => sh.getD q 0) v)), some (.inl ((v : Int) + 1))], [], _)) rfl ?_
          refine b_cast (f' := (6, [some (.inr 192), some (.inl (i : Int)), some (.inl (lsM i (fun q => sh.getD q 0) (v + 1))), some (.inl ((v : Int) + 1))], [], [A0, A1, A2, A3, A4, A5, (modSeg re k f c n kp l tp le la td kt sh so had gr fi se to (p : Int) t d tl at_ sn him ik cu ou st rm)])) (congrArg (fun q : Int => ((6, [some (.inr 192), some (.inl (i : Int)), some (.inl q), some (.inl ((v : Int) + 1))], [], [A0, A1, A2, A3, A4, A5, (modSeg re k f c n kp l tp le la td kt sh so had gr fi se to (p : Int) t d tl at_ sn him ik cu ou st rm)]) : aF)) (((lsM_f (show ¬ (v ≠ i ∧ sh.getD v 0 < lsM i (fun q => sh.getD q 0) v) by omega)).symm))) ?_
          exact ih (v + 1) (by omega)
        · refine aGo okX8_leastOfOthers 3 (f' := (34, [some (.inr 192), some (.inl (i : Int)), some (.inl (lsM i (fun q => sh.getD q 0) v)), some (.inl (v : Int))], [.inl (v : Int), .inr 205], _)) rfl ?_
          refine b_ald (k := 205) (j := v) (a := sh) okX8_leastOfOthers rfl rfl (by omega) (by omega) (by omega) ?_
          refine aGo okX8_leastOfOthers 4 (f' := (6, [some (.inr 192), some (.inl (i : Int)), some (.inl (sh.getD v 0)), some (.inl ((v : Int) + 1))], [], _)) rfl ?_
          refine b_cast (f' := (6, [some (.inr 192), some (.inl (i : Int)), some (.inl (lsM i (fun q => sh.getD q 0) (v + 1))), some (.inl ((v : Int) + 1))], [], [A0, A1, A2, A3, A4, A5, (modSeg re k f c n kp l tp le la td kt sh so had gr fi se to (p : Int) t d tl at_ sn him ik cu ou st rm)])) (congrArg (fun q : Int => ((6, [some (.inr 192), some (.inl (i : Int)), some (.inl q), some (.inl ((v : Int) + 1))], [], [A0, A1, A2, A3, A4, A5, (modSeg re k f c n kp l tp le la td kt sh so had gr fi se to (p : Int) t d tl at_ sn him ik cu ou st rm)]) : aF)) (((lsM_t (by omega) (show sh.getD v 0 < lsM i (fun q => sh.getD q 0) v by omega)).symm))) ?_
          exact ih (v + 1) (by omega)
  refine aGo okX8_leastOfOthers 4 (f' := (6, [some (.inr 192), some (.inl (i : Int)), some (.inl 1000), some (.inl 0)], [], _)) rfl ?_
  exact lp p 0 (by omega)
set_option maxRecDepth 100000 in
set_option maxHeartbeats 4000000 in
theorem c_takesFrom (hb : bOK p k f c n kp l t d) (hsh : sh.length = 7) {i j : Nat} (hi : i < p) (hj : j < p) : aEv mX8_takesFrom 6 0 0 N [.inr 192, .inl (i : Int), .inl (j : Int)] [A0, A1, A2, A3, A4, A5, (modSeg re k f c n kp l tp le la td kt sh so had gr fi se to (p : Int) t d tl at_ sn him ik cu 0 st rm)] ((fun rv h => rv = some (.inl (shG p k f c t i j - shr p k f c t j)) ∧ ∃ sh2 : List Int, sh2.length = 7 ∧ h = [A0, A1, A2, A3, A4, A5, (modSeg re k f c n kp l tp le la td kt sh2 so had gr fi se to (p : Int) t d tl at_ sn him ik cu 0 st rm)])) := by
  obtain ⟨hp7, hk, hf, hc, hn, hkp, hl, rk, rf, rc, rn, rkp, rl, ht0, ht1, hd0, hd1⟩ := id hb
  refine aEv_of okX8_takesFrom caX8_takesFrom (Nat.le_of_ble_eq_true rfl) ?_
  refine aGo okX8_takesFrom 1 (f' := (1, [some (.inr 192), some (.inl (i : Int)), some (.inl (j : Int)), none], [.inr 192], _)) rfl ?_
  refine b_vE (as := []) (rest := []) (k := 192) okX8_takesFrom rfl lkX8_202 caX8_findShares (Nat.le_of_ble_eq_true rfl) rfl (Nat.le_of_ble_eq_true rfl) rfl rfl rfl (c_findShares (gH_of hb (by omega))) ?_
  rintro _ _ ⟨rfl, sh2, lsh2, esh2, rfl⟩
  refine aGo okX8_takesFrom 3 (f' := (9, [some (.inr 192), some (.inl (i : Int)), some (.inl (j : Int)), none], [.inl (j : Int), .inr 205], _)) rfl ?_
  refine b_ald (k := 205) (j := j) (a := sh2) okX8_takesFrom rfl rfl (by omega) (by omega) (by omega) ?_
  refine aGo okX8_takesFrom 5 (f' := (15, [some (.inr 192), some (.inl (i : Int)), some (.inl (j : Int)), some (.inl (sh2.getD j 0))], [.inl (aShl 1 (i : Int)), .inr 192], _)) rfl ?_
  refine b_cast (f' := (15, [some (.inr 192), some (.inl (i : Int)), some (.inl (j : Int)), some (.inl (sh2.getD j 0))], [.inl (ouB i), .inr 192], [A0, A1, A2, A3, A4, A5, (modSeg re k f c n kp l tp le la td kt sh2 so had gr fi se to (p : Int) t d tl at_ sn him ik cu 0 st rm)])) (by unfold ouB; rw [if_pos (by omega)]) ?_
  refine aGo okX8_takesFrom 2 (f' := (19, [some (.inr 192), some (.inl (i : Int)), some (.inl (j : Int)), some (.inl (sh2.getD j 0))], [.inr 192], [A0, A1, A2, A3, A4, A5, (modSeg re k f c n kp l tp le la td kt sh2 so had gr fi se to (p : Int) t d tl at_ sn him ik cu (ouB i) st rm)])) rfl ?_
  refine b_vE (as := []) (rest := []) (k := 192) okX8_takesFrom rfl lkX8_202 caX8_findShares (Nat.le_of_ble_eq_true rfl) rfl (Nat.le_of_ble_eq_true rfl) rfl rfl rfl (c_findSharesG (g := i) (gH_of hb (by omega)) (by omega)) ?_
  rintro _ _ ⟨rfl, sh3, lsh3, esh3, rfl⟩
  refine aGo okX8_takesFrom 6 (f' := (32, [some (.inr 192), some (.inl (i : Int)), some (.inl (j : Int)), some (.inl (sh2.getD j 0))], [.inl (j : Int), .inr 205], [A0, A1, A2, A3, A4, A5, (modSeg re k f c n kp l tp le la td kt sh3 so had gr fi se to (p : Int) t d tl at_ sn him ik cu 0 st rm)])) rfl ?_
  refine b_ald (k := 205) (j := j) (a := sh3) okX8_takesFrom rfl rfl (by omega) (by omega) (by omega) ?_
  refine aGo okX8_takesFrom 2 (f' := (35, [some (.inr 192), some (.inl (i : Int)), some (.inl (j : Int)), some (.inl (sh2.getD j 0))], [.inl ((sh3.getD j 0) - (sh2.getD j 0))], _)) rfl ?_
  exact b_ret (v := (some (.inl ((sh3.getD j 0) - (sh2.getD j 0))))) ⟨rfl, Or.inl rfl⟩ ⟨congrArg (fun q : Int => (some (.inl q) : Option aV)) (by rw [esh3 j hj, esh2 j hj]), sh3, lsh3, rfl⟩ rfl
set_option maxRecDepth 100000 in
set_option maxHeartbeats 4000000 in
theorem c_gladBy (hb : bOK p k f c n kp l t d) (hsh : sh.length = 7) (hha : had.length = 7) {i : Nat} (hi : i < p) : aEv mX8_gladBy 6 0 0 N [.inr 192, .inl (i : Int)] [A0, A1, A2, A3, A4, A5, (modSeg re k f c n kp l tp le la td kt sh so had gr fi se to (p : Int) t d tl at_ sn him ik cu 0 st rm)] ((fun rv h => rv = some (.inl (cntN p (gdP p k f c l t i))) ∧ ∃ sh2 ha2 : List Int, sh2.length = 7 ∧ ha2.length = 7 ∧ h = [A0, A1, A2, A3, A4, A5, (modSeg re k f c n kp l tp le la td kt sh2 so ha2 gr fi se to (p : Int) t d tl at_ sn him ik cu 0 st rm)])) := by
  obtain ⟨hp7, hk, hf, hc, hn, hkp, hl, rk, rf, rc, rn, rkp, rl, ht0, ht1, hd0, hd1⟩ := id hb
  refine aEv_of okX8_gladBy caX8_gladBy (Nat.le_of_ble_eq_true rfl) ?_
  refine aGo okX8_gladBy 1 (f' := (1, [some (.inr 192), some (.inl (i : Int)), none, none], [.inr 192], _)) rfl ?_
  refine b_vE (as := []) (rest := []) (k := 192) okX8_gladBy rfl lkX8_202 caX8_findShares (Nat.le_of_ble_eq_true rfl) rfl (Nat.le_of_ble_eq_true rfl) rfl rfl rfl (c_findShares (gH_of hb (by omega))) ?_
  rintro _ _ ⟨rfl, sh2, lsh2, esh2, rfl⟩
  refine aGo okX8_gladBy 2 (f' := (6, [some (.inr 192), some (.inl (i : Int)), some (.inl 0), none], [], _)) rfl ?_
  have lp : ∀ (j v : Nat) (ha1 : List Int), v + j = p → (ha1.length = 7) → (∀ q, q < v → ha1.getD q 0 = (hasM p k f c l t) q) → AW mX8_gladBy 6 0 0 N none (fun rv h => rv = some (.inl (cntN p (gdP p k f c l t i))) ∧ ∃ sh2 ha2 : List Int, sh2.length = 7 ∧ ha2.length = 7 ∧ h = [A0, A1, A2, A3, A4, A5, (modSeg re k f c n kp l tp le la td kt sh2 so ha2 gr fi se to (p : Int) t d tl at_ sn him ik cu 0 st rm)]) (6, [some (.inr 192), some (.inl (i : Int)), some (.inl (v : Int)), none], [], [A0, A1, A2, A3, A4, A5, (modSeg re k f c n kp l tp le la td kt sh2 so ha1 gr fi se to (p : Int) t d tl at_ sn him ik cu 0 st rm)]) := by
    intro j
    induction j with
    | zero =>
      intro v ha1 hij x1 x2
      obtain rfl : p = v := by omega
      refine aGo okX8_gladBy 3 (f' := (11, [some (.inr 192), some (.inl (i : Int)), some (.inl (p : Int)), none], [.inl (p : Int), .inl (p : Int)], _)) rfl ?_
      refine b_ge (tgt := 31) okX8_gladBy rfl rfl ⟨by omega, by omega⟩ ⟨by omega, by omega⟩ (fun h11 => ?_) (fun h11 => absurd h11 (by omega))
      refine aGo okX8_gladBy 4 (f' := (35, [some (.inr 192), some (.inl (i : Int)), some (.inl (p : Int)), none], [.inl (aShl 1 (i : Int)), .inr 192], _)) rfl ?_
      refine b_cast (f' := (35, [some (.inr 192), some (.inl (i : Int)), some (.inl (p : Int)), none], [.inl (ouB i), .inr 192], [A0, A1, A2, A3, A4, A5, (modSeg re k f c n kp l tp le la td kt sh2 so ha1 gr fi se to (p : Int) t d tl at_ sn him ik cu 0 st rm)])) (by unfold ouB; rw [if_pos (by omega)]) ?_
      refine aGo okX8_gladBy 2 (f' := (39, [some (.inr 192), some (.inl (i : Int)), some (.inl (p : Int)), none], [.inr 192], [A0, A1, A2, A3, A4, A5, (modSeg re k f c n kp l tp le la td kt sh2 so ha1 gr fi se to (p : Int) t d tl at_ sn him ik cu (ouB i) st rm)])) rfl ?_
      refine b_vE (as := []) (rest := []) (k := 192) okX8_gladBy rfl lkX8_202 caX8_findShares (Nat.le_of_ble_eq_true rfl) rfl (Nat.le_of_ble_eq_true rfl) rfl rfl rfl (c_findSharesG (g := i) (gH_of hb (by omega)) (by omega)) ?_
      rintro _ _ ⟨rfl, sh3, lsh3, esh3, rfl⟩
      have y1 := x1
      have y2 := x2
      clear x1 x2
      refine aGo okX8_gladBy 4 (f' := (46, [some (.inr 192), some (.inl (i : Int)), some (.inl 0), some (.inl 0)], [], _)) rfl ?_
      have lq : ∀ (j2 v : Nat), v + j2 = p → AW mX8_gladBy 6 0 0 N none (fun rv h => rv = some (.inl (cntN p (gdP p k f c l t i))) ∧ ∃ sh2 ha2 : List Int, sh2.length = 7 ∧ ha2.length = 7 ∧ h = [A0, A1, A2, A3, A4, A5, (modSeg re k f c n kp l tp le la td kt sh2 so ha2 gr fi se to (p : Int) t d tl at_ sn him ik cu 0 st rm)]) (46, [some (.inr 192), some (.inl (i : Int)), some (.inl (cntN v (gdP p k f c l t i))), some (.inl (v : Int))], [], [A0, A1, A2, A3, A4, A5, (modSeg re k f c n kp l tp le la td kt sh3 so ha1 gr fi se to (p : Int) t d tl at_ sn him ik cu (ouB i) st rm)]) := by
        intro j2
        induction j2 with
        | zero =>
          intro v  hij2 
          obtain rfl : p = v := by omega
          refine aGo okX8_gladBy 3 (f' := (51, [some (.inr 192), some (.inl (i : Int)), some (.inl (cntN p (gdP p k f c l t i))), some (.inl (p : Int))], [.inl (p : Int), .inl (p : Int)], _)) rfl ?_
          refine b_ge (tgt := 87) okX8_gladBy rfl rfl ⟨by omega, by omega⟩ ⟨by omega, by omega⟩ (fun h51 => ?_) (fun h51 => absurd h51 (by omega))
          refine aGo okX8_gladBy 4 (f' := (93, [some (.inr 192), some (.inl (i : Int)), some (.inl (cntN p (gdP p k f c l t i))), some (.inl (p : Int))], [.inl (cntN p (gdP p k f c l t i))], [A0, A1, A2, A3, A4, A5, (modSeg re k f c n kp l tp le la td kt sh3 so ha1 gr fi se to (p : Int) t d tl at_ sn him ik cu 0 st rm)])) rfl ?_
          exact b_ret (v := (some (.inl (cntN p (gdP p k f c l t i))))) ⟨rfl, Or.inl rfl⟩ ⟨rfl, sh3, ha1, lsh3, y1, rfl⟩ rfl
        | succ j2 ih2 =>
          intro v  hij2 
          have e1 := hasM_le (k := k) (l := l) hp7 rf rc rl ⟨ht0, ht1⟩ (q := v) (by omega)
          have e2 := shG_le (k := k) (g := i) hp7 rf rc ⟨ht0, ht1⟩ (q := v) (by omega)
          have e3 := netG_le (p := p) hp7 rl i v
          have e4 := y2 v (by omega)
          have e5 := esh3 v (by omega)
          refine aGo okX8_gladBy 3 (f' := (51, [some (.inr 192), some (.inl (i : Int)), some (.inl (cntN v (gdP p k f c l t i))), some (.inl (v : Int))], [.inl (p : Int), .inl (v : Int)], _)) rfl ?_
          refine b_ge (tgt := 87) okX8_gladBy rfl rfl ⟨by omega, by omega⟩ ⟨by omega, by omega⟩ (fun h51 => absurd h51 (by omega)) (fun h51 => ?_)
          refine aGo okX8_gladBy 3 (f' := (57, [some (.inr 192), some (.inl (i : Int)), some (.inl (cntN v (gdP p k f c l t i))), some (.inl (v : Int))], [.inl (i : Int), .inl (v : Int), .inl (cntN v (gdP p k f c l t i))], _)) rfl ?_
          refine b_eq (tgt := 78) okX8_gladBy rfl rfl ⟨by omega, by omega⟩ ⟨by omega, by omega⟩ (fun h57 => ?_) (fun h57 => ?_)
          · refine aGo okX8_gladBy 5 (f' := (46, [some (.inr 192), some (.inl (i : Int)), some (.inl ((cntN v (gdP p k f c l t i)) + 0)), some (.inl ((v : Int) + 1))], [], _)) rfl ?_
            refine b_cast (f' := (46, [some (.inr 192), some (.inl (i : Int)), some (.inl (cntN (v + 1) (gdP p k f c l t i))), some (.inl ((v : Int) + 1))], [], [A0, A1, A2, A3, A4, A5, (modSeg re k f c n kp l tp le la td kt sh3 so ha1 gr fi se to (p : Int) t d tl at_ sn him ik cu (ouB i) st rm)])) (congrArg (fun q : Int => ((46, [some (.inr 192), some (.inl (i : Int)), some (.inl q), some (.inl ((v : Int) + 1))], [], [A0, A1, A2, A3, A4, A5, (modSeg re k f c n kp l tp le la td kt sh3 so ha1 gr fi se to (p : Int) t d tl at_ sn him ik cu (ouB i) st rm)]) : aF)) ((by rw [cntN_f (P := (gdP p k f c l t i)) (gdP_f (by omega))]))) ?_
            exact ih2 (v + 1) (by omega)
          · refine aGo okX8_gladBy 2 (f' := (62, [some (.inr 192), some (.inl (i : Int)), some (.inl (cntN v (gdP p k f c l t i))), some (.inl (v : Int))], [.inl (v : Int), .inr 192, .inl (cntN v (gdP p k f c l t i))], _)) rfl ?_
            refine b_vV (as := [.inl (v : Int)]) (rest := [.inl (cntN v (gdP p k f c l t i))]) (k := 192) (.inl ((sh3.getD v 0) - (sumN p (netT l i v)))) okX8_gladBy rfl lkX8_208 caX8_hasNow (Nat.le_of_ble_eq_true rfl) rfl (Nat.le_of_ble_eq_true rfl) rfl rfl rfl (c_hasNow (g := i) hp7 (by omega) hl lsh3 (i := v) (by omega)) ?_
            refine aGo okX8_gladBy 3 (f' := (70, [some (.inr 192), some (.inl (i : Int)), some (.inl (cntN v (gdP p k f c l t i))), some (.inl (v : Int))], [.inl (v : Int), .inr 207, .inl ((sh3.getD v 0) - (sumN p (netT l i v))), .inl (cntN v (gdP p k f c l t i))], _)) rfl ?_
            refine b_ald (k := 207) (j := v) (a := ha1) okX8_gladBy rfl rfl (by omega) (by omega) (by omega) ?_
            refine b_le (tgt := 78) okX8_gladBy rfl rfl ⟨by omega, by omega⟩ ⟨by omega, by omega⟩ (fun h71 => ?_) (fun h71 => ?_)
            · refine aGo okX8_gladBy 5 (f' := (46, [some (.inr 192), some (.inl (i : Int)), some (.inl ((cntN v (gdP p k f c l t i)) + 0)), some (.inl ((v : Int) + 1))], [], _)) rfl ?_
              refine b_cast (f' := (46, [some (.inr 192), some (.inl (i : Int)), some (.inl (cntN (v + 1) (gdP p k f c l t i))), some (.inl ((v : Int) + 1))], [], [A0, A1, A2, A3, A4, A5, (modSeg re k f c n kp l tp le la td kt sh3 so ha1 gr fi se to (p : Int) t d tl at_ sn him ik cu (ouB i) st rm)])) (congrArg (fun q : Int => ((46, [some (.inr 192), some (.inl (i : Int)), some (.inl q), some (.inl ((v : Int) + 1))], [], [A0, A1, A2, A3, A4, A5, (modSeg re k f c n kp l tp le la td kt sh3 so ha1 gr fi se to (p : Int) t d tl at_ sn him ik cu (ouB i) st rm)]) : aF)) ((by rw [cntN_f (P := (gdP p k f c l t i)) (gdP_f (by omega))]))) ?_
              exact ih2 (v + 1) (by omega)
            · refine aGo okX8_gladBy 6 (f' := (46, [some (.inr 192), some (.inl (i : Int)), some (.inl ((cntN v (gdP p k f c l t i)) + 1)), some (.inl ((v : Int) + 1))], [], _)) rfl ?_
              refine b_cast (f' := (46, [some (.inr 192), some (.inl (i : Int)), some (.inl (cntN (v + 1) (gdP p k f c l t i))), some (.inl ((v : Int) + 1))], [], [A0, A1, A2, A3, A4, A5, (modSeg re k f c n kp l tp le la td kt sh3 so ha1 gr fi se to (p : Int) t d tl at_ sn him ik cu (ouB i) st rm)])) (congrArg (fun q : Int => ((46, [some (.inr 192), some (.inl (i : Int)), some (.inl q), some (.inl ((v : Int) + 1))], [], [A0, A1, A2, A3, A4, A5, (modSeg re k f c n kp l tp le la td kt sh3 so ha1 gr fi se to (p : Int) t d tl at_ sn him ik cu (ouB i) st rm)]) : aF)) ((by rw [cntN_t (P := (gdP p k f c l t i)) (gdP_t (by omega) (by omega))]))) ?_
              exact ih2 (v + 1) (by omega)
      exact lq p 0 (by omega)
    | succ j ih =>
      intro v ha1 hij x1 x2
      refine aGo okX8_gladBy 3 (f' := (11, [some (.inr 192), some (.inl (i : Int)), some (.inl (v : Int)), none], [.inl (p : Int), .inl (v : Int)], _)) rfl ?_
      refine b_ge (tgt := 31) okX8_gladBy rfl rfl ⟨by omega, by omega⟩ ⟨by omega, by omega⟩ (fun h11 => absurd h11 (by omega)) (fun h11 => ?_)
      refine aGo okX8_gladBy 5 (f' := (21, [some (.inr 192), some (.inl (i : Int)), some (.inl (v : Int)), none], [.inl (v : Int), .inr 192, .inl (v : Int), .inr 207], _)) rfl ?_
      refine b_vV (as := [.inl (v : Int)]) (rest := [.inl (v : Int), .inr 207]) (k := 192) (.inl ((sh2.getD v 0) - (net p l v))) okX8_gladBy rfl lkX8_208 caX8_hasNow (Nat.le_of_ble_eq_true rfl) rfl (Nat.le_of_ble_eq_true rfl) rfl rfl rfl (c_hasNow0 hp7 hl lsh2 (i := v) (by omega)) ?_
      refine b_ast (k := 207) (j := v) (a := ha1) okX8_gladBy rfl rfl (by omega) (by omega) (by omega) ?_
      refine b_cast (f' := (25, [some (.inr 192), some (.inl (i : Int)), some (.inl (v : Int)), none], [], [A0, A1, A2, A3, A4, A5, (modSeg re k f c n kp l tp le la td kt sh2 so (ha1.set v ((sh2.getD v 0) - (net p l v))) gr fi se to (p : Int) t d tl at_ sn him ik cu 0 st rm)])) rfl ?_
      refine aGo okX8_gladBy 2 (f' := (6, [some (.inr 192), some (.inl (i : Int)), some (.inl ((v : Int) + 1)), none], [], _)) rfl ?_
      exact ih (v + 1) _ (by omega) (by rw [List.length_set]; exact x1) (set_upto (i := v) (F := (hasM p k f c l t)) (by omega) (by rw [esh2 v (by omega)]; rfl) x2)
  exact lp p 0 had (by omega) hha (fun q hq => by omega)
set_option maxRecDepth 100000 in
set_option maxHeartbeats 4000000 in
theorem c_mShareIn (hb : bOK p k f c n kp l t d) (hsh : sh.length = 7) {i : Nat} (hi : i < p) {x : Int} (hx : 0 ≤ x ∧ x ≤ 35) : aEv mX8_shareIn 6 0 0 N [.inr 192, .inl (i : Int), .inl x] [A0, A1, A2, A3, A4, A5, (modSeg re k f c n kp l tp le la td kt sh so had gr fi se to (p : Int) t d tl at_ sn him ik cu 0 st rm)] ((fun rv h => rv = some (.inl (shr p k f (c.set i x) t i)) ∧ ∃ sh2 : List Int, sh2.length = 7 ∧ h = [A0, A1, A2, A3, A4, A5, (modSeg re k f c n kp l tp le la td kt sh2 so had gr fi se to (p : Int) t d tl at_ sn him ik cu 0 st rm)])) := by
  obtain ⟨hp7, hk, hf, hc, hn, hkp, hl, rk, rf, rc, rn, rkp, rl, ht0, ht1, hd0, hd1⟩ := id hb
  have rci := rc i
  refine aEv_of okX8_shareIn caX8_shareIn (Nat.le_of_ble_eq_true rfl) ?_
  refine aGo okX8_shareIn 3 (f' := (5, [some (.inr 192), some (.inl (i : Int)), some (.inl x), none], [.inl (i : Int), .inr 196], _)) rfl ?_
  refine b_ald (k := 196) (j := i) (a := c) okX8_shareIn rfl rfl (by omega) (by omega) (by omega) ?_
  refine aGo okX8_shareIn 5 (f' := (13, [some (.inr 192), some (.inl (i : Int)), some (.inl x), some (.inl (c.getD i 0))], [.inl x, .inl (i : Int), .inr 196], _)) rfl ?_
  refine b_ast (k := 196) (j := i) (a := c) okX8_shareIn rfl rfl (by omega) (by omega) (by omega) ?_
  refine b_cast (f' := (14, [some (.inr 192), some (.inl (i : Int)), some (.inl x), some (.inl (c.getD i 0))], [], [A0, A1, A2, A3, A4, A5, (modSeg re k f (c.set i x) n kp l tp le la td kt sh so had gr fi se to (p : Int) t d tl at_ sn him ik cu 0 st rm)])) rfl ?_
  refine aGo okX8_shareIn 1 (f' := (15, [some (.inr 192), some (.inl (i : Int)), some (.inl x), some (.inl (c.getD i 0))], [.inr 192], _)) rfl ?_
  refine b_vE (as := []) (rest := []) (k := 192) okX8_shareIn rfl lkX8_202 caX8_findShares (Nat.le_of_ble_eq_true rfl) rfl (Nat.le_of_ble_eq_true rfl) rfl rfl rfl (c_findShares (gH_c (gH_of hb (by omega)) (by omega) (by omega))) ?_
  rintro _ _ ⟨rfl, sh2, q1, q2, rfl⟩
  refine aGo okX8_shareIn 4 (f' := (24, [some (.inr 192), some (.inl (i : Int)), some (.inl x), some (.inl (c.getD i 0))], [.inl (c.getD i 0), .inl (i : Int), .inr 196], _)) rfl ?_
  refine b_ast (k := 196) (j := i) (a := c.set i x) okX8_shareIn rfl rfl (by omega) (by rw [List.length_set]; omega) (by omega) ?_
  refine b_cast (f' := (25, [some (.inr 192), some (.inl (i : Int)), some (.inl x), some (.inl (c.getD i 0))], [], [A0, A1, A2, A3, A4, A5, (modSeg re k f ((c.set i x).set i (c.getD i 0)) n kp l tp le la td kt sh2 so had gr fi se to (p : Int) t d tl at_ sn him ik cu 0 st rm)])) rfl ?_
  refine b_cast (f' := (25, [some (.inr 192), some (.inl (i : Int)), some (.inl x), some (.inl (c.getD i 0))], [], [A0, A1, A2, A3, A4, A5, (modSeg re k f c n kp l tp le la td kt sh2 so had gr fi se to (p : Int) t d tl at_ sn him ik cu 0 st rm)])) (by rw [set_back (by omega)]) ?_
  refine aGo okX8_shareIn 3 (f' := (30, [some (.inr 192), some (.inl (i : Int)), some (.inl x), some (.inl (c.getD i 0))], [.inl (i : Int), .inr 205], _)) rfl ?_
  refine b_ald (k := 205) (j := i) (a := sh2) okX8_shareIn rfl rfl (by omega) (by omega) (by omega) ?_
  exact b_ret (v := (some (.inl (sh2.getD i 0)))) ⟨rfl, Or.inl rfl⟩ ⟨congrArg (fun q : Int => (some (.inl q) : Option aV)) (q2 i hi), sh2, q1, rfl⟩ rfl
set_option maxRecDepth 100000 in
set_option maxHeartbeats 4000000 in
theorem c_surveyIn (hb : bOK p k f c n kp l t d) (hp6 : p ≤ 6) (hsh : sh.length = 7) (hkt : kt.length = 270) {x : Int} (hx : 0 ≤ x ∧ x ≤ 35) : aEv mX8_surveyIn 6 0 0 N [.inr 192, .inl x] [A0, A1, A2, A3, A4, A5, (modSeg re k f c n kp l tp le la td kt sh so had gr fi se to (p : Int) t d tl at_ sn him ik cu 0 st rm)] ((fun rv h => rv = some (.inl (t - shr (p + 1) (k.set p 0) (f.set p 0) (c.set p x) t p)) ∧ ∃ kt2 sh2 : List Int, kt2.length = 270 ∧ sh2.length = 7 ∧ (∀ j, j < 180 → kt2.getD j 0 = kt.getD j 0) ∧ h = [A0, A1, A2, A3, A4, A5, (modSeg re k f c n kp l tp le la td kt2 sh2 so had gr fi se to (p : Int) t d tl at_ sn him 0 267 0 st rm)])) := by
  obtain ⟨hp7, hk, hf, hc, hn, hkp, hl, rk, rf, rc, rn, rkp, rl, ht0, ht1, hd0, hd1⟩ := id hb
  refine aEv_of okX8_surveyIn caX8_surveyIn (Nat.le_of_ble_eq_true rfl) ?_
  refine aGo okX8_surveyIn 1 (f' := (1, [some (.inr 192), some (.inl x), none, none], [.inr 192], _)) rfl ?_
  refine b_vE (as := []) (rest := []) (k := 192) okX8_surveyIn rfl lkX8_214 caX8_thinks (Nat.le_of_ble_eq_true rfl) rfl (Nat.le_of_ble_eq_true rfl) rfl rfl rfl (c_thinks hb hkt) ?_
  rintro _ _ ⟨rfl, kt2, hkt2, hh2, he2, rfl⟩
  refine aGo okX8_surveyIn 8 (f' := (14, [some (.inr 192), some (.inl x), some (.inl (p : Int)), none], [.inl 0, .inl x, .inl 0, .inl 0, .inr 192], _)) rfl ?_
  refine b_vE (as := [.inl 0, .inl 0, .inl x, .inl 0]) (rest := []) (k := 192) okX8_surveyIn rfl lkX8_120 caX8_adds (Nat.le_of_ble_eq_true rfl) rfl (Nat.le_of_ble_eq_true rfl) rfl rfl rfl (c_adds (x := 0) (y := 0) (z := x) (v := 0) hp6 hk hf hc hn hkp hl) ?_
  rintro _ _ ⟨rfl, rfl⟩
  refine aGo okX8_surveyIn 1 (f' := (18, [some (.inr 192), some (.inl x), some (.inl (p : Int)), none], [.inr 192], _)) rfl ?_
  refine b_vE (as := []) (rest := []) (k := 192) okX8_surveyIn rfl lkX8_202 caX8_findShares (Nat.le_of_ble_eq_true rfl) rfl (Nat.le_of_ble_eq_true rfl) rfl rfl rfl (c_findShares (gH_add hp6 (gH_of hb (by omega)) (by omega) (by omega) (by omega))) ?_
  rintro _ _ ⟨rfl, sh2, q1, q2, rfl⟩
  refine aGo okX8_surveyIn 2 (f' := (23, [some (.inr 192), some (.inl x), some (.inl (p : Int)), none], [.inl (p : Int), .inr 192], _)) rfl ?_
  refine b_vE (as := [.inl (p : Int)]) (rest := []) (k := 192) okX8_surveyIn rfl lkX8_232 caX8_sharesOfFirst (Nat.le_of_ble_eq_true rfl) rfl (Nat.le_of_ble_eq_true rfl) rfl rfl rfl (c_sharesOfFirst (by omega) q1 (m := p) (by omega)) ?_
  rintro _ _ ⟨rfl, rfl⟩
  refine aGo okX8_surveyIn 2 (f' := (28, [some (.inr 192), some (.inl x), some (.inl (p : Int)), some (.inl (sumN p (fun q => sh2.getD q 0)))], [.inr 192], _)) rfl ?_
  refine b_vE (as := []) (rest := []) (k := 192) okX8_surveyIn rfl lkX8_220 caX8_forgets (Nat.le_of_ble_eq_true rfl) rfl (Nat.le_of_ble_eq_true rfl) rfl rfl rfl (c_forgets (by rw [List.length_set]; exact hk) (by rw [List.length_set]; exact hf) (by rw [List.length_set]; exact hc) (by rw [List.length_set]; exact hn) (by rw [List.length_set]; exact hkp) (by rw [addL_len]; exact hl) hk hf hc hn hkp hl hkt2 hh2) ?_
  rintro _ _ ⟨rfl, rfl⟩
  refine aGo okX8_surveyIn 1 (f' := (32, [some (.inr 192), some (.inl x), some (.inl (p : Int)), some (.inl (sumN p (fun q => sh2.getD q 0)))], [.inl (sumN p (fun q => sh2.getD q 0))], _)) rfl ?_
  exact b_ret (v := (some (.inl (sumN p (fun q => sh2.getD q 0))))) ⟨rfl, Or.inl rfl⟩ ⟨congrArg (fun q : Int => (some (.inl q) : Option aV)) (by rw [sumN_congr (fun q (hq : q < p) => q2 q (by omega))]; have e9 := shr_sum (p := p + 1) (k := k.set p 0) (f := f.set p 0) (c := c.set p x) (t := t) (by omega) (by omega) (rng_set rf (by omega) (by omega)) (rng_set rc (by omega) (by omega)); simp only [sumN] at e9; omega), kt2, sh2, hkt2, q1, he2, rfl⟩ rfl
set_option maxRecDepth 100000 in
set_option maxHeartbeats 4000000 in
theorem c_overOf (hb : bOK p k f c n kp l t d) (hsh : sh.length = 7) (hS : ∀ q, q < p → sh.getD q 0 = shr p k f c t q) {i : Nat} (hi : i < p) : aEv mX8_overOf 4 0 0 N [.inr 192, .inl (i : Int)] [A0, A1, A2, A3, A4, A5, (modSeg re k f c n kp l tp le la td kt sh so had gr fi se to (p : Int) t d tl at_ sn him ik cu 0 st rm)] (aQx (some (.inl (sprV p k f c n l t i))) [A0, A1, A2, A3, A4, A5, (modSeg re k f c n kp l tp le la td kt sh so had gr fi se to (p : Int) t d tl at_ sn him ik cu 0 st rm)]) := by
  obtain ⟨hp7, hk, hf, hc, hn, hkp, hl, rk, rf, rc, rn, rkp, rl, ht0, ht1, hd0, hd1⟩ := id hb
  have e1 := shr_le (k := k) hp7 rf rc ⟨ht0, ht1⟩ hi
  have e2 := net_le hp7 rl i
  have e3 := rn i
  have e4 := hS i hi
  refine aEv_of okX8_overOf caX8_overOf (Nat.le_of_ble_eq_true rfl) ?_
  refine aGo okX8_overOf 2 (f' := (2, [some (.inr 192), some (.inl (i : Int))], [.inl (i : Int), .inr 192], _)) rfl ?_
  refine b_vV (as := [.inl (i : Int)]) (rest := []) (k := 192) (.inl ((sh.getD i 0) - (net p l i))) okX8_overOf rfl lkX8_208 caX8_hasNow (Nat.le_of_ble_eq_true rfl) rfl (Nat.le_of_ble_eq_true rfl) rfl rfl rfl (c_hasNow0 hp7 hl hsh (i := i) (by omega)) ?_
  refine aGo okX8_overOf 3 (f' := (10, [some (.inr 192), some (.inl (i : Int))], [.inl (i : Int), .inr 197, .inl ((sh.getD i 0) - (net p l i))], _)) rfl ?_
  refine b_ald (k := 197) (j := i) (a := n) okX8_overOf rfl rfl (by omega) (by omega) (by omega) ?_
  refine aGo okX8_overOf 2 (f' := (13, [some (.inr 192), some (.inl (i : Int))], [.inl 0, .inl (((sh.getD i 0) - (net p l i)) - (n.getD i 0))], _)) rfl ?_
  refine b_vS (as := [.inl (((sh.getD i 0) - (net p l i)) - (n.getD i 0)), .inl 0]) (rest := []) (.inl (max 0 (((sh.getD i 0) - (net p l i)) - (n.getD i 0)))) okX8_overOf rfl lkX8_184 caX8_atLeast (Nat.le_of_ble_eq_true rfl) rfl (Nat.le_of_ble_eq_true rfl) rfl (c_atLeast ⟨by omega, by omega⟩ ⟨by omega, by omega⟩) ?_
  exact b_ret (v := (some (.inl (max 0 (((sh.getD i 0) - (net p l i)) - (n.getD i 0)))))) ⟨rfl, Or.inl rfl⟩ ⟨congrArg (fun q : Int => (some (.inl q) : Option aV)) (by unfold sprV hasM; rw [← hS i hi]), rfl⟩ rfl
set_option maxRecDepth 100000 in
set_option maxHeartbeats 4000000 in
theorem c_lackOf (hb : bOK p k f c n kp l t d) (hsh : sh.length = 7) (hS : ∀ q, q < p → sh.getD q 0 = shr p k f c t q) {i : Nat} (hi : i < p) : aEv mX8_lackOf 4 0 0 N [.inr 192, .inl (i : Int)] [A0, A1, A2, A3, A4, A5, (modSeg re k f c n kp l tp le la td kt sh so had gr fi se to (p : Int) t d tl at_ sn him ik cu 0 st rm)] (aQx (some (.inl (lckV p k f c n l t i))) [A0, A1, A2, A3, A4, A5, (modSeg re k f c n kp l tp le la td kt sh so had gr fi se to (p : Int) t d tl at_ sn him ik cu 0 st rm)]) := by
  obtain ⟨hp7, hk, hf, hc, hn, hkp, hl, rk, rf, rc, rn, rkp, rl, ht0, ht1, hd0, hd1⟩ := id hb
  have e1 := shr_le (k := k) hp7 rf rc ⟨ht0, ht1⟩ hi
  have e2 := net_le hp7 rl i
  have e3 := rn i
  have e4 := hS i hi
  refine aEv_of okX8_lackOf caX8_lackOf (Nat.le_of_ble_eq_true rfl) ?_
  refine aGo okX8_lackOf 3 (f' := (5, [some (.inr 192), some (.inl (i : Int))], [.inl (i : Int), .inr 197], _)) rfl ?_
  refine b_ald (k := 197) (j := i) (a := n) okX8_lackOf rfl rfl (by omega) (by omega) (by omega) ?_
  refine aGo okX8_lackOf 2 (f' := (8, [some (.inr 192), some (.inl (i : Int))], [.inl (i : Int), .inr 192, .inl (n.getD i 0)], _)) rfl ?_
  refine b_vV (as := [.inl (i : Int)]) (rest := [.inl (n.getD i 0)]) (k := 192) (.inl ((sh.getD i 0) - (net p l i))) okX8_lackOf rfl lkX8_208 caX8_hasNow (Nat.le_of_ble_eq_true rfl) rfl (Nat.le_of_ble_eq_true rfl) rfl rfl rfl (c_hasNow0 hp7 hl hsh (i := i) (by omega)) ?_
  refine aGo okX8_lackOf 2 (f' := (13, [some (.inr 192), some (.inl (i : Int))], [.inl 0, .inl ((n.getD i 0) - ((sh.getD i 0) - (net p l i)))], _)) rfl ?_
  refine b_vS (as := [.inl ((n.getD i 0) - ((sh.getD i 0) - (net p l i))), .inl 0]) (rest := []) (.inl (max 0 ((n.getD i 0) - ((sh.getD i 0) - (net p l i))))) okX8_lackOf rfl lkX8_184 caX8_atLeast (Nat.le_of_ble_eq_true rfl) rfl (Nat.le_of_ble_eq_true rfl) rfl (c_atLeast ⟨by omega, by omega⟩ ⟨by omega, by omega⟩) ?_
  exact b_ret (v := (some (.inl (max 0 ((n.getD i 0) - ((sh.getD i 0) - (net p l i))))))) ⟨rfl, Or.inl rfl⟩ ⟨congrArg (fun q : Int => (some (.inl q) : Option aV)) (by unfold lckV hasM; rw [← hS i hi]; congr 1; omega), rfl⟩ rfl
set_option maxRecDepth 100000 in
set_option maxHeartbeats 4000000 in
theorem c_nearOne_t (hb : bOK p k f c n kp l t d) (hsh : sh.length = 7) (hS : ∀ q, q < p → sh.getD q 0 = shr p k f c t q) {i x : Nat} {y : Int} (hi : i < 7) (hx : x < 64) (hp6 : p ≤ 6) (hy : 0 ≤ y ∧ y ≤ 10) (h : nrM p (lckV p k f c n l t) c y x i = true) : aEv mX8_isNearOne 5 0 0 N [.inr 192, .inl (i : Int), .inl (x : Int), .inl y] [A0, A1, A2, A3, A4, A5, (modSeg re k f c n kp l tp le la td kt sh so had gr fi se to (p : Int) t d tl at_ sn him ik cu 0 st rm)] ((aQx (some (.inl 1)) [A0, A1, A2, A3, A4, A5, (modSeg re k f c n kp l tp le la td kt sh so had gr fi se to (p : Int) t d tl at_ sn him ik cu 0 st rm)])) := by
  obtain ⟨hp7, hk, hf, hc, hn, hkp, hl, rk, rf, rc, rn, rkp, rl, ht0, ht1, hd0, hd1⟩ := id hb
  refine aEv_of okX8_isNearOne caX8_isNearOne (Nat.le_of_ble_eq_true rfl) ?_
  have lp : ∀ (j v : Nat), v + j = p → (∃ e, v ≤ e ∧ e < p ∧ x.testBit e = true ∧ 0 < (lckV p k f c n l t) e ∧ stp (c.getD i 0) (c.getD e 0) ≤ y) → AW mX8_isNearOne 5 0 0 N none (aQx (some (.inl 1)) [A0, A1, A2, A3, A4, A5, (modSeg re k f c n kp l tp le la td kt sh so had gr fi se to (p : Int) t d tl at_ sn him ik cu 0 st rm)]) (3, [some (.inr 192), some (.inl (i : Int)), some (.inl (x : Int)), some (.inl y), some (.inl (v : Int))], [], [A0, A1, A2, A3, A4, A5, (modSeg re k f c n kp l tp le la td kt sh so had gr fi se to (p : Int) t d tl at_ sn him ik cu 0 st rm)]) := by
    intro j
    induction j with
    | zero =>
      intro v  hij h1
      obtain ⟨w, g1, g2, g3⟩ := h1
      omega
    | succ j ih =>
      intro v  hij h1
      have e1 := stp_le (rc i) (rc v)
      have e2 := rc i
      have e3 := rc v
      have e4 := (sprV_le (k := k) hp7 rf rc rn rl ⟨ht0, ht1⟩ (q := v) (by omega))
      refine aGo okX8_isNearOne 3 (f' := (9, [some (.inr 192), some (.inl (i : Int)), some (.inl (x : Int)), some (.inl y), some (.inl (v : Int))], [.inl (p : Int), .inl (v : Int)], _)) rfl ?_
      refine b_ge (tgt := 58) okX8_isNearOne rfl rfl ⟨by omega, by omega⟩ ⟨by omega, by omega⟩ (fun h9 => absurd h9 (by omega)) (fun h9 => ?_)
      refine aGo okX8_isNearOne 2 (f' := (15, [some (.inr 192), some (.inl (i : Int)), some (.inl (x : Int)), some (.inl y), some (.inl (v : Int))], [.inl (v : Int), .inl (x : Int)], _)) rfl ?_
      by_cases hc15 : x.testBit v = true
      · refine b_vS (as := [.inl (x : Int), .inl (v : Int)]) (rest := []) (.inl 1) okX8_isNearOne rfl lkX8_175 caX8_has (Nat.le_of_ble_eq_true rfl) rfl (Nat.le_of_ble_eq_true rfl) rfl (c_has_t (by rw [shr_bit x (by omega) v (by omega), hc15]; rfl)) ?_
        refine b0_eq (tgt := 52) okX8_isNearOne rfl rfl ⟨by omega, by omega⟩ (fun h18 => absurd h18 (by omega)) (fun h18 => ?_)
        refine aGo okX8_isNearOne 2 (f' := (24, [some (.inr 192), some (.inl (i : Int)), some (.inl (x : Int)), some (.inl y), some (.inl (v : Int))], [.inl (v : Int), .inr 192], _)) rfl ?_
        refine b_vV (as := [.inl (v : Int)]) (rest := []) (k := 192) (.inl (lckV p k f c n l t v)) okX8_isNearOne rfl lkX8_238 caX8_lackOf (Nat.le_of_ble_eq_true rfl) rfl (Nat.le_of_ble_eq_true rfl) rfl rfl rfl (c_lackOf hb hsh hS (i := v) (by omega)) ?_
        refine b0_le (tgt := 52) okX8_isNearOne rfl rfl ⟨by omega, by omega⟩ (fun h27 => ?_) (fun h27 => ?_)
        · refine aGo okX8_isNearOne 2 (f' := (3, [some (.inr 192), some (.inl (i : Int)), some (.inl (x : Int)), some (.inl y), some (.inl ((v : Int) + 1))], [], _)) rfl ?_
          exact ih (v + 1) (by omega) (by
            obtain ⟨e, g1, g2, g3, g4, g5⟩ := h1
            refine ⟨e, ?_, g2, g3, g4, g5⟩
            by_cases hw : e = v
            · subst hw; first | exact absurd g3 hc15 | omega
            · omega)
        · refine aGo okX8_isNearOne 3 (f' := (35, [some (.inr 192), some (.inl (i : Int)), some (.inl (x : Int)), some (.inl y), some (.inl (v : Int))], [.inl (i : Int), .inr 196], _)) rfl ?_
          refine b_ald (k := 196) (j := i) (a := c) okX8_isNearOne rfl rfl (by omega) (by omega) (by omega) ?_
          refine aGo okX8_isNearOne 3 (f' := (42, [some (.inr 192), some (.inl (i : Int)), some (.inl (x : Int)), some (.inl y), some (.inl (v : Int))], [.inl (v : Int), .inr 196, .inl (c.getD i 0)], _)) rfl ?_
          refine b_ald (k := 196) (j := v) (a := c) okX8_isNearOne rfl rfl (by omega) (by omega) (by omega) ?_
          refine b_vS (as := [.inl (c.getD i 0), .inl (c.getD v 0)]) (rest := []) (.inl (stp (c.getD i 0) (c.getD v 0))) okX8_isNearOne rfl lkX8_181 caX8_steps (Nat.le_of_ble_eq_true rfl) rfl (Nat.le_of_ble_eq_true rfl) rfl (c_mSteps ⟨by omega, by omega⟩ ⟨by omega, by omega⟩) ?_
          refine aGo okX8_isNearOne 1 (f' := (47, [some (.inr 192), some (.inl (i : Int)), some (.inl (x : Int)), some (.inl y), some (.inl (v : Int))], [.inl y, .inl (stp (c.getD i 0) (c.getD v 0))], _)) rfl ?_
          refine b_gt (tgt := 52) okX8_isNearOne rfl rfl ⟨by omega, by omega⟩ ⟨by omega, by omega⟩ (fun h47 => ?_) (fun h47 => ?_)
          · refine aGo okX8_isNearOne 2 (f' := (3, [some (.inr 192), some (.inl (i : Int)), some (.inl (x : Int)), some (.inl y), some (.inl ((v : Int) + 1))], [], _)) rfl ?_
            exact ih (v + 1) (by omega) (by
              obtain ⟨e, g1, g2, g3, g4, g5⟩ := h1
              refine ⟨e, ?_, g2, g3, g4, g5⟩
              by_cases hw : e = v
              · subst hw; first | exact absurd g3 hc15 | omega
              · omega)
          · refine aGo okX8_isNearOne 1 (f' := (51, [some (.inr 192), some (.inl (i : Int)), some (.inl (x : Int)), some (.inl y), some (.inl (v : Int))], [.inl 1], _)) rfl ?_
            exact b_ret (v := (some (.inl 1))) ⟨rfl, Or.inr ⟨rfl, Or.inr rfl⟩⟩ ⟨rfl, rfl⟩ rfl
      · refine b_vS (as := [.inl (x : Int), .inl (v : Int)]) (rest := []) (.inl 0) okX8_isNearOne rfl lkX8_175 caX8_has (Nat.le_of_ble_eq_true rfl) rfl (Nat.le_of_ble_eq_true rfl) rfl (c_has_f (by rw [shr_bit x (by omega) v (by omega), if_neg hc15])) ?_
        refine b0_eq (tgt := 52) okX8_isNearOne rfl rfl ⟨by omega, by omega⟩ (fun h18 => ?_) (fun h18 => absurd h18 (by omega))
        refine aGo okX8_isNearOne 2 (f' := (3, [some (.inr 192), some (.inl (i : Int)), some (.inl (x : Int)), some (.inl y), some (.inl ((v : Int) + 1))], [], _)) rfl ?_
        exact ih (v + 1) (by omega) (by
          obtain ⟨e, g1, g2, g3, g4, g5⟩ := h1
          refine ⟨e, ?_, g2, g3, g4, g5⟩
          by_cases hw : e = v
          · subst hw; first | exact absurd g3 hc15 | omega
          · omega)
  refine aGo okX8_isNearOne 2 (f' := (3, [some (.inr 192), some (.inl (i : Int)), some (.inl (x : Int)), some (.inl y), some (.inl 0)], [], _)) rfl ?_
  exact lp p 0 (by omega) (by obtain ⟨e, g1, g2⟩ := nrM_iff.mp h; exact ⟨e, Nat.zero_le e, g1, g2⟩)
set_option maxRecDepth 100000 in
set_option maxHeartbeats 4000000 in
theorem c_nearOne_f (hb : bOK p k f c n kp l t d) (hsh : sh.length = 7) (hS : ∀ q, q < p → sh.getD q 0 = shr p k f c t q) {i x : Nat} {y : Int} (hi : i < 7) (hx : x < 64) (hp6 : p ≤ 6) (hy : 0 ≤ y ∧ y ≤ 10) (h : nrM p (lckV p k f c n l t) c y x i = false) : aEv mX8_isNearOne 5 0 0 N [.inr 192, .inl (i : Int), .inl (x : Int), .inl y] [A0, A1, A2, A3, A4, A5, (modSeg re k f c n kp l tp le la td kt sh so had gr fi se to (p : Int) t d tl at_ sn him ik cu 0 st rm)] ((aQx (some (.inl 0)) [A0, A1, A2, A3, A4, A5, (modSeg re k f c n kp l tp le la td kt sh so had gr fi se to (p : Int) t d tl at_ sn him ik cu 0 st rm)])) := by
  obtain ⟨hp7, hk, hf, hc, hn, hkp, hl, rk, rf, rc, rn, rkp, rl, ht0, ht1, hd0, hd1⟩ := id hb
  have h2 : ∀ e, e < p → x.testBit e = true → 0 < (lckV p k f c n l t) e → ¬ stp (c.getD i 0) (c.getD e 0) ≤ y := fun e h1 h3 h4 h5 => by have h6 := nrM_iff.mpr ⟨e, h1, h3, h4, h5⟩; rw [h] at h6; cases h6
  refine aEv_of okX8_isNearOne caX8_isNearOne (Nat.le_of_ble_eq_true rfl) ?_
  have lp : ∀ (j v : Nat), v + j = p → AW mX8_isNearOne 5 0 0 N none (aQx (some (.inl 0)) [A0, A1, A2, A3, A4, A5, (modSeg re k f c n kp l tp le la td kt sh so had gr fi se to (p : Int) t d tl at_ sn him ik cu 0 st rm)]) (3, [some (.inr 192), some (.inl (i : Int)), some (.inl (x : Int)), some (.inl y), some (.inl (v : Int))], [], [A0, A1, A2, A3, A4, A5, (modSeg re k f c n kp l tp le la td kt sh so had gr fi se to (p : Int) t d tl at_ sn him ik cu 0 st rm)]) := by
    intro j
    induction j with
    | zero =>
      intro v  hij 
      obtain rfl : p = v := by omega
      refine aGo okX8_isNearOne 3 (f' := (9, [some (.inr 192), some (.inl (i : Int)), some (.inl (x : Int)), some (.inl y), some (.inl (p : Int))], [.inl (p : Int), .inl (p : Int)], _)) rfl ?_
      refine b_ge (tgt := 58) okX8_isNearOne rfl rfl ⟨by omega, by omega⟩ ⟨by omega, by omega⟩ (fun h9 => ?_) (fun h9 => absurd h9 (by omega))
      refine aGo okX8_isNearOne 1 (f' := (59, [some (.inr 192), some (.inl (i : Int)), some (.inl (x : Int)), some (.inl y), some (.inl (p : Int))], [.inl 0], _)) rfl ?_
      exact b_ret (v := (some (.inl 0))) ⟨rfl, Or.inr ⟨rfl, Or.inl rfl⟩⟩ ⟨rfl, rfl⟩ rfl
    | succ j ih =>
      intro v  hij 
      have e1 := stp_le (rc i) (rc v)
      have e2 := rc i
      have e3 := rc v
      have e4 := (sprV_le (k := k) hp7 rf rc rn rl ⟨ht0, ht1⟩ (q := v) (by omega))
      refine aGo okX8_isNearOne 3 (f' := (9, [some (.inr 192), some (.inl (i : Int)), some (.inl (x : Int)), some (.inl y), some (.inl (v : Int))], [.inl (p : Int), .inl (v : Int)], _)) rfl ?_
      refine b_ge (tgt := 58) okX8_isNearOne rfl rfl ⟨by omega, by omega⟩ ⟨by omega, by omega⟩ (fun h9 => absurd h9 (by omega)) (fun h9 => ?_)
      refine aGo okX8_isNearOne 2 (f' := (15, [some (.inr 192), some (.inl (i : Int)), some (.inl (x : Int)), some (.inl y), some (.inl (v : Int))], [.inl (v : Int), .inl (x : Int)], _)) rfl ?_
      by_cases hc15 : x.testBit v = true
      · refine b_vS (as := [.inl (x : Int), .inl (v : Int)]) (rest := []) (.inl 1) okX8_isNearOne rfl lkX8_175 caX8_has (Nat.le_of_ble_eq_true rfl) rfl (Nat.le_of_ble_eq_true rfl) rfl (c_has_t (by rw [shr_bit x (by omega) v (by omega), hc15]; rfl)) ?_
        refine b0_eq (tgt := 52) okX8_isNearOne rfl rfl ⟨by omega, by omega⟩ (fun h18 => absurd h18 (by omega)) (fun h18 => ?_)
        refine aGo okX8_isNearOne 2 (f' := (24, [some (.inr 192), some (.inl (i : Int)), some (.inl (x : Int)), some (.inl y), some (.inl (v : Int))], [.inl (v : Int), .inr 192], _)) rfl ?_
        refine b_vV (as := [.inl (v : Int)]) (rest := []) (k := 192) (.inl (lckV p k f c n l t v)) okX8_isNearOne rfl lkX8_238 caX8_lackOf (Nat.le_of_ble_eq_true rfl) rfl (Nat.le_of_ble_eq_true rfl) rfl rfl rfl (c_lackOf hb hsh hS (i := v) (by omega)) ?_
        refine b0_le (tgt := 52) okX8_isNearOne rfl rfl ⟨by omega, by omega⟩ (fun h27 => ?_) (fun h27 => ?_)
        · refine aGo okX8_isNearOne 2 (f' := (3, [some (.inr 192), some (.inl (i : Int)), some (.inl (x : Int)), some (.inl y), some (.inl ((v : Int) + 1))], [], _)) rfl ?_
          exact ih (v + 1) (by omega)
        · refine aGo okX8_isNearOne 3 (f' := (35, [some (.inr 192), some (.inl (i : Int)), some (.inl (x : Int)), some (.inl y), some (.inl (v : Int))], [.inl (i : Int), .inr 196], _)) rfl ?_
          refine b_ald (k := 196) (j := i) (a := c) okX8_isNearOne rfl rfl (by omega) (by omega) (by omega) ?_
          refine aGo okX8_isNearOne 3 (f' := (42, [some (.inr 192), some (.inl (i : Int)), some (.inl (x : Int)), some (.inl y), some (.inl (v : Int))], [.inl (v : Int), .inr 196, .inl (c.getD i 0)], _)) rfl ?_
          refine b_ald (k := 196) (j := v) (a := c) okX8_isNearOne rfl rfl (by omega) (by omega) (by omega) ?_
          refine b_vS (as := [.inl (c.getD i 0), .inl (c.getD v 0)]) (rest := []) (.inl (stp (c.getD i 0) (c.getD v 0))) okX8_isNearOne rfl lkX8_181 caX8_steps (Nat.le_of_ble_eq_true rfl) rfl (Nat.le_of_ble_eq_true rfl) rfl (c_mSteps ⟨by omega, by omega⟩ ⟨by omega, by omega⟩) ?_
          refine aGo okX8_isNearOne 1 (f' := (47, [some (.inr 192), some (.inl (i : Int)), some (.inl (x : Int)), some (.inl y), some (.inl (v : Int))], [.inl y, .inl (stp (c.getD i 0) (c.getD v 0))], _)) rfl ?_
          refine b_gt (tgt := 52) okX8_isNearOne rfl rfl ⟨by omega, by omega⟩ ⟨by omega, by omega⟩ (fun h47 => ?_) (fun h47 => absurd h47 (by have := h2 v (by omega) hc15 (by omega); omega))
          refine aGo okX8_isNearOne 2 (f' := (3, [some (.inr 192), some (.inl (i : Int)), some (.inl (x : Int)), some (.inl y), some (.inl ((v : Int) + 1))], [], _)) rfl ?_
          exact ih (v + 1) (by omega)
      · refine b_vS (as := [.inl (x : Int), .inl (v : Int)]) (rest := []) (.inl 0) okX8_isNearOne rfl lkX8_175 caX8_has (Nat.le_of_ble_eq_true rfl) rfl (Nat.le_of_ble_eq_true rfl) rfl (c_has_f (by rw [shr_bit x (by omega) v (by omega), if_neg hc15])) ?_
        refine b0_eq (tgt := 52) okX8_isNearOne rfl rfl ⟨by omega, by omega⟩ (fun h18 => ?_) (fun h18 => absurd h18 (by omega))
        refine aGo okX8_isNearOne 2 (f' := (3, [some (.inr 192), some (.inl (i : Int)), some (.inl (x : Int)), some (.inl y), some (.inl ((v : Int) + 1))], [], _)) rfl ?_
        exact ih (v + 1) (by omega)
  refine aGo okX8_isNearOne 2 (f' := (3, [some (.inr 192), some (.inl (i : Int)), some (.inl (x : Int)), some (.inl y), some (.inl 0)], [], _)) rfl ?_
  exact lp p 0 (by omega)
set_option maxRecDepth 100000 in
set_option maxHeartbeats 4000000 in
theorem c_mCutBy (hb : bOK p k f c n kp l t d) (hsh : sh.length = 7) (hS : ∀ q, q < p → sh.getD q 0 = shr p k f c t q) {x : Nat} {y : Int} (hx : x < 64) (hp6 : p ≤ 6) (hy : 0 ≤ y ∧ y ≤ 10) : aEv mX8_cutBy 6 0 0 N [.inr 192, .inl (x : Int), .inl y] [A0, A1, A2, A3, A4, A5, (modSeg re k f c n kp l tp le la td kt sh so had gr fi se to (p : Int) t d tl at_ sn him ik cu 0 st rm)] ((aQx (some (.inl (sumN p (cuM p (sprV p k f c n l t) (lckV p k f c n l t) c y x)))) [A0, A1, A2, A3, A4, A5, (modSeg re k f c n kp l tp le la td kt sh so had gr fi se to (p : Int) t d tl at_ sn him ik cu 0 st rm)])) := by
  obtain ⟨hp7, hk, hf, hc, hn, hkp, hl, rk, rf, rc, rn, rkp, rl, ht0, ht1, hd0, hd1⟩ := id hb
  refine aEv_of okX8_cutBy caX8_cutBy (Nat.le_of_ble_eq_true rfl) ?_
  have lp : ∀ (j v : Nat), v + j = p → AW mX8_cutBy 6 0 0 N none (aQx (some (.inl (sumN p (cuM p (sprV p k f c n l t) (lckV p k f c n l t) c y x)))) [A0, A1, A2, A3, A4, A5, (modSeg re k f c n kp l tp le la td kt sh so had gr fi se to (p : Int) t d tl at_ sn him ik cu 0 st rm)]) (5, [some (.inr 192), some (.inl (x : Int)), some (.inl y), some (.inl (sumN v (cuM p (sprV p k f c n l t) (lckV p k f c n l t) c y x))), some (.inl (v : Int))], [], [A0, A1, A2, A3, A4, A5, (modSeg re k f c n kp l tp le la td kt sh so had gr fi se to (p : Int) t d tl at_ sn him ik cu 0 st rm)]) := by
    intro j
    induction j with
    | zero =>
      intro v  hij 
      obtain rfl : p = v := by omega
      refine aGo okX8_cutBy 3 (f' := (11, [some (.inr 192), some (.inl (x : Int)), some (.inl y), some (.inl (sumN p (cuM p (sprV p k f c n l t) (lckV p k f c n l t) c y x))), some (.inl (p : Int))], [.inl (p : Int), .inl (p : Int)], _)) rfl ?_
      refine b_ge (tgt := 66) okX8_cutBy rfl rfl ⟨by omega, by omega⟩ ⟨by omega, by omega⟩ (fun h11 => ?_) (fun h11 => absurd h11 (by omega))
      refine aGo okX8_cutBy 1 (f' := (67, [some (.inr 192), some (.inl (x : Int)), some (.inl y), some (.inl (sumN p (cuM p (sprV p k f c n l t) (lckV p k f c n l t) c y x))), some (.inl (p : Int))], [.inl (sumN p (cuM p (sprV p k f c n l t) (lckV p k f c n l t) c y x))], _)) rfl ?_
      exact b_ret (v := (some (.inl (sumN p (cuM p (sprV p k f c n l t) (lckV p k f c n l t) c y x))))) ⟨rfl, Or.inl rfl⟩ ⟨rfl, rfl⟩ rfl
    | succ j ih =>
      intro v  hij 
      refine aGo okX8_cutBy 3 (f' := (11, [some (.inr 192), some (.inl (x : Int)), some (.inl y), some (.inl (sumN v (cuM p (sprV p k f c n l t) (lckV p k f c n l t) c y x))), some (.inl (v : Int))], [.inl (p : Int), .inl (v : Int)], _)) rfl ?_
      refine b_ge (tgt := 66) okX8_cutBy rfl rfl ⟨by omega, by omega⟩ ⟨by omega, by omega⟩ (fun h11 => absurd h11 (by omega)) (fun h11 => ?_)
      refine aGo okX8_cutBy 3 (f' := (18, [some (.inr 192), some (.inl (x : Int)), some (.inl y), some (.inl (sumN v (cuM p (sprV p k f c n l t) (lckV p k f c n l t) c y x))), some (.inl (v : Int))], [.inl (v : Int), .inl (x : Int), .inl (sumN v (cuM p (sprV p k f c n l t) (lckV p k f c n l t) c y x))], _)) rfl ?_
      by_cases hc18 : x.testBit v = true
      · refine b_vS (as := [.inl (x : Int), .inl (v : Int)]) (rest := [.inl (sumN v (cuM p (sprV p k f c n l t) (lckV p k f c n l t) c y x))]) (.inl 1) okX8_cutBy rfl lkX8_175 caX8_has (Nat.le_of_ble_eq_true rfl) rfl (Nat.le_of_ble_eq_true rfl) rfl (c_has_t (by rw [shr_bit x (by omega) v (by omega), hc18]; rfl)) ?_
        refine b0_eq (tgt := 28) okX8_cutBy rfl rfl ⟨by omega, by omega⟩ (fun h21 => absurd h21 (by omega)) (fun h21 => ?_)
        refine aGo okX8_cutBy 9 (f' := (42, [some (.inr 192), some (.inl (x : Int)), some (.inl y), some (.inl ((sumN v (cuM p (sprV p k f c n l t) (lckV p k f c n l t) c y x)) + 0)), some (.inl (v : Int))], [.inl y, .inl (x : Int), .inl (v : Int), .inr 192, .inl ((sumN v (cuM p (sprV p k f c n l t) (lckV p k f c n l t) c y x)) + 0)], _)) rfl ?_
        by_cases hc42 : nrM p (lckV p k f c n l t) c y x v = true
        · refine b_vE (as := [.inl (v : Int), .inl (x : Int), .inl y]) (rest := [.inl ((sumN v (cuM p (sprV p k f c n l t) (lckV p k f c n l t) c y x)) + 0)]) (k := 192) okX8_cutBy rfl lkX8_241 caX8_isNearOne (Nat.le_of_ble_eq_true rfl) rfl (Nat.le_of_ble_eq_true rfl) rfl rfl rfl (c_nearOne_t hb hsh hS (by omega) hx hp6 hy hc42) ?_
          rintro _ _ ⟨rfl, rfl⟩
          refine b0_eq (tgt := 57) okX8_cutBy rfl rfl ⟨by omega, by omega⟩ (fun h45 => absurd h45 (by omega)) (fun h45 => ?_)
          refine aGo okX8_cutBy 2 (f' := (51, [some (.inr 192), some (.inl (x : Int)), some (.inl y), some (.inl ((sumN v (cuM p (sprV p k f c n l t) (lckV p k f c n l t) c y x)) + 0)), some (.inl (v : Int))], [.inl (v : Int), .inr 192, .inl ((sumN v (cuM p (sprV p k f c n l t) (lckV p k f c n l t) c y x)) + 0)], _)) rfl ?_
          refine b_vV (as := [.inl (v : Int)]) (rest := [.inl ((sumN v (cuM p (sprV p k f c n l t) (lckV p k f c n l t) c y x)) + 0)]) (k := 192) (.inl (sprV p k f c n l t v)) okX8_cutBy rfl lkX8_244 caX8_overOf (Nat.le_of_ble_eq_true rfl) rfl (Nat.le_of_ble_eq_true rfl) rfl rfl rfl (c_overOf hb hsh hS (i := v) (by omega)) ?_
          refine aGo okX8_cutBy 5 (f' := (5, [some (.inr 192), some (.inl (x : Int)), some (.inl y), some (.inl (((sumN v (cuM p (sprV p k f c n l t) (lckV p k f c n l t) c y x)) + 0) + (sprV p k f c n l t v))), some (.inl ((v : Int) + 1))], [], _)) rfl ?_
          refine b_cast (f' := (5, [some (.inr 192), some (.inl (x : Int)), some (.inl y), some (.inl (sumN (v + 1) (cuM p (sprV p k f c n l t) (lckV p k f c n l t) c y x))), some (.inl ((v : Int) + 1))], [], [A0, A1, A2, A3, A4, A5, (modSeg re k f c n kp l tp le la td kt sh so had gr fi se to (p : Int) t d tl at_ sn him ik cu 0 st rm)])) (congrArg (fun q : Int => ((5, [some (.inr 192), some (.inl (x : Int)), some (.inl y), some (.inl q), some (.inl ((v : Int) + 1))], [], [A0, A1, A2, A3, A4, A5, (modSeg re k f c n kp l tp le la td kt sh so had gr fi se to (p : Int) t d tl at_ sn him ik cu 0 st rm)]) : aF)) ((by show _ = sumN v (cuM p (sprV p k f c n l t) (lckV p k f c n l t) c y x) + (cuM p (sprV p k f c n l t) (lckV p k f c n l t) c y x) v; unfold cuM; rw [if_pos hc18, if_pos hc42]; omega))) ?_
          exact ih (v + 1) (by omega)
        · refine b_vE (as := [.inl (v : Int), .inl (x : Int), .inl y]) (rest := [.inl ((sumN v (cuM p (sprV p k f c n l t) (lckV p k f c n l t) c y x)) + 0)]) (k := 192) okX8_cutBy rfl lkX8_241 caX8_isNearOne (Nat.le_of_ble_eq_true rfl) rfl (Nat.le_of_ble_eq_true rfl) rfl rfl rfl (c_nearOne_f hb hsh hS (by omega) hx hp6 hy (by cases hq : nrM p (lckV p k f c n l t) c y x v with | true => exact absurd hq hc42 | false => rfl)) ?_
          rintro _ _ ⟨rfl, rfl⟩
          refine b0_eq (tgt := 57) okX8_cutBy rfl rfl ⟨by omega, by omega⟩ (fun h45 => ?_) (fun h45 => absurd h45 (by omega))
          refine aGo okX8_cutBy 5 (f' := (5, [some (.inr 192), some (.inl (x : Int)), some (.inl y), some (.inl (((sumN v (cuM p (sprV p k f c n l t) (lckV p k f c n l t) c y x)) + 0) + 0)), some (.inl ((v : Int) + 1))], [], _)) rfl ?_
          refine b_cast (f' := (5, [some (.inr 192), some (.inl (x : Int)), some (.inl y), some (.inl (sumN (v + 1) (cuM p (sprV p k f c n l t) (lckV p k f c n l t) c y x))), some (.inl ((v : Int) + 1))], [], [A0, A1, A2, A3, A4, A5, (modSeg re k f c n kp l tp le la td kt sh so had gr fi se to (p : Int) t d tl at_ sn him ik cu 0 st rm)])) (congrArg (fun q : Int => ((5, [some (.inr 192), some (.inl (x : Int)), some (.inl y), some (.inl q), some (.inl ((v : Int) + 1))], [], [A0, A1, A2, A3, A4, A5, (modSeg re k f c n kp l tp le la td kt sh so had gr fi se to (p : Int) t d tl at_ sn him ik cu 0 st rm)]) : aF)) ((by show _ = sumN v (cuM p (sprV p k f c n l t) (lckV p k f c n l t) c y x) + (cuM p (sprV p k f c n l t) (lckV p k f c n l t) c y x) v; unfold cuM; rw [if_pos hc18, if_neg hc42]; omega))) ?_
          exact ih (v + 1) (by omega)
      · refine b_vS (as := [.inl (x : Int), .inl (v : Int)]) (rest := [.inl (sumN v (cuM p (sprV p k f c n l t) (lckV p k f c n l t) c y x))]) (.inl 0) okX8_cutBy rfl lkX8_175 caX8_has (Nat.le_of_ble_eq_true rfl) rfl (Nat.le_of_ble_eq_true rfl) rfl (c_has_f (by rw [shr_bit x (by omega) v (by omega), if_neg hc18])) ?_
        refine b0_eq (tgt := 28) okX8_cutBy rfl rfl ⟨by omega, by omega⟩ (fun h21 => ?_) (fun h21 => absurd h21 (by omega))
        refine aGo okX8_cutBy 2 (f' := (31, [some (.inr 192), some (.inl (x : Int)), some (.inl y), some (.inl (sumN v (cuM p (sprV p k f c n l t) (lckV p k f c n l t) c y x))), some (.inl (v : Int))], [.inl (v : Int), .inr 192, .inl (sumN v (cuM p (sprV p k f c n l t) (lckV p k f c n l t) c y x))], _)) rfl ?_
        refine b_vV (as := [.inl (v : Int)]) (rest := [.inl (sumN v (cuM p (sprV p k f c n l t) (lckV p k f c n l t) c y x))]) (k := 192) (.inl (lckV p k f c n l t v)) okX8_cutBy rfl lkX8_238 caX8_lackOf (Nat.le_of_ble_eq_true rfl) rfl (Nat.le_of_ble_eq_true rfl) rfl rfl rfl (c_lackOf hb hsh hS (i := v) (by omega)) ?_
        refine aGo okX8_cutBy 7 (f' := (42, [some (.inr 192), some (.inl (x : Int)), some (.inl y), some (.inl ((sumN v (cuM p (sprV p k f c n l t) (lckV p k f c n l t) c y x)) + (lckV p k f c n l t v))), some (.inl (v : Int))], [.inl y, .inl (x : Int), .inl (v : Int), .inr 192, .inl ((sumN v (cuM p (sprV p k f c n l t) (lckV p k f c n l t) c y x)) + (lckV p k f c n l t v))], _)) rfl ?_
        by_cases hc42 : nrM p (lckV p k f c n l t) c y x v = true
        · refine b_vE (as := [.inl (v : Int), .inl (x : Int), .inl y]) (rest := [.inl ((sumN v (cuM p (sprV p k f c n l t) (lckV p k f c n l t) c y x)) + (lckV p k f c n l t v))]) (k := 192) okX8_cutBy rfl lkX8_241 caX8_isNearOne (Nat.le_of_ble_eq_true rfl) rfl (Nat.le_of_ble_eq_true rfl) rfl rfl rfl (c_nearOne_t hb hsh hS (by omega) hx hp6 hy hc42) ?_
          rintro _ _ ⟨rfl, rfl⟩
          refine b0_eq (tgt := 57) okX8_cutBy rfl rfl ⟨by omega, by omega⟩ (fun h45 => absurd h45 (by omega)) (fun h45 => ?_)
          refine aGo okX8_cutBy 2 (f' := (51, [some (.inr 192), some (.inl (x : Int)), some (.inl y), some (.inl ((sumN v (cuM p (sprV p k f c n l t) (lckV p k f c n l t) c y x)) + (lckV p k f c n l t v))), some (.inl (v : Int))], [.inl (v : Int), .inr 192, .inl ((sumN v (cuM p (sprV p k f c n l t) (lckV p k f c n l t) c y x)) + (lckV p k f c n l t v))], _)) rfl ?_
          refine b_vV (as := [.inl (v : Int)]) (rest := [.inl ((sumN v (cuM p (sprV p k f c n l t) (lckV p k f c n l t) c y x)) + (lckV p k f c n l t v))]) (k := 192) (.inl (sprV p k f c n l t v)) okX8_cutBy rfl lkX8_244 caX8_overOf (Nat.le_of_ble_eq_true rfl) rfl (Nat.le_of_ble_eq_true rfl) rfl rfl rfl (c_overOf hb hsh hS (i := v) (by omega)) ?_
          refine aGo okX8_cutBy 5 (f' := (5, [some (.inr 192), some (.inl (x : Int)), some (.inl y), some (.inl (((sumN v (cuM p (sprV p k f c n l t) (lckV p k f c n l t) c y x)) + (lckV p k f c n l t v)) + (sprV p k f c n l t v))), some (.inl ((v : Int) + 1))], [], _)) rfl ?_
          refine b_cast (f' := (5, [some (.inr 192), some (.inl (x : Int)), some (.inl y), some (.inl (sumN (v + 1) (cuM p (sprV p k f c n l t) (lckV p k f c n l t) c y x))), some (.inl ((v : Int) + 1))], [], [A0, A1, A2, A3, A4, A5, (modSeg re k f c n kp l tp le la td kt sh so had gr fi se to (p : Int) t d tl at_ sn him ik cu 0 st rm)])) (congrArg (fun q : Int => ((5, [some (.inr 192), some (.inl (x : Int)), some (.inl y), some (.inl q), some (.inl ((v : Int) + 1))], [], [A0, A1, A2, A3, A4, A5, (modSeg re k f c n kp l tp le la td kt sh so had gr fi se to (p : Int) t d tl at_ sn him ik cu 0 st rm)]) : aF)) ((by show _ = sumN v (cuM p (sprV p k f c n l t) (lckV p k f c n l t) c y x) + (cuM p (sprV p k f c n l t) (lckV p k f c n l t) c y x) v; unfold cuM; rw [if_neg hc18, if_pos hc42]; omega))) ?_
          exact ih (v + 1) (by omega)
        · refine b_vE (as := [.inl (v : Int), .inl (x : Int), .inl y]) (rest := [.inl ((sumN v (cuM p (sprV p k f c n l t) (lckV p k f c n l t) c y x)) + (lckV p k f c n l t v))]) (k := 192) okX8_cutBy rfl lkX8_241 caX8_isNearOne (Nat.le_of_ble_eq_true rfl) rfl (Nat.le_of_ble_eq_true rfl) rfl rfl rfl (c_nearOne_f hb hsh hS (by omega) hx hp6 hy (by cases hq : nrM p (lckV p k f c n l t) c y x v with | true => exact absurd hq hc42 | false => rfl)) ?_
          rintro _ _ ⟨rfl, rfl⟩
          refine b0_eq (tgt := 57) okX8_cutBy rfl rfl ⟨by omega, by omega⟩ (fun h45 => ?_) (fun h45 => absurd h45 (by omega))
          refine aGo okX8_cutBy 5 (f' := (5, [some (.inr 192), some (.inl (x : Int)), some (.inl y), some (.inl (((sumN v (cuM p (sprV p k f c n l t) (lckV p k f c n l t) c y x)) + (lckV p k f c n l t v)) + 0)), some (.inl ((v : Int) + 1))], [], _)) rfl ?_
          refine b_cast (f' := (5, [some (.inr 192), some (.inl (x : Int)), some (.inl y), some (.inl (sumN (v + 1) (cuM p (sprV p k f c n l t) (lckV p k f c n l t) c y x))), some (.inl ((v : Int) + 1))], [], [A0, A1, A2, A3, A4, A5, (modSeg re k f c n kp l tp le la td kt sh so had gr fi se to (p : Int) t d tl at_ sn him ik cu 0 st rm)])) (congrArg (fun q : Int => ((5, [some (.inr 192), some (.inl (x : Int)), some (.inl y), some (.inl q), some (.inl ((v : Int) + 1))], [], [A0, A1, A2, A3, A4, A5, (modSeg re k f c n kp l tp le la td kt sh so had gr fi se to (p : Int) t d tl at_ sn him ik cu 0 st rm)]) : aF)) ((by show _ = sumN v (cuM p (sprV p k f c n l t) (lckV p k f c n l t) c y x) + (cuM p (sprV p k f c n l t) (lckV p k f c n l t) c y x) v; unfold cuM; rw [if_neg hc18, if_neg hc42]; omega))) ?_
          exact ih (v + 1) (by omega)
  refine aGo okX8_cutBy 4 (f' := (5, [some (.inr 192), some (.inl (x : Int)), some (.inl y), some (.inl 0), some (.inl 0)], [], _)) rfl ?_
  exact lp p 0 (by omega)
set_option maxRecDepth 100000 in
set_option maxHeartbeats 4000000 in
theorem c_netsOf (hp6 : p ≤ 6) (hp7 : p ≤ 7) (hl : l.length = 49) {x : Nat} (hx : x < 64) : aEv mX8_netsOf 3 0 0 N [.inr 192, .inl (x : Int)] [A0, A1, A2, A3, A4, A5, (modSeg re k f c n kp l tp le la td kt sh so had gr fi se to (p : Int) t d tl at_ sn him ik cu 0 st rm)] ((aQx (some (.inl (ntS (net p l) x p))) [A0, A1, A2, A3, A4, A5, (modSeg re k f c n kp l tp le la td kt sh so had gr fi se to (p : Int) t d tl at_ sn him ik cu 0 st rm)])) := by
  refine aEv_of okX8_netsOf caX8_netsOf (Nat.le_of_ble_eq_true rfl) ?_
  have lp : ∀ (j v : Nat), v + j = p → AW mX8_netsOf 3 0 0 N none (aQx (some (.inl (ntS (net p l) x p))) [A0, A1, A2, A3, A4, A5, (modSeg re k f c n kp l tp le la td kt sh so had gr fi se to (p : Int) t d tl at_ sn him ik cu 0 st rm)]) (4, [some (.inr 192), some (.inl (x : Int)), some (.inl (ntS (net p l) x v)), some (.inl (v : Int))], [], [A0, A1, A2, A3, A4, A5, (modSeg re k f c n kp l tp le la td kt sh so had gr fi se to (p : Int) t d tl at_ sn him ik cu 0 st rm)]) := by
    intro j
    induction j with
    | zero =>
      intro v  hij 
      obtain rfl : p = v := by omega
      refine aGo okX8_netsOf 3 (f' := (9, [some (.inr 192), some (.inl (x : Int)), some (.inl (ntS (net p l) x p)), some (.inl (p : Int))], [.inl (p : Int), .inl (p : Int)], _)) rfl ?_
      refine b_ge (tgt := 38) okX8_netsOf rfl rfl ⟨by omega, by omega⟩ ⟨by omega, by omega⟩ (fun h9 => ?_) (fun h9 => absurd h9 (by omega))
      refine aGo okX8_netsOf 1 (f' := (39, [some (.inr 192), some (.inl (x : Int)), some (.inl (ntS (net p l) x p)), some (.inl (p : Int))], [.inl (ntS (net p l) x p)], _)) rfl ?_
      exact b_ret (v := (some (.inl (ntS (net p l) x p)))) ⟨rfl, Or.inl rfl⟩ ⟨rfl, rfl⟩ rfl
    | succ j ih =>
      intro v  hij 
      refine aGo okX8_netsOf 3 (f' := (9, [some (.inr 192), some (.inl (x : Int)), some (.inl (ntS (net p l) x v)), some (.inl (v : Int))], [.inl (p : Int), .inl (v : Int)], _)) rfl ?_
      refine b_ge (tgt := 38) okX8_netsOf rfl rfl ⟨by omega, by omega⟩ ⟨by omega, by omega⟩ (fun h9 => absurd h9 (by omega)) (fun h9 => ?_)
      refine aGo okX8_netsOf 3 (f' := (15, [some (.inr 192), some (.inl (x : Int)), some (.inl (ntS (net p l) x v)), some (.inl (v : Int))], [.inl (v : Int), .inl (x : Int), .inl (ntS (net p l) x v)], _)) rfl ?_
      by_cases hc15 : x.testBit v = true
      · refine b_vS (as := [.inl (x : Int), .inl (v : Int)]) (rest := [.inl (ntS (net p l) x v)]) (.inl 1) okX8_netsOf rfl lkX8_175 caX8_has (Nat.le_of_ble_eq_true rfl) rfl (Nat.le_of_ble_eq_true rfl) rfl (c_has_t (by rw [shr_bit x (by omega) v (by omega), hc15]; rfl)) ?_
        refine b0_eq (tgt := 29) okX8_netsOf rfl rfl ⟨by omega, by omega⟩ (fun h18 => absurd h18 (by omega)) (fun h18 => ?_)
        refine aGo okX8_netsOf 2 (f' := (23, [some (.inr 192), some (.inl (x : Int)), some (.inl (ntS (net p l) x v)), some (.inl (v : Int))], [.inl (v : Int), .inr 192, .inl (ntS (net p l) x v)], _)) rfl ?_
        refine b_vV (as := [.inl (v : Int)]) (rest := [.inl (ntS (net p l) x v)]) (k := 192) (.inl (net p l v)) okX8_netsOf rfl lkX8_199 caX8_netOf (Nat.le_of_ble_eq_true rfl) rfl (Nat.le_of_ble_eq_true rfl) rfl rfl rfl (c_mNet0 hp7 hl (i := v) (by omega)) ?_
        refine aGo okX8_netsOf 5 (f' := (4, [some (.inr 192), some (.inl (x : Int)), some (.inl ((ntS (net p l) x v) + (net p l v))), some (.inl ((v : Int) + 1))], [], _)) rfl ?_
        refine b_cast (f' := (4, [some (.inr 192), some (.inl (x : Int)), some (.inl (ntS (net p l) x (v + 1))), some (.inl ((v : Int) + 1))], [], [A0, A1, A2, A3, A4, A5, (modSeg re k f c n kp l tp le la td kt sh so had gr fi se to (p : Int) t d tl at_ sn him ik cu 0 st rm)])) (congrArg (fun q : Int => ((4, [some (.inr 192), some (.inl (x : Int)), some (.inl q), some (.inl ((v : Int) + 1))], [], [A0, A1, A2, A3, A4, A5, (modSeg re k f c n kp l tp le la td kt sh so had gr fi se to (p : Int) t d tl at_ sn him ik cu 0 st rm)]) : aF)) ((by show _ = ntS (net p l) x v + (if x.testBit v = true then net p l v else 0); rw [if_pos hc15]))) ?_
        exact ih (v + 1) (by omega)
      · refine b_vS (as := [.inl (x : Int), .inl (v : Int)]) (rest := [.inl (ntS (net p l) x v)]) (.inl 0) okX8_netsOf rfl lkX8_175 caX8_has (Nat.le_of_ble_eq_true rfl) rfl (Nat.le_of_ble_eq_true rfl) rfl (c_has_f (by rw [shr_bit x (by omega) v (by omega), if_neg hc15])) ?_
        refine b0_eq (tgt := 29) okX8_netsOf rfl rfl ⟨by omega, by omega⟩ (fun h18 => ?_) (fun h18 => absurd h18 (by omega))
        refine aGo okX8_netsOf 5 (f' := (4, [some (.inr 192), some (.inl (x : Int)), some (.inl ((ntS (net p l) x v) + 0)), some (.inl ((v : Int) + 1))], [], _)) rfl ?_
        refine b_cast (f' := (4, [some (.inr 192), some (.inl (x : Int)), some (.inl (ntS (net p l) x (v + 1))), some (.inl ((v : Int) + 1))], [], [A0, A1, A2, A3, A4, A5, (modSeg re k f c n kp l tp le la td kt sh so had gr fi se to (p : Int) t d tl at_ sn him ik cu 0 st rm)])) (congrArg (fun q : Int => ((4, [some (.inr 192), some (.inl (x : Int)), some (.inl q), some (.inl ((v : Int) + 1))], [], [A0, A1, A2, A3, A4, A5, (modSeg re k f c n kp l tp le la td kt sh so had gr fi se to (p : Int) t d tl at_ sn him ik cu 0 st rm)]) : aF)) ((by show _ = ntS (net p l) x v + (if x.testBit v = true then net p l v else 0); rw [if_neg hc15]))) ?_
        exact ih (v + 1) (by omega)
  refine aGo okX8_netsOf 4 (f' := (4, [some (.inr 192), some (.inl (x : Int)), some (.inl 0), some (.inl 0)], [], _)) rfl ?_
  exact lp p 0 (by omega)
set_option maxRecDepth 100000 in
set_option maxHeartbeats 4000000 in
theorem c_isRich_t (hb : bOK p k f c n kp l t d) (hsh : sh.length = 7) (h : ltA p k f c n l t = true) : aEv mX8_isRich 6 0 0 N [.inr 192] [A0, A1, A2, A3, A4, A5, (modSeg re k f c n kp l tp le la td kt sh so had gr fi se to (p : Int) t d tl at_ sn him ik cu 0 st rm)] ((fun rv h => rv = some (.inl (1)) ∧ ∃ sh2 : List Int, sh2.length = 7 ∧ h = [A0, A1, A2, A3, A4, A5, (modSeg re k f c n kp l tp le la td kt sh2 so had gr fi se to (p : Int) t d tl at_ sn him ik cu 0 st rm)])) := by
  obtain ⟨hp7, hk, hf, hc, hn, hkp, hl, rk, rf, rc, rn, rkp, rl, ht0, ht1, hd0, hd1⟩ := id hb
  have h2 : ∀ v, v < p → n.getD v 0 ≤ hasM p k f c l t v := fun v hv => ltA_t h hv
  refine aEv_of okX8_isRich caX8_isRich (Nat.le_of_ble_eq_true rfl) ?_
  refine aGo okX8_isRich 1 (f' := (1, [some (.inr 192), none], [.inr 192], _)) rfl ?_
  refine b_vE (as := []) (rest := []) (k := 192) okX8_isRich rfl lkX8_202 caX8_findShares (Nat.le_of_ble_eq_true rfl) rfl (Nat.le_of_ble_eq_true rfl) rfl rfl rfl (c_findShares (gH_of hb (by omega))) ?_
  rintro _ _ ⟨rfl, sh2, q1, q2, rfl⟩
  refine aGo okX8_isRich 2 (f' := (6, [some (.inr 192), some (.inl 0)], [], _)) rfl ?_
  have lp : ∀ (j v : Nat), v + j = p → AW mX8_isRich 6 0 0 N none (fun rv h => rv = some (.inl (1)) ∧ ∃ sh2 : List Int, sh2.length = 7 ∧ h = [A0, A1, A2, A3, A4, A5, (modSeg re k f c n kp l tp le la td kt sh2 so had gr fi se to (p : Int) t d tl at_ sn him ik cu 0 st rm)]) (6, [some (.inr 192), some (.inl (v : Int))], [], [A0, A1, A2, A3, A4, A5, (modSeg re k f c n kp l tp le la td kt sh2 so had gr fi se to (p : Int) t d tl at_ sn him ik cu 0 st rm)]) := by
    intro j
    induction j with
    | zero =>
      intro v  hij 
      obtain rfl : p = v := by omega
      refine aGo okX8_isRich 3 (f' := (11, [some (.inr 192), some (.inl (p : Int))], [.inl (p : Int), .inl (p : Int)], _)) rfl ?_
      refine b_ge (tgt := 36) okX8_isRich rfl rfl ⟨by omega, by omega⟩ ⟨by omega, by omega⟩ (fun h11 => ?_) (fun h11 => absurd h11 (by omega))
      refine aGo okX8_isRich 1 (f' := (37, [some (.inr 192), some (.inl (p : Int))], [.inl 1], _)) rfl ?_
      exact b_ret (v := (some (.inl 1))) ⟨rfl, Or.inr ⟨rfl, Or.inr rfl⟩⟩ ⟨rfl, sh2, q1, rfl⟩ rfl
    | succ j ih =>
      intro v  hij 
      have e1 := q2 v (by omega)
      have e2 := shr_le (k := k) hp7 rf rc ⟨ht0, ht1⟩ (q := v) (by omega)
      have e3 := net_le hp7 rl v
      have e4 := rn v
      have e5 : hasM p k f c l t v = sh2.getD v 0 - net p l v := by rw [e1]; rfl
      have e7 := h2 v (by omega)
      refine aGo okX8_isRich 3 (f' := (11, [some (.inr 192), some (.inl (v : Int))], [.inl (p : Int), .inl (v : Int)], _)) rfl ?_
      refine b_ge (tgt := 36) okX8_isRich rfl rfl ⟨by omega, by omega⟩ ⟨by omega, by omega⟩ (fun h11 => absurd h11 (by omega)) (fun h11 => ?_)
      refine aGo okX8_isRich 2 (f' := (16, [some (.inr 192), some (.inl (v : Int))], [.inl (v : Int), .inr 192], _)) rfl ?_
      refine b_vV (as := [.inl (v : Int)]) (rest := []) (k := 192) (.inl ((sh2.getD v 0) - (net p l v))) okX8_isRich rfl lkX8_208 caX8_hasNow (Nat.le_of_ble_eq_true rfl) rfl (Nat.le_of_ble_eq_true rfl) rfl rfl rfl (c_hasNow0 hp7 hl q1 (i := v) (by omega)) ?_
      refine aGo okX8_isRich 3 (f' := (24, [some (.inr 192), some (.inl (v : Int))], [.inl (v : Int), .inr 197, .inl ((sh2.getD v 0) - (net p l v))], _)) rfl ?_
      refine b_ald (k := 197) (j := v) (a := n) okX8_isRich rfl rfl (by omega) (by omega) (by omega) ?_
      refine b_ge (tgt := 30) okX8_isRich rfl rfl ⟨by omega, by omega⟩ ⟨by omega, by omega⟩ (fun h25 => ?_) (fun h25 => absurd h25 (by omega))
      refine aGo okX8_isRich 2 (f' := (6, [some (.inr 192), some (.inl ((v : Int) + 1))], [], _)) rfl ?_
      exact ih (v + 1) (by omega)
  exact lp p 0 (by omega)
set_option maxRecDepth 100000 in
set_option maxHeartbeats 4000000 in
theorem c_isRich_f (hb : bOK p k f c n kp l t d) (hsh : sh.length = 7) (h : ltA p k f c n l t = false) : aEv mX8_isRich 6 0 0 N [.inr 192] [A0, A1, A2, A3, A4, A5, (modSeg re k f c n kp l tp le la td kt sh so had gr fi se to (p : Int) t d tl at_ sn him ik cu 0 st rm)] ((fun rv h => rv = some (.inl (0)) ∧ ∃ sh2 : List Int, sh2.length = 7 ∧ h = [A0, A1, A2, A3, A4, A5, (modSeg re k f c n kp l tp le la td kt sh2 so had gr fi se to (p : Int) t d tl at_ sn him ik cu 0 st rm)])) := by
  obtain ⟨hp7, hk, hf, hc, hn, hkp, hl, rk, rf, rc, rn, rkp, rl, ht0, ht1, hd0, hd1⟩ := id hb
  obtain ⟨e9, g8, g9⟩ := ltA_f h
  refine aEv_of okX8_isRich caX8_isRich (Nat.le_of_ble_eq_true rfl) ?_
  refine aGo okX8_isRich 1 (f' := (1, [some (.inr 192), none], [.inr 192], _)) rfl ?_
  refine b_vE (as := []) (rest := []) (k := 192) okX8_isRich rfl lkX8_202 caX8_findShares (Nat.le_of_ble_eq_true rfl) rfl (Nat.le_of_ble_eq_true rfl) rfl rfl rfl (c_findShares (gH_of hb (by omega))) ?_
  rintro _ _ ⟨rfl, sh2, q1, q2, rfl⟩
  refine aGo okX8_isRich 2 (f' := (6, [some (.inr 192), some (.inl 0)], [], _)) rfl ?_
  have lp : ∀ (j v : Nat), v + j = p → (∃ e, v ≤ e ∧ e < p ∧ hasM p k f c l t e < n.getD e 0) → AW mX8_isRich 6 0 0 N none (fun rv h => rv = some (.inl (0)) ∧ ∃ sh2 : List Int, sh2.length = 7 ∧ h = [A0, A1, A2, A3, A4, A5, (modSeg re k f c n kp l tp le la td kt sh2 so had gr fi se to (p : Int) t d tl at_ sn him ik cu 0 st rm)]) (6, [some (.inr 192), some (.inl (v : Int))], [], [A0, A1, A2, A3, A4, A5, (modSeg re k f c n kp l tp le la td kt sh2 so had gr fi se to (p : Int) t d tl at_ sn him ik cu 0 st rm)]) := by
    intro j
    induction j with
    | zero =>
      intro v  hij h1
      obtain ⟨w, g1, g2, g3⟩ := h1
      omega
    | succ j ih =>
      intro v  hij h1
      have e1 := q2 v (by omega)
      have e2 := shr_le (k := k) hp7 rf rc ⟨ht0, ht1⟩ (q := v) (by omega)
      have e3 := net_le hp7 rl v
      have e4 := rn v
      have e5 : hasM p k f c l t v = sh2.getD v 0 - net p l v := by rw [e1]; rfl
      refine aGo okX8_isRich 3 (f' := (11, [some (.inr 192), some (.inl (v : Int))], [.inl (p : Int), .inl (v : Int)], _)) rfl ?_
      refine b_ge (tgt := 36) okX8_isRich rfl rfl ⟨by omega, by omega⟩ ⟨by omega, by omega⟩ (fun h11 => absurd h11 (by omega)) (fun h11 => ?_)
      refine aGo okX8_isRich 2 (f' := (16, [some (.inr 192), some (.inl (v : Int))], [.inl (v : Int), .inr 192], _)) rfl ?_
      refine b_vV (as := [.inl (v : Int)]) (rest := []) (k := 192) (.inl ((sh2.getD v 0) - (net p l v))) okX8_isRich rfl lkX8_208 caX8_hasNow (Nat.le_of_ble_eq_true rfl) rfl (Nat.le_of_ble_eq_true rfl) rfl rfl rfl (c_hasNow0 hp7 hl q1 (i := v) (by omega)) ?_
      refine aGo okX8_isRich 3 (f' := (24, [some (.inr 192), some (.inl (v : Int))], [.inl (v : Int), .inr 197, .inl ((sh2.getD v 0) - (net p l v))], _)) rfl ?_
      refine b_ald (k := 197) (j := v) (a := n) okX8_isRich rfl rfl (by omega) (by omega) (by omega) ?_
      refine b_ge (tgt := 30) okX8_isRich rfl rfl ⟨by omega, by omega⟩ ⟨by omega, by omega⟩ (fun h25 => ?_) (fun h25 => ?_)
      · refine aGo okX8_isRich 2 (f' := (6, [some (.inr 192), some (.inl ((v : Int) + 1))], [], _)) rfl ?_
        exact ih (v + 1) (by omega) (by
          obtain ⟨e, g1, g2, g3⟩ := h1
          refine ⟨e, ?_, g2, g3⟩
          by_cases hw : e = v
          · subst hw; omega
          · omega)
      · refine aGo okX8_isRich 1 (f' := (29, [some (.inr 192), some (.inl (v : Int))], [.inl 0], _)) rfl ?_
        exact b_ret (v := (some (.inl 0))) ⟨rfl, Or.inr ⟨rfl, Or.inl rfl⟩⟩ ⟨rfl, sh2, q1, rfl⟩ rfl
  exact lp p 0 (by omega) ⟨e9, Nat.zero_le e9, g8, g9⟩
set_option maxRecDepth 100000 in
set_option maxHeartbeats 4000000 in
theorem c_isSo_t (hb : bOK p k f c n kp l t d) (hsh : sh.length = 7) (hp6 : p ≤ 6) (hto : to.length = 12) (rto : rng to 99) (h : tldB p (shr p k f c t) to = true) : aEv mX8_isSo 6 0 0 N [.inr 192] [A0, A1, A2, A3, A4, A5, (modSeg re k f c n kp l tp le la td kt sh so had gr fi se to (p : Int) t d tl at_ sn him ik cu 0 st rm)] ((fun rv h => rv = some (.inl (1)) ∧ ∃ sh2 : List Int, sh2.length = 7 ∧ h = [A0, A1, A2, A3, A4, A5, (modSeg re k f c n kp l tp le la td kt sh2 so had gr fi se to (p : Int) t d tl at_ sn him ik cu 0 st rm)])) := by
  obtain ⟨hp7, hk, hf, hc, hn, hkp, hl, rk, rf, rc, rn, rkp, rl, ht0, ht1, hd0, hd1⟩ := id hb
  have h2 : ∀ v, v < p → min (shr p k f c t v) 99 = to.getD v 0 := fun v hv => tldB_t h hv
  refine aEv_of okX8_isSo caX8_isSo (Nat.le_of_ble_eq_true rfl) ?_
  refine aGo okX8_isSo 1 (f' := (1, [some (.inr 192), none], [.inr 192], _)) rfl ?_
  refine b_vE (as := []) (rest := []) (k := 192) okX8_isSo rfl lkX8_202 caX8_findShares (Nat.le_of_ble_eq_true rfl) rfl (Nat.le_of_ble_eq_true rfl) rfl rfl rfl (c_findShares (gH_of hb (by omega))) ?_
  rintro _ _ ⟨rfl, sh2, q1, q2, rfl⟩
  refine aGo okX8_isSo 2 (f' := (6, [some (.inr 192), some (.inl 0)], [], _)) rfl ?_
  have lp : ∀ (j v : Nat), v + j = p → AW mX8_isSo 6 0 0 N none (fun rv h => rv = some (.inl (1)) ∧ ∃ sh2 : List Int, sh2.length = 7 ∧ h = [A0, A1, A2, A3, A4, A5, (modSeg re k f c n kp l tp le la td kt sh2 so had gr fi se to (p : Int) t d tl at_ sn him ik cu 0 st rm)]) (6, [some (.inr 192), some (.inl (v : Int))], [], [A0, A1, A2, A3, A4, A5, (modSeg re k f c n kp l tp le la td kt sh2 so had gr fi se to (p : Int) t d tl at_ sn him ik cu 0 st rm)]) := by
    intro j
    induction j with
    | zero =>
      intro v  hij 
      obtain rfl : p = v := by omega
      refine aGo okX8_isSo 3 (f' := (11, [some (.inr 192), some (.inl (p : Int))], [.inl (p : Int), .inl (p : Int)], _)) rfl ?_
      refine b_ge (tgt := 40) okX8_isSo rfl rfl ⟨by omega, by omega⟩ ⟨by omega, by omega⟩ (fun h11 => ?_) (fun h11 => absurd h11 (by omega))
      refine aGo okX8_isSo 1 (f' := (41, [some (.inr 192), some (.inl (p : Int))], [.inl 1], _)) rfl ?_
      exact b_ret (v := (some (.inl 1))) ⟨rfl, Or.inr ⟨rfl, Or.inr rfl⟩⟩ ⟨rfl, sh2, q1, rfl⟩ rfl
    | succ j ih =>
      intro v  hij 
      have e1 := q2 v (by omega)
      have e2 := shr_le (k := k) hp7 rf rc ⟨ht0, ht1⟩ (q := v) (by omega)
      have e3 := net_le hp7 rl v
      have e4 := rn v
      have e6 := rto v
      have e7 := h2 v (by omega)
      refine aGo okX8_isSo 3 (f' := (11, [some (.inr 192), some (.inl (v : Int))], [.inl (p : Int), .inl (v : Int)], _)) rfl ?_
      refine b_ge (tgt := 40) okX8_isSo rfl rfl ⟨by omega, by omega⟩ ⟨by omega, by omega⟩ (fun h11 => absurd h11 (by omega)) (fun h11 => ?_)
      refine aGo okX8_isSo 3 (f' := (19, [some (.inr 192), some (.inl (v : Int))], [.inl (v : Int), .inr 205], _)) rfl ?_
      refine b_ald (k := 205) (j := v) (a := sh2) okX8_isSo rfl rfl (by omega) (by omega) (by omega) ?_
      refine b_vS (as := [.inl (sh2.getD v 0)]) (rest := []) (.inl (min (sh2.getD v 0) 99)) okX8_isSo rfl lkX8_274 caX8_cut (Nat.le_of_ble_eq_true rfl) rfl (Nat.le_of_ble_eq_true rfl) rfl (c_mCut ⟨by omega, by omega⟩) ?_
      refine aGo okX8_isSo 3 (f' := (28, [some (.inr 192), some (.inl (v : Int))], [.inl (v : Int), .inr 211, .inl (min (sh2.getD v 0) 99)], _)) rfl ?_
      refine b_ald (k := 211) (j := v) (a := to) okX8_isSo rfl rfl (by omega) (by omega) (by omega) ?_
      refine b_eq (tgt := 34) okX8_isSo rfl rfl ⟨by omega, by omega⟩ ⟨by omega, by omega⟩ (fun h29 => ?_) (fun h29 => absurd h29 (by omega))
      refine aGo okX8_isSo 2 (f' := (6, [some (.inr 192), some (.inl ((v : Int) + 1))], [], _)) rfl ?_
      exact ih (v + 1) (by omega)
  exact lp p 0 (by omega)
set_option maxRecDepth 100000 in
set_option maxHeartbeats 4000000 in
theorem c_isSo_f (hb : bOK p k f c n kp l t d) (hsh : sh.length = 7) (hp6 : p ≤ 6) (hto : to.length = 12) (rto : rng to 99) (h : tldB p (shr p k f c t) to = false) : aEv mX8_isSo 6 0 0 N [.inr 192] [A0, A1, A2, A3, A4, A5, (modSeg re k f c n kp l tp le la td kt sh so had gr fi se to (p : Int) t d tl at_ sn him ik cu 0 st rm)] ((fun rv h => rv = some (.inl (0)) ∧ ∃ sh2 : List Int, sh2.length = 7 ∧ h = [A0, A1, A2, A3, A4, A5, (modSeg re k f c n kp l tp le la td kt sh2 so had gr fi se to (p : Int) t d tl at_ sn him ik cu 0 st rm)])) := by
  obtain ⟨hp7, hk, hf, hc, hn, hkp, hl, rk, rf, rc, rn, rkp, rl, ht0, ht1, hd0, hd1⟩ := id hb
  obtain ⟨e9, g8, g9⟩ := tldB_f h
  refine aEv_of okX8_isSo caX8_isSo (Nat.le_of_ble_eq_true rfl) ?_
  refine aGo okX8_isSo 1 (f' := (1, [some (.inr 192), none], [.inr 192], _)) rfl ?_
  refine b_vE (as := []) (rest := []) (k := 192) okX8_isSo rfl lkX8_202 caX8_findShares (Nat.le_of_ble_eq_true rfl) rfl (Nat.le_of_ble_eq_true rfl) rfl rfl rfl (c_findShares (gH_of hb (by omega))) ?_
  rintro _ _ ⟨rfl, sh2, q1, q2, rfl⟩
  refine aGo okX8_isSo 2 (f' := (6, [some (.inr 192), some (.inl 0)], [], _)) rfl ?_
  have lp : ∀ (j v : Nat), v + j = p → (∃ e, v ≤ e ∧ e < p ∧ ¬ min (shr p k f c t e) 99 = to.getD e 0) → AW mX8_isSo 6 0 0 N none (fun rv h => rv = some (.inl (0)) ∧ ∃ sh2 : List Int, sh2.length = 7 ∧ h = [A0, A1, A2, A3, A4, A5, (modSeg re k f c n kp l tp le la td kt sh2 so had gr fi se to (p : Int) t d tl at_ sn him ik cu 0 st rm)]) (6, [some (.inr 192), some (.inl (v : Int))], [], [A0, A1, A2, A3, A4, A5, (modSeg re k f c n kp l tp le la td kt sh2 so had gr fi se to (p : Int) t d tl at_ sn him ik cu 0 st rm)]) := by
    intro j
    induction j with
    | zero =>
      intro v  hij h1
      obtain ⟨w, g1, g2, g3⟩ := h1
      omega
    | succ j ih =>
      intro v  hij h1
      have e1 := q2 v (by omega)
      have e2 := shr_le (k := k) hp7 rf rc ⟨ht0, ht1⟩ (q := v) (by omega)
      have e3 := net_le hp7 rl v
      have e4 := rn v
      have e6 := rto v
      refine aGo okX8_isSo 3 (f' := (11, [some (.inr 192), some (.inl (v : Int))], [.inl (p : Int), .inl (v : Int)], _)) rfl ?_
      refine b_ge (tgt := 40) okX8_isSo rfl rfl ⟨by omega, by omega⟩ ⟨by omega, by omega⟩ (fun h11 => absurd h11 (by omega)) (fun h11 => ?_)
      refine aGo okX8_isSo 3 (f' := (19, [some (.inr 192), some (.inl (v : Int))], [.inl (v : Int), .inr 205], _)) rfl ?_
      refine b_ald (k := 205) (j := v) (a := sh2) okX8_isSo rfl rfl (by omega) (by omega) (by omega) ?_
      refine b_vS (as := [.inl (sh2.getD v 0)]) (rest := []) (.inl (min (sh2.getD v 0) 99)) okX8_isSo rfl lkX8_274 caX8_cut (Nat.le_of_ble_eq_true rfl) rfl (Nat.le_of_ble_eq_true rfl) rfl (c_mCut ⟨by omega, by omega⟩) ?_
      refine aGo okX8_isSo 3 (f' := (28, [some (.inr 192), some (.inl (v : Int))], [.inl (v : Int), .inr 211, .inl (min (sh2.getD v 0) 99)], _)) rfl ?_
      refine b_ald (k := 211) (j := v) (a := to) okX8_isSo rfl rfl (by omega) (by omega) (by omega) ?_
      refine b_eq (tgt := 34) okX8_isSo rfl rfl ⟨by omega, by omega⟩ ⟨by omega, by omega⟩ (fun h29 => ?_) (fun h29 => ?_)
      · refine aGo okX8_isSo 2 (f' := (6, [some (.inr 192), some (.inl ((v : Int) + 1))], [], _)) rfl ?_
        exact ih (v + 1) (by omega) (by
          obtain ⟨e, g1, g2, g3⟩ := h1
          refine ⟨e, ?_, g2, g3⟩
          by_cases hw : e = v
          · subst hw; omega
          · omega)
      · refine aGo okX8_isSo 1 (f' := (33, [some (.inr 192), some (.inl (v : Int))], [.inl 0], _)) rfl ?_
        exact b_ret (v := (some (.inl 0))) ⟨rfl, Or.inr ⟨rfl, Or.inl rfl⟩⟩ ⟨rfl, sh2, q1, rfl⟩ rfl
  exact lp p 0 (by omega) ⟨e9, Nat.zero_le e9, g8, g9⟩
end AME
