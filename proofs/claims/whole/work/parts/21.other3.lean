/-! OtherMoors: two who choose, sums, told rows, lots; laid by gen_other3.py -/
def chC (c : List Int) (a b e : Nat) : List Int := (c.set a (mov (c.getD a 0) (e / 5))).set b (mov (c.getD b 0) (e % 5))
def chS (p : Nat) (k f c : List Int) (t : Int) (a b i e : Nat) : Int := shr p k f (chC c a b e) t i
theorem chC_rng {c : List Int} (rc : rng c 35) (a b e : Nat) : rng (chC c a b e) 35 := rng_set (rng_set rc (mov_le (rc a) _).1 (mov_le (rc a) _).2) (mov_le (rc b) _).1 (mov_le (rc b) _).2
theorem chC_at {c : List Int} {a b x y : Nat} (hy : y < 5) : chC c a b (x * 5 + y) = (c.set a (mov (c.getD a 0) x)).set b (mov (c.getD b 0) y) := by
  unfold chC; rw [show (x * 5 + y) / 5 = x by omega, show (x * 5 + y) % 5 = y by omega]
/-- by no other choice of one alone has he more -/
def stM (A B : Nat → Int) (e : Nat) : Bool := (List.range 5).all fun w => decide (A (w * 5 + e % 5) ≤ A e) && decide (B (e / 5 * 5 + w) ≤ B e)
theorem stM_t {A B : Nat → Int} {e : Nat} (h : stM A B e = true) {w : Nat} (hw : w < 5) : A (w * 5 + e % 5) ≤ A e ∧ B (e / 5 * 5 + w) ≤ B e := by
  have := List.all_eq_true.mp h w (List.mem_range.mpr hw)
  simpa using this
theorem stM_f {A B : Nat → Int} {e : Nat} (h : stM A B e = false) : ∃ w, w < 5 ∧ ¬ (A (w * 5 + e % 5) ≤ A e ∧ B (e / 5 * 5 + w) ≤ B e) := by
  rcases Classical.em (∃ w, w < 5 ∧ ¬ (A (w * 5 + e % 5) ≤ A e ∧ B (e / 5 * 5 + w) ≤ B e)) with q | q
  · exact q
  · have : stM A B e = true := List.all_eq_true.mpr fun w hw => by
      have hw := List.mem_range.mp hw
      have h2 := Classical.not_not.mp (fun z => q ⟨w, hw, z⟩)
      simpa using h2
    rw [this] at h; cases h
theorem stM_congr {A B A' B' : Nat → Int} (hA : ∀ e, e < 25 → A e = A' e) (hB : ∀ e, e < 25 → B e = B' e) {e : Nat} (he : e < 25) : stM A B e = stM A' B' e := by
  cases h : stM A' B' e with
  | true =>
    refine List.all_eq_true.mpr fun w hw => ?_
    have hw := List.mem_range.mp hw
    have h2 := stM_t h hw
    rw [hA (w * 5 + e % 5) (by omega), hA e he, hB (e / 5 * 5 + w) (by omega), hB e he]
    simpa using h2
  | false =>
    obtain ⟨w, hw, h2⟩ := stM_f h
    cases h3 : stM A B e with
    | false => rfl
    | true =>
      have h4 := stM_t h3 hw
      rw [hA (w * 5 + e % 5) (by omega), hA e he, hB (e / 5 * 5 + w) (by omega), hB e he] at h4
      exact absurd h4 h2
def sres (r : Int) : Int := if r = -9 then -9 else 10 * (r / 5) + r % 5
theorem sres_at {x y : Nat} (hy : y < 5) : sres ((x * 5 + y : Nat) : Int) = 10 * (x : Int) + (y : Int) := by
  unfold sres; rw [if_neg (by omega)]; omega
def tldB (p : Nat) (S : Nat → Int) (to : List Int) : Bool := (List.range p).all fun q => decide (min (S q) 99 = to.getD q 0)
theorem tldB_t {p : Nat} {S : Nat → Int} {to : List Int} (h : tldB p S to = true) {q : Nat} (hq : q < p) : min (S q) 99 = to.getD q 0 := by
  have := List.all_eq_true.mp h q (List.mem_range.mpr hq)
  simpa using this
theorem tldB_f {p : Nat} {S : Nat → Int} {to : List Int} (h : tldB p S to = false) : ∃ q, q < p ∧ ¬ min (S q) 99 = to.getD q 0 := by
  rcases Classical.em (∃ q, q < p ∧ ¬ min (S q) 99 = to.getD q 0) with z | z
  · exact z
  · have : tldB p S to = true := List.all_eq_true.mpr fun q hq => by
      have hq := List.mem_range.mp hq
      have h2 := Classical.not_not.mp (fun y => z ⟨q, hq, y⟩)
      simpa using h2
    rw [this] at h; cases h
theorem tldB_congr {p : Nat} {S S' : Nat → Int} {to : List Int} (h : ∀ q, q < p → S q = S' q) : tldB p S to = tldB p S' to := by
  cases h2 : tldB p S' to with
  | true =>
    refine List.all_eq_true.mpr fun q hq => ?_
    have hq := List.mem_range.mp hq
    have := tldB_t h2 hq
    rw [h q hq]; simpa using this
  | false =>
    obtain ⟨q, hq, h3⟩ := tldB_f h2
    cases h4 : tldB p S to with
    | false => rfl
    | true => have := tldB_t h4 hq; rw [h q hq] at this; exact absurd this h3
/-- a moor by lot: what the seed is then, and the cells -/
def lotC (z : Int) (c : List Int) : Nat → Int × List Int
  | 0 => (z, c)
  | q + 1 => (lcg (lotC z c q).1, (lotC z c q).2.set q (aAnd (lcg (lotC z c q).1) 2147483647 / 256 % 36))
def lotI (p : Nat) (z : Int) (c : List Int) : Nat → Int × List Int
  | 0 => (z, c)
  | i + 1 => lotC (lotI p z c i).1 (lotI p z c i).2 p
theorem lot_le (x : Int) : 0 ≤ aAnd x 2147483647 / 256 % 36 ∧ aAnd x 2147483647 / 256 % 36 ≤ 35 := by
  have := mask_le x
  omega
theorem lotC_len (z : Int) (c : List Int) (q : Nat) : (lotC z c q).2.length = c.length := by
  induction q with
  | zero => rfl
  | succ q ih => simp only [lotC, List.length_set, ih]
theorem lotC_rng {z : Int} {c : List Int} (h : rng c 35) (q : Nat) : rng (lotC z c q).2 35 := by
  induction q with
  | zero => exact h
  | succ q ih => exact rng_set ih (lot_le _).1 (lot_le _).2
theorem lotI_len (p : Nat) (z : Int) (c : List Int) (i : Nat) : (lotI p z c i).2.length = c.length := by
  induction i with
  | zero => rfl
  | succ i ih => simp only [lotI, lotC_len, ih]
theorem lotI_rng {p : Nat} {z : Int} {c : List Int} (h : rng c 35) (i : Nat) : rng (lotI p z c i).2 35 := by
  induction i with
  | zero => exact h
  | succ i ih => exact lotC_rng ih _
section AOC
variable {A0 A3 B B2 B4 A5 C6 : List (Option aE)} {k f c n kp l nt w sh : List Int} {p : Nat} {t d wa : Int} {N : Nat} {z tl : Int} {fs ss sp la gr tp : List Int}
variable {to re : List Int}
theorem c_chosenCell {w9 : List Int} {w : Nat} (hw : w < 5) {x : Int} (hx : 0 ≤ x ∧ x ≤ 35) : aEx mX5_chosenCell 0 N [.inr 97, .inl x, .inl (w : Int)] [A0, (moSeg 32 k f c n kp l nt w9 sh (p : Int) t d wa), B, (miscSeg z fs ss sp la gr tl tp), B4, A5, C6] (some (.inl (mov x w))) [A0, (moSeg 32 k f c n kp l nt w9 sh (p : Int) t d wa), B, (miscSeg z fs ss sp la gr tl tp), B4, A5, C6] := by
  match w, hw with
  | 0, _ => exact c_chosenCell_0 hx
  | 1, _ => exact c_chosenCell_1 hx
  | 2, _ => exact c_chosenCell_2 hx
  | 3, _ => exact c_chosenCell_3 hx
  | 4, _ => exact c_chosenCell_4 hx
set_option maxRecDepth 100000 in
set_option maxHeartbeats 4000000 in
theorem c_weighChoices (hm : mOK p k f c n kp l nt w sh t d wa) (hB : thk B) {a b : Nat} (ha : a < p) (hb : b < p) (hab : a ≠ b) (hfs : fs.length = 25) (hss : ss.length = 25) : aEv mX5_weighChoices 5 0 0 N [.inr 97, .inl (a : Int), .inl (b : Int)] [A0, (moSeg 32 k f c n kp l nt w sh (p : Int) t d wa), B, (miscSeg z fs ss sp la gr tl tp), B4, A5, C6] ((fun rv h => rv = none ∧ ∃ (B2 : List (Option aE)) (fs2 ss2 : List Int), thk B2 ∧ fs2.length = 25 ∧ ss2.length = 25 ∧ (∀ e, e < 25 → fs2.getD e 0 = (chS p k f c t a b a) e) ∧ (∀ e, e < 25 → ss2.getD e 0 = (chS p k f c t a b b) e) ∧ h = [A0, (moSeg 32 k f c n kp l nt w sh (p : Int) t d wa), B2, (miscSeg z fs2 ss2 sp la gr tl tp), B4, A5, C6])) := by
  obtain ⟨⟨hp7, hk, hf, hc, hn, hkp, hl, rk, rf, rc, rn, rkp, rl, ht0, ht1, hd0, hd1⟩, ⟨hnt, znt⟩, ⟨hw, zw, zwa⟩, ⟨hsh, zsh⟩⟩ := id hm
  have hle := mOK_hle hm
  obtain ⟨k0, f0, c0, n0, kp0, l0, nt0, w0, sh0, P0, t0, d0, wa0, hl0, rfl⟩ := hB
  refine aEv_of okX5_weighChoices caX5_weighChoices (Nat.le_of_ble_eq_true rfl) ?_
  have lp : ∀ (j x : Nat) (u : Int) (v : Int) (w1 : List Int) (sh1 : List Int) (wa1 : Int) (f1 : List Int) (s1 : List Int), x + j = 5 → (w1.length = 7) → (sh1.length = 7) → (0 ≤ u ∧ u ≤ 35) → (0 ≤ v ∧ v ≤ 35) → (f1.length = 25) → (s1.length = 25) → (∀ e, e < x * 5 → f1.getD e 0 = (chS p k f c t a b a) e) → (∀ e, e < x * 5 → s1.getD e 0 = (chS p k f c t a b b) e) → AW mX5_weighChoices 5 0 0 N none (fun rv h => rv = none ∧ ∃ (B2 : List (Option aE)) (fs2 ss2 : List Int), thk B2 ∧ fs2.length = 25 ∧ ss2.length = 25 ∧ (∀ e, e < 25 → fs2.getD e 0 = (chS p k f c t a b a) e) ∧ (∀ e, e < 25 → ss2.getD e 0 = (chS p k f c t a b b) e) ∧ h = [A0, (moSeg 32 k f c n kp l nt w sh (p : Int) t d wa), B2, (miscSeg z fs2 ss2 sp la gr tl tp), B4, A5, C6]) (13, [some (.inr 97), some (.inl (a : Int)), some (.inl (b : Int)), some (.inl (x : Int)), none], [], [A0, (moSeg 32 k f c n kp l nt w sh (p : Int) t d wa), (moSeg 64 k f ((c.set a u).set b v) n kp l nt w1 sh1 (p : Int) t d wa1), (miscSeg z f1 s1 sp la gr tl tp), B4, A5, C6]) := by
    intro j
    induction j with
    | zero =>
      intro x u v w1 sh1 wa1 f1 s1 hij q1 q2 q3 q4 q5 q6 q7 q8
      obtain rfl : 5 = x := by omega
      refine aGo okX5_weighChoices 2 (f' := (15, [some (.inr 97), some (.inl (a : Int)), some (.inl (b : Int)), some (.inl (5 : Int)), none], [.inl 5, .inl (5 : Int)], _)) rfl ?_
      refine b_ge (tgt := 124) okX5_weighChoices rfl rfl ⟨by omega, by omega⟩ ⟨by omega, by omega⟩ (fun h15 => ?_) (fun h15 => absurd h15 (by omega))
      exact b_ret (v := none) ⟨rfl, rfl⟩ ⟨rfl, _, f1, s1, thk_of ⟨hk, hf, (by rw [List.length_set, List.length_set]; exact hc), hn, hkp, hl, hnt, q1, q2⟩, q5, q6, q7, q8, rfl⟩ rfl
    | succ j ih =>
      intro x u v w1 sh1 wa1 f1 s1 hij q1 q2 q3 q4 q5 q6 q7 q8
      have lq : ∀ (j2 y : Nat) (v : Int) (w1 : List Int) (sh1 : List Int) (wa1 : Int) (f1 : List Int) (s1 : List Int), y + j2 = 5 → (w1.length = 7) → (sh1.length = 7) → (0 ≤ v ∧ v ≤ 35) → (f1.length = 25) → (s1.length = 25) → (∀ e, e < x * 5 + y → f1.getD e 0 = (chS p k f c t a b a) e) → (∀ e, e < x * 5 + y → s1.getD e 0 = (chS p k f c t a b b) e) → AW mX5_weighChoices 5 0 0 N none (fun rv h => rv = none ∧ ∃ (B2 : List (Option aE)) (fs2 ss2 : List Int), thk B2 ∧ fs2.length = 25 ∧ ss2.length = 25 ∧ (∀ e, e < 25 → fs2.getD e 0 = (chS p k f c t a b a) e) ∧ (∀ e, e < 25 → ss2.getD e 0 = (chS p k f c t a b b) e) ∧ h = [A0, (moSeg 32 k f c n kp l nt w sh (p : Int) t d wa), B2, (miscSeg z fs2 ss2 sp la gr tl tp), B4, A5, C6]) (42, [some (.inr 97), some (.inl (a : Int)), some (.inl (b : Int)), some (.inl (x : Int)), some (.inl (y : Int))], [], [A0, (moSeg 32 k f c n kp l nt w sh (p : Int) t d wa), (moSeg 64 k f ((c.set a (mov (c.getD a 0) x)).set b v) n kp l nt w1 sh1 (p : Int) t d wa1), (miscSeg z f1 s1 sp la gr tl tp), B4, A5, C6]) := by
        intro j2
        induction j2 with
        | zero =>
          intro y v w1 sh1 wa1 f1 s1 hij2 r1 r2 r4 r5 r6 r7 r8
          obtain rfl : 5 = y := by omega
          refine aGo okX5_weighChoices 2 (f' := (45, [some (.inr 97), some (.inl (a : Int)), some (.inl (b : Int)), some (.inl (x : Int)), some (.inl (5 : Int))], [.inl 5, .inl (5 : Int)], _)) rfl ?_
          refine b_ge (tgt := 118) okX5_weighChoices rfl rfl ⟨by omega, by omega⟩ ⟨by omega, by omega⟩ (fun h45 => ?_) (fun h45 => absurd h45 (by omega))
          refine aGo okX5_weighChoices 2 (f' := (13, [some (.inr 97), some (.inl (a : Int)), some (.inl (b : Int)), some (.inl ((x : Int) + 1)), some (.inl (5 : Int))], [], _)) rfl ?_
          refine b_lose (ls' := [some (.inr 97), some (.inl (a : Int)), some (.inl (b : Int)), some (.inl ((x : Int) + 1)), none]) (lose4g _ _ _ _ _) ?_
          exact ih (x + 1) (mov (c.getD a 0) x) v w1 sh1 wa1 f1 s1 (by omega) r1 r2 (mov_le (rc a) x) r4 r5 r6 (fun e he => r7 e (by omega)) (fun e he => r8 e (by omega))
        | succ j2 ih2 =>
          intro y v w1 sh1 wa1 f1 s1 hij2 r1 r2 r4 r5 r6 r7 r8
          refine aGo okX5_weighChoices 2 (f' := (45, [some (.inr 97), some (.inl (a : Int)), some (.inl (b : Int)), some (.inl (x : Int)), some (.inl (y : Int))], [.inl 5, .inl (y : Int)], _)) rfl ?_
          refine b_ge (tgt := 118) okX5_weighChoices rfl rfl ⟨by omega, by omega⟩ ⟨by omega, by omega⟩ (fun h45 => absurd h45 (by omega)) (fun h45 => ?_)
          refine aGo okX5_weighChoices 7 (f' := (59, [some (.inr 97), some (.inl (a : Int)), some (.inl (b : Int)), some (.inl (x : Int)), some (.inl (y : Int))], [.inl (b : Int), .inr 32, .inr 97, .inl (b : Int), .inr 64], _)) rfl ?_
          refine b_vV (as := [.inl (b : Int)]) (rest := [.inr 97, .inl (b : Int), .inr 64]) (k := 32) (.inl (c.getD b 0)) okX5_weighChoices rfl lkX5_89 caX3_cellOf (Nat.le_of_ble_eq_true rfl) rfl (Nat.le_of_ble_eq_true rfl) rfl rfl rfl (c_cellOf_1 (i := b) (by first | omega | (simp only [List.length_set]; omega)) (by omega)) ?_
          refine aGo okX5_weighChoices 1 (f' := (64, [some (.inr 97), some (.inl (a : Int)), some (.inl (b : Int)), some (.inl (x : Int)), some (.inl (y : Int))], [.inl (y : Int), .inl (c.getD b 0), .inr 97, .inl (b : Int), .inr 64], _)) rfl ?_
          refine b_vV (as := [.inl (c.getD b 0), .inl (y : Int)]) (rest := [.inl (b : Int), .inr 64]) (k := 97) (.inl (mov (c.getD b 0) y)) okX5_weighChoices rfl lkX5_102 caX5_chosenCell (Nat.le_of_ble_eq_true rfl) rfl (Nat.le_of_ble_eq_true rfl) rfl rfl rfl (c_chosenCell (w := y) (by omega) (rc _)) ?_
          refine b_vE (as := [.inl (b : Int), .inl (mov (c.getD b 0) y)]) (rest := []) (k := 64) okX5_weighChoices rfl lkX5_43 caX3_place (Nat.le_of_ble_eq_true rfl) rfl (Nat.le_of_ble_eq_true rfl) rfl rfl rfl (c_place_2 ⟨hp7, hk, hf, (by rw [List.length_set, List.length_set]; exact hc), r1, r2, rk, rf, (rng_set (rng_set rc (mov_le (rc a) x).1 (mov_le (rc a) x).2) r4.1 r4.2), ht0, ht1⟩ (i := b) (by omega) (v := (mov (c.getD b 0) y)) (mov_le (rc _) _).1 (mov_le (rc _) _).2) ?_
          rintro _ _ ⟨rfl, w3, sh3, zw3, zs3, rfl⟩
          rw [List.set_set] at zw3 zs3 ⊢
          have e1 := zs3.1
          have e2 := r5
          have e3 := r6
          refine aGo okX5_weighChoices 10 (f' := (85, [some (.inr 97), some (.inl (a : Int)), some (.inl (b : Int)), some (.inl (x : Int)), some (.inl (y : Int))], [.inl (a : Int), .inr 64, .inl (((x : Int) * 5) + (y : Int)), .inr 99], _)) rfl ?_
          refine b_vV (as := [.inl (a : Int)]) (rest := [.inl (((x : Int) * 5) + (y : Int)), .inr 99]) (k := 64) (.inl (sh3.getD a 0)) okX5_weighChoices rfl lkX5_47 caX3_shareOf (Nat.le_of_ble_eq_true rfl) rfl (Nat.le_of_ble_eq_true rfl) rfl rfl rfl (c_shareOf_2 (i := a) (by first | omega | (simp only [List.length_set]; omega)) (by omega)) ?_
          refine b_vN (as := [.inl (((x : Int) * 5) + (y : Int)), .inl (sh3.getD a 0)]) (rest := []) (k := 99) okX5_weighChoices rfl lkX5_105 caX4_put (Nat.le_of_ble_eq_true rfl) rfl (Nat.le_of_ble_eq_true rfl) rfl rfl rfl (c_put (i := ((x * 5) + y)) rfl rfl (by first | omega | (simp only [List.length_set]; omega)) (by first | omega | (simp only [List.length_set]; omega)) (sh3.getD a 0)) ?_
          refine b_cast (f' := (91, [some (.inr 97), some (.inl (a : Int)), some (.inl (b : Int)), some (.inl (x : Int)), some (.inl (y : Int))], [], [A0, (moSeg 32 k f c n kp l nt w sh (p : Int) t d wa), (moSeg 64 k f ((c.set a (mov (c.getD a 0) x)).set b (mov (c.getD b 0) y)) n kp l nt w3 sh3 (p : Int) t d (wAll p k f ((c.set a (mov (c.getD a 0) x)).set b (mov (c.getD b 0) y)))), (miscSeg z (f1.set ((x * 5) + y) (sh3.getD a 0)) s1 sp la gr tl tp), B4, A5, C6])) rfl ?_
          refine aGo okX5_weighChoices 10 (f' := (106, [some (.inr 97), some (.inl (a : Int)), some (.inl (b : Int)), some (.inl (x : Int)), some (.inl (y : Int))], [.inl (b : Int), .inr 64, .inl (((x : Int) * 5) + (y : Int)), .inr 101], _)) rfl ?_
          refine b_vV (as := [.inl (b : Int)]) (rest := [.inl (((x : Int) * 5) + (y : Int)), .inr 101]) (k := 64) (.inl (sh3.getD b 0)) okX5_weighChoices rfl lkX5_47 caX3_shareOf (Nat.le_of_ble_eq_true rfl) rfl (Nat.le_of_ble_eq_true rfl) rfl rfl rfl (c_shareOf_2 (i := b) (by first | omega | (simp only [List.length_set]; omega)) (by omega)) ?_
          refine b_vN (as := [.inl (((x : Int) * 5) + (y : Int)), .inl (sh3.getD b 0)]) (rest := []) (k := 101) okX5_weighChoices rfl lkX5_105 caX4_put (Nat.le_of_ble_eq_true rfl) rfl (Nat.le_of_ble_eq_true rfl) rfl rfl rfl (c_put (i := ((x * 5) + y)) rfl rfl (by first | omega | (simp only [List.length_set]; omega)) (by first | omega | (simp only [List.length_set]; omega)) (sh3.getD b 0)) ?_
          refine b_cast (f' := (112, [some (.inr 97), some (.inl (a : Int)), some (.inl (b : Int)), some (.inl (x : Int)), some (.inl (y : Int))], [], [A0, (moSeg 32 k f c n kp l nt w sh (p : Int) t d wa), (moSeg 64 k f ((c.set a (mov (c.getD a 0) x)).set b (mov (c.getD b 0) y)) n kp l nt w3 sh3 (p : Int) t d (wAll p k f ((c.set a (mov (c.getD a 0) x)).set b (mov (c.getD b 0) y)))), (miscSeg z (f1.set ((x * 5) + y) (sh3.getD a 0)) (s1.set ((x * 5) + y) (sh3.getD b 0)) sp la gr tl tp), B4, A5, C6])) rfl ?_
          refine aGo okX5_weighChoices 2 (f' := (42, [some (.inr 97), some (.inl (a : Int)), some (.inl (b : Int)), some (.inl (x : Int)), some (.inl ((y : Int) + 1))], [], _)) rfl ?_
          have g1 := zs3.2 a ha
          have g2 := zs3.2 b hb
          rw [← chC_at (c := c) (a := a) (b := b) (x := x) (y := y) (by omega)] at g1 g2
          exact ih2 (y + 1) (mov (c.getD b 0) y) w3 sh3 _ _ _ (by omega) zw3.1 zs3.1 (mov_le (rc b) y) (by rw [List.length_set]; exact r5) (by rw [List.length_set]; exact r6) (set_upto (i := x * 5 + y) (F := (chS p k f c t a b a)) (by omega) g1 r7) (set_upto (i := x * 5 + y) (F := (chS p k f c t a b b)) (by omega) g2 r8)
      refine aGo okX5_weighChoices 2 (f' := (15, [some (.inr 97), some (.inl (a : Int)), some (.inl (b : Int)), some (.inl (x : Int)), none], [.inl 5, .inl (x : Int)], _)) rfl ?_
      refine b_ge (tgt := 124) okX5_weighChoices rfl rfl ⟨by omega, by omega⟩ ⟨by omega, by omega⟩ (fun h15 => absurd h15 (by omega)) (fun h15 => ?_)
      refine aGo okX5_weighChoices 7 (f' := (29, [some (.inr 97), some (.inl (a : Int)), some (.inl (b : Int)), some (.inl (x : Int)), none], [.inl (a : Int), .inr 32, .inr 97, .inl (a : Int), .inr 64], _)) rfl ?_
      refine b_vV (as := [.inl (a : Int)]) (rest := [.inr 97, .inl (a : Int), .inr 64]) (k := 32) (.inl (c.getD a 0)) okX5_weighChoices rfl lkX5_89 caX3_cellOf (Nat.le_of_ble_eq_true rfl) rfl (Nat.le_of_ble_eq_true rfl) rfl rfl rfl (c_cellOf_1 (i := a) (by first | omega | (simp only [List.length_set]; omega)) (by omega)) ?_
      refine aGo okX5_weighChoices 1 (f' := (33, [some (.inr 97), some (.inl (a : Int)), some (.inl (b : Int)), some (.inl (x : Int)), none], [.inl (x : Int), .inl (c.getD a 0), .inr 97, .inl (a : Int), .inr 64], _)) rfl ?_
      refine b_vV (as := [.inl (c.getD a 0), .inl (x : Int)]) (rest := [.inl (a : Int), .inr 64]) (k := 97) (.inl (mov (c.getD a 0) x)) okX5_weighChoices rfl lkX5_102 caX5_chosenCell (Nat.le_of_ble_eq_true rfl) rfl (Nat.le_of_ble_eq_true rfl) rfl rfl rfl (c_chosenCell (w := x) (by omega) (rc _)) ?_
      refine b_vE (as := [.inl (a : Int), .inl (mov (c.getD a 0) x)]) (rest := []) (k := 64) okX5_weighChoices rfl lkX5_43 caX3_place (Nat.le_of_ble_eq_true rfl) rfl (Nat.le_of_ble_eq_true rfl) rfl rfl rfl (c_place_2 ⟨hp7, hk, hf, (by rw [List.length_set, List.length_set]; exact hc), q1, q2, rk, rf, (rng_set (rng_set rc q3.1 q3.2) q4.1 q4.2), ht0, ht1⟩ (i := a) (by omega) (v := (mov (c.getD a 0) x)) (mov_le (rc _) _).1 (mov_le (rc _) _).2) ?_
      rintro _ _ ⟨rfl, w2, sh2, zw2, zs2, rfl⟩
      rw [set3 hab] at zw2 zs2 ⊢
      refine aGo okX5_weighChoices 2 (f' := (42, [some (.inr 97), some (.inl (a : Int)), some (.inl (b : Int)), some (.inl (x : Int)), some (.inl 0)], [], _)) rfl ?_
      exact lq 5 0 v w2 sh2 _ f1 s1 (by omega) zw2.1 zs2.1 q4 q5 q6 (fun e he => q7 e (by omega)) (fun e he => q8 e (by omega))
  refine aGo okX5_weighChoices 4 (f' := (8, [some (.inr 97), some (.inl (a : Int)), some (.inl (b : Int)), none, none], [.inr 32, .inr 64], _)) rfl ?_
  refine b_vN (as := [.inr 32]) (rest := []) (k := 64) okX5_weighChoices rfl lkX5_37 caX3_takeFrom (Nat.le_of_ble_eq_true rfl) rfl (Nat.le_of_ble_eq_true rfl) rfl rfl rfl (c_take_21 (mOK_lens hm) hl0) ?_
  refine b_cast (f' := (11, [some (.inr 97), some (.inl (a : Int)), some (.inl (b : Int)), none, none], [], [A0, (moSeg 32 k f c n kp l nt w sh (p : Int) t d wa), (moSeg 64 k f c n kp l nt w sh (p : Int) t d wa), (miscSeg z fs ss sp la gr tl tp), B4, A5, C6])) rfl ?_
  refine aGo okX5_weighChoices 2 (f' := (13, [some (.inr 97), some (.inl (a : Int)), some (.inl (b : Int)), some (.inl 0), none], [], _)) rfl ?_
  have lp0 := lp 5 0 (c.getD a 0) (c.getD b 0) w sh wa fs ss (by omega) hw hsh (rc _) (rc _) hfs hss (fun e he => by omega) (fun e he => by omega)
  rw [set_self (by omega), set_self (by omega)] at lp0
  exact lp0
set_option maxRecDepth 100000 in
set_option maxHeartbeats 4000000 in
theorem c_isSteady_t {x y : Nat} (hx : x < 5) (hy : y < 5) (hfs : fs.length = 25) (hss : ss.length = 25) (rfs : rng fs 1000) (rss : rng ss 1000) (h : ∀ w, w < 5 → fs.getD (w * 5 + y) 0 ≤ fs.getD (x * 5 + y) 0 ∧ ss.getD (x * 5 + w) 0 ≤ ss.getD (x * 5 + y) 0) : aEv mX5_isSteady 1 0 0 N [.inr 97, .inl (x : Int), .inl (y : Int)] [A0, (moSeg 32 k f c n kp l nt w sh (p : Int) t d wa), B, (miscSeg z fs ss sp la gr tl tp), B4, A5, C6] (aQx (some (.inl 1)) [A0, (moSeg 32 k f c n kp l nt w sh (p : Int) t d wa), B, (miscSeg z fs ss sp la gr tl tp), B4, A5, C6]) := by
  refine aEv_of okX5_isSteady caX5_isSteady (Nat.le_of_ble_eq_true rfl) ?_
  have lp : ∀ (j v : Nat), v + j = 5 → AW mX5_isSteady 1 0 0 N none (aQx (some (.inl 1)) [A0, (moSeg 32 k f c n kp l nt w sh (p : Int) t d wa), B, (miscSeg z fs ss sp la gr tl tp), B4, A5, C6]) (9, [some (.inr 97), some (.inl (x : Int)), some (.inl (y : Int)), some (.inl ((((x * 5) + y) : Nat) : Int)), some (.inl (v : Int))], [], [A0, (moSeg 32 k f c n kp l nt w sh (p : Int) t d wa), B, (miscSeg z fs ss sp la gr tl tp), B4, A5, C6]) := by
    intro j
    induction j with
    | zero =>
      intro v  hij 
      obtain rfl : 5 = v := by omega
      refine aGo okX5_isSteady 2 (f' := (12, [some (.inr 97), some (.inl (x : Int)), some (.inl (y : Int)), some (.inl ((((x * 5) + y) : Nat) : Int)), some (.inl (5 : Int))], [.inl 5, .inl (5 : Int)], _)) rfl ?_
      refine b_ge (tgt := 71) okX5_isSteady rfl rfl ⟨by omega, by omega⟩ ⟨by omega, by omega⟩ (fun h12 => ?_) (fun h12 => absurd h12 (by omega))
      refine aGo okX5_isSteady 1 (f' := (72, [some (.inr 97), some (.inl (x : Int)), some (.inl (y : Int)), some (.inl ((((x * 5) + y) : Nat) : Int)), some (.inl (5 : Int))], [.inl 1], _)) rfl ?_
      exact b_ret (v := (some (.inl 1))) ⟨rfl, Or.inr ⟨rfl, Or.inr rfl⟩⟩ ⟨rfl, rfl⟩ rfl
    | succ j ih =>
      intro v  hij 
      have e1 := rfs (v * 5 + y)
      have e2 := rfs (x * 5 + y)
      have e3 := rss (x * 5 + v)
      have e4 := rss (x * 5 + y)
      have e5 := h v (by omega)
      refine aGo okX5_isSteady 2 (f' := (12, [some (.inr 97), some (.inl (x : Int)), some (.inl (y : Int)), some (.inl ((((x * 5) + y) : Nat) : Int)), some (.inl (v : Int))], [.inl 5, .inl (v : Int)], _)) rfl ?_
      refine b_ge (tgt := 71) okX5_isSteady rfl rfl ⟨by omega, by omega⟩ ⟨by omega, by omega⟩ (fun h12 => absurd h12 (by omega)) (fun h12 => ?_)
      refine aGo okX5_isSteady 7 (f' := (25, [some (.inr 97), some (.inl (x : Int)), some (.inl (y : Int)), some (.inl ((((x * 5) + y) : Nat) : Int)), some (.inl (v : Int))], [.inl (((v : Int) * 5) + (y : Int)), .inr 99], _)) rfl ?_
      refine b_vV (as := [.inl (((v : Int) * 5) + (y : Int))]) (rest := []) (k := 99) (.inl (fs.getD ((v * 5) + y) 0)) okX5_isSteady rfl lkX5_108 caX4_at (Nat.le_of_ble_eq_true rfl) rfl (Nat.le_of_ble_eq_true rfl) rfl rfl rfl (c_at (i := ((v * 5) + y)) rfl rfl (by first | omega | (simp only [List.length_set]; omega)) (by omega)) ?_
      refine aGo okX5_isSteady 3 (f' := (33, [some (.inr 97), some (.inl (x : Int)), some (.inl (y : Int)), some (.inl ((((x * 5) + y) : Nat) : Int)), some (.inl (v : Int))], [.inl ((((x * 5) + y) : Nat) : Int), .inr 99, .inl (fs.getD ((v * 5) + y) 0)], _)) rfl ?_
      refine b_vV (as := [.inl ((((x * 5) + y) : Nat) : Int)]) (rest := [.inl (fs.getD ((v * 5) + y) 0)]) (k := 99) (.inl (fs.getD ((x * 5) + y) 0)) okX5_isSteady rfl lkX5_108 caX4_at (Nat.le_of_ble_eq_true rfl) rfl (Nat.le_of_ble_eq_true rfl) rfl rfl rfl (c_at (i := ((x * 5) + y)) rfl rfl (by first | omega | (simp only [List.length_set]; omega)) (by omega)) ?_
      refine b_gt (tgt := 63) okX5_isSteady rfl rfl ⟨by omega, by omega⟩ ⟨by omega, by omega⟩ (fun h36 => absurd h36 (by omega)) (fun h36 => ?_)
      refine aGo okX5_isSteady 7 (f' := (49, [some (.inr 97), some (.inl (x : Int)), some (.inl (y : Int)), some (.inl ((((x * 5) + y) : Nat) : Int)), some (.inl (v : Int))], [.inl (((x : Int) * 5) + (v : Int)), .inr 101], _)) rfl ?_
      refine b_vV (as := [.inl (((x : Int) * 5) + (v : Int))]) (rest := []) (k := 101) (.inl (ss.getD ((x * 5) + v) 0)) okX5_isSteady rfl lkX5_108 caX4_at (Nat.le_of_ble_eq_true rfl) rfl (Nat.le_of_ble_eq_true rfl) rfl rfl rfl (c_at (i := ((x * 5) + v)) rfl rfl (by first | omega | (simp only [List.length_set]; omega)) (by omega)) ?_
      refine aGo okX5_isSteady 3 (f' := (57, [some (.inr 97), some (.inl (x : Int)), some (.inl (y : Int)), some (.inl ((((x * 5) + y) : Nat) : Int)), some (.inl (v : Int))], [.inl ((((x * 5) + y) : Nat) : Int), .inr 101, .inl (ss.getD ((x * 5) + v) 0)], _)) rfl ?_
      refine b_vV (as := [.inl ((((x * 5) + y) : Nat) : Int)]) (rest := [.inl (ss.getD ((x * 5) + v) 0)]) (k := 101) (.inl (ss.getD ((x * 5) + y) 0)) okX5_isSteady rfl lkX5_108 caX4_at (Nat.le_of_ble_eq_true rfl) rfl (Nat.le_of_ble_eq_true rfl) rfl rfl rfl (c_at (i := ((x * 5) + y)) rfl rfl (by first | omega | (simp only [List.length_set]; omega)) (by omega)) ?_
      refine b_le (tgt := 65) okX5_isSteady rfl rfl ⟨by omega, by omega⟩ ⟨by omega, by omega⟩ (fun h60 => ?_) (fun h60 => absurd h60 (by omega))
      refine aGo okX5_isSteady 2 (f' := (9, [some (.inr 97), some (.inl (x : Int)), some (.inl (y : Int)), some (.inl ((((x * 5) + y) : Nat) : Int)), some (.inl ((v : Int) + 1))], [], _)) rfl ?_
      exact ih (v + 1) (by omega)
  refine aGo okX5_isSteady 8 (f' := (9, [some (.inr 97), some (.inl (x : Int)), some (.inl (y : Int)), some (.inl (((x : Int) * 5) + (y : Int))), some (.inl 0)], [], _)) rfl ?_
  exact lp 5 0 (by omega)
set_option maxRecDepth 100000 in
set_option maxHeartbeats 4000000 in
theorem c_isSteady_f {x y : Nat} (hx : x < 5) (hy : y < 5) (hfs : fs.length = 25) (hss : ss.length = 25) (rfs : rng fs 1000) (rss : rng ss 1000) (h : ∃ w, w < 5 ∧ ¬ (fs.getD (w * 5 + y) 0 ≤ fs.getD (x * 5 + y) 0 ∧ ss.getD (x * 5 + w) 0 ≤ ss.getD (x * 5 + y) 0)) : aEv mX5_isSteady 1 0 0 N [.inr 97, .inl (x : Int), .inl (y : Int)] [A0, (moSeg 32 k f c n kp l nt w sh (p : Int) t d wa), B, (miscSeg z fs ss sp la gr tl tp), B4, A5, C6] (aQx (some (.inl 0)) [A0, (moSeg 32 k f c n kp l nt w sh (p : Int) t d wa), B, (miscSeg z fs ss sp la gr tl tp), B4, A5, C6]) := by
  refine aEv_of okX5_isSteady caX5_isSteady (Nat.le_of_ble_eq_true rfl) ?_
  have lp : ∀ (j v : Nat), v + j = 5 → (∃ w, v ≤ w ∧ w < 5 ∧ ¬ (fs.getD (w * 5 + y) 0 ≤ fs.getD (x * 5 + y) 0 ∧ ss.getD (x * 5 + w) 0 ≤ ss.getD (x * 5 + y) 0)) → AW mX5_isSteady 1 0 0 N none (aQx (some (.inl 0)) [A0, (moSeg 32 k f c n kp l nt w sh (p : Int) t d wa), B, (miscSeg z fs ss sp la gr tl tp), B4, A5, C6]) (9, [some (.inr 97), some (.inl (x : Int)), some (.inl (y : Int)), some (.inl ((((x * 5) + y) : Nat) : Int)), some (.inl (v : Int))], [], [A0, (moSeg 32 k f c n kp l nt w sh (p : Int) t d wa), B, (miscSeg z fs ss sp la gr tl tp), B4, A5, C6]) := by
    intro j
    induction j with
    | zero =>
      intro v  hij h1
      obtain ⟨w, g1, g2, g3⟩ := h1
      omega
    | succ j ih =>
      intro v  hij h1
      have e1 := rfs (v * 5 + y)
      have e2 := rfs (x * 5 + y)
      have e3 := rss (x * 5 + v)
      have e4 := rss (x * 5 + y)
      refine aGo okX5_isSteady 2 (f' := (12, [some (.inr 97), some (.inl (x : Int)), some (.inl (y : Int)), some (.inl ((((x * 5) + y) : Nat) : Int)), some (.inl (v : Int))], [.inl 5, .inl (v : Int)], _)) rfl ?_
      refine b_ge (tgt := 71) okX5_isSteady rfl rfl ⟨by omega, by omega⟩ ⟨by omega, by omega⟩ (fun h12 => absurd h12 (by omega)) (fun h12 => ?_)
      refine aGo okX5_isSteady 7 (f' := (25, [some (.inr 97), some (.inl (x : Int)), some (.inl (y : Int)), some (.inl ((((x * 5) + y) : Nat) : Int)), some (.inl (v : Int))], [.inl (((v : Int) * 5) + (y : Int)), .inr 99], _)) rfl ?_
      refine b_vV (as := [.inl (((v : Int) * 5) + (y : Int))]) (rest := []) (k := 99) (.inl (fs.getD ((v * 5) + y) 0)) okX5_isSteady rfl lkX5_108 caX4_at (Nat.le_of_ble_eq_true rfl) rfl (Nat.le_of_ble_eq_true rfl) rfl rfl rfl (c_at (i := ((v * 5) + y)) rfl rfl (by first | omega | (simp only [List.length_set]; omega)) (by omega)) ?_
      refine aGo okX5_isSteady 3 (f' := (33, [some (.inr 97), some (.inl (x : Int)), some (.inl (y : Int)), some (.inl ((((x * 5) + y) : Nat) : Int)), some (.inl (v : Int))], [.inl ((((x * 5) + y) : Nat) : Int), .inr 99, .inl (fs.getD ((v * 5) + y) 0)], _)) rfl ?_
      refine b_vV (as := [.inl ((((x * 5) + y) : Nat) : Int)]) (rest := [.inl (fs.getD ((v * 5) + y) 0)]) (k := 99) (.inl (fs.getD ((x * 5) + y) 0)) okX5_isSteady rfl lkX5_108 caX4_at (Nat.le_of_ble_eq_true rfl) rfl (Nat.le_of_ble_eq_true rfl) rfl rfl rfl (c_at (i := ((x * 5) + y)) rfl rfl (by first | omega | (simp only [List.length_set]; omega)) (by omega)) ?_
      refine b_gt (tgt := 63) okX5_isSteady rfl rfl ⟨by omega, by omega⟩ ⟨by omega, by omega⟩ (fun h36 => ?_) (fun h36 => ?_)
      · refine aGo okX5_isSteady 1 (f' := (64, [some (.inr 97), some (.inl (x : Int)), some (.inl (y : Int)), some (.inl ((((x * 5) + y) : Nat) : Int)), some (.inl (v : Int))], [.inl 0], _)) rfl ?_
        exact b_ret (v := (some (.inl 0))) ⟨rfl, Or.inr ⟨rfl, Or.inl rfl⟩⟩ ⟨rfl, rfl⟩ rfl
      · refine aGo okX5_isSteady 7 (f' := (49, [some (.inr 97), some (.inl (x : Int)), some (.inl (y : Int)), some (.inl ((((x * 5) + y) : Nat) : Int)), some (.inl (v : Int))], [.inl (((x : Int) * 5) + (v : Int)), .inr 101], _)) rfl ?_
        refine b_vV (as := [.inl (((x : Int) * 5) + (v : Int))]) (rest := []) (k := 101) (.inl (ss.getD ((x * 5) + v) 0)) okX5_isSteady rfl lkX5_108 caX4_at (Nat.le_of_ble_eq_true rfl) rfl (Nat.le_of_ble_eq_true rfl) rfl rfl rfl (c_at (i := ((x * 5) + v)) rfl rfl (by first | omega | (simp only [List.length_set]; omega)) (by omega)) ?_
        refine aGo okX5_isSteady 3 (f' := (57, [some (.inr 97), some (.inl (x : Int)), some (.inl (y : Int)), some (.inl ((((x * 5) + y) : Nat) : Int)), some (.inl (v : Int))], [.inl ((((x * 5) + y) : Nat) : Int), .inr 101, .inl (ss.getD ((x * 5) + v) 0)], _)) rfl ?_
        refine b_vV (as := [.inl ((((x * 5) + y) : Nat) : Int)]) (rest := [.inl (ss.getD ((x * 5) + v) 0)]) (k := 101) (.inl (ss.getD ((x * 5) + y) 0)) okX5_isSteady rfl lkX5_108 caX4_at (Nat.le_of_ble_eq_true rfl) rfl (Nat.le_of_ble_eq_true rfl) rfl rfl rfl (c_at (i := ((x * 5) + y)) rfl rfl (by first | omega | (simp only [List.length_set]; omega)) (by omega)) ?_
        refine b_le (tgt := 65) okX5_isSteady rfl rfl ⟨by omega, by omega⟩ ⟨by omega, by omega⟩ (fun h60 => ?_) (fun h60 => ?_)
        · refine aGo okX5_isSteady 2 (f' := (9, [some (.inr 97), some (.inl (x : Int)), some (.inl (y : Int)), some (.inl ((((x * 5) + y) : Nat) : Int)), some (.inl ((v : Int) + 1))], [], _)) rfl ?_
          exact ih (v + 1) (by omega) (by
            obtain ⟨w, g1, g2, g3⟩ := h1
            refine ⟨w, ?_, g2, g3⟩
            by_cases hw : w = v
            · subst hw; omega
            · omega)
        · refine aGo okX5_isSteady 1 (f' := (64, [some (.inr 97), some (.inl (x : Int)), some (.inl (y : Int)), some (.inl ((((x * 5) + y) : Nat) : Int)), some (.inl (v : Int))], [.inl 0], _)) rfl ?_
          exact b_ret (v := (some (.inl 0))) ⟨rfl, Or.inr ⟨rfl, Or.inl rfl⟩⟩ ⟨rfl, rfl⟩ rfl
  refine aGo okX5_isSteady 8 (f' := (9, [some (.inr 97), some (.inl (x : Int)), some (.inl (y : Int)), some (.inl (((x : Int) * 5) + (y : Int))), some (.inl 0)], [], _)) rfl ?_
  exact lp 5 0 (by omega) (by obtain ⟨w, g1, g2⟩ := h; exact ⟨w, Nat.zero_le w, g1, g2⟩)
set_option maxRecDepth 100000 in
set_option maxHeartbeats 4000000 in
theorem c_firstSteadyPair (hm : mOK p k f c n kp l nt w sh t d wa) (hB : thk B) {a b : Nat} (ha : a < p) (hb : b < p) (hab : a ≠ b) (hfs : fs.length = 25) (hss : ss.length = 25) : aEv mX5_firstSteadyPair 6 0 0 N [.inr 97, .inl (a : Int), .inl (b : Int)] [A0, (moSeg 32 k f c n kp l nt w sh (p : Int) t d wa), B, (miscSeg z fs ss sp la gr tl tp), B4, A5, C6] ((fun rv h => rv = some (.inl (sres (firstQ (stM (chS p k f c t a b a) (chS p k f c t a b b)) 25 0))) ∧ ∃ (B2 : List (Option aE)) (fs2 ss2 : List Int), thk B2 ∧ fs2.length = 25 ∧ ss2.length = 25 ∧ h = [A0, (moSeg 32 k f c n kp l nt w sh (p : Int) t d wa), B2, (miscSeg z fs2 ss2 sp la gr tl tp), B4, A5, C6])) := by
  obtain ⟨⟨hp7, hk, hf, hc, hn, hkp, hl, rk, rf, rc, rn, rkp, rl, ht0, ht1, hd0, hd1⟩, ⟨hnt, znt⟩, ⟨hw, zw, zwa⟩, ⟨hsh, zsh⟩⟩ := id hm
  refine aEv_of okX5_firstSteadyPair caX5_firstSteadyPair (Nat.le_of_ble_eq_true rfl) ?_
  refine aGo okX5_firstSteadyPair 3 (f' := (3, [some (.inr 97), some (.inl (a : Int)), some (.inl (b : Int)), none, none], [.inl (b : Int), .inl (a : Int), .inr 97], _)) rfl ?_
  refine b_vE (as := [.inl (a : Int), .inl (b : Int)]) (rest := []) (k := 97) okX5_firstSteadyPair rfl lkX5_95 caX5_weighChoices (Nat.le_of_ble_eq_true rfl) rfl (Nat.le_of_ble_eq_true rfl) rfl rfl rfl (c_weighChoices hm hB ha hb hab hfs hss) ?_
  rintro _ _ ⟨rfl, B2, fs2, ss2, hB2, hf2, hs2, gf, gs, rfl⟩
  have rfs : rng fs2 1000 := fun e => by
    by_cases he : e < 25
    · rw [gf e he]; exact shr_le hp7 rf (chC_rng rc a b e) ⟨ht0, ht1⟩ ha
    · rw [List.getD_eq_getElem?_getD, List.getElem?_eq_none (by omega)]; exact ⟨Int.le_refl 0, by decide⟩
  have rss : rng ss2 1000 := fun e => by
    by_cases he : e < 25
    · rw [gs e he]; exact shr_le hp7 rf (chC_rng rc a b e) ⟨ht0, ht1⟩ hb
    · rw [List.getD_eq_getElem?_getD, List.getElem?_eq_none (by omega)]; exact ⟨Int.le_refl 0, by decide⟩
  have hst : ∀ e, e < 25 → stM (fun e => fs2.getD e 0) (fun e => ss2.getD e 0) e = (stM (chS p k f c t a b a) (chS p k f c t a b b)) e := fun e he => stM_congr gf gs he
  refine aGo okX5_firstSteadyPair 2 (f' := (8, [some (.inr 97), some (.inl (a : Int)), some (.inl (b : Int)), some (.inl 0), none], [], _)) rfl ?_
  have lp : ∀ (j x : Nat), x + j = 5 → AW mX5_firstSteadyPair 6 0 0 N none (fun rv h => rv = some (.inl (sres (firstQ (stM (chS p k f c t a b a) (chS p k f c t a b b)) (25 - x * 5) (x * 5)))) ∧ ∃ (B2 : List (Option aE)) (fs2 ss2 : List Int), thk B2 ∧ fs2.length = 25 ∧ ss2.length = 25 ∧ h = [A0, (moSeg 32 k f c n kp l nt w sh (p : Int) t d wa), B2, (miscSeg z fs2 ss2 sp la gr tl tp), B4, A5, C6]) (8, [some (.inr 97), some (.inl (a : Int)), some (.inl (b : Int)), some (.inl (x : Int)), none], [], [A0, (moSeg 32 k f c n kp l nt w sh (p : Int) t d wa), B2, (miscSeg z fs2 ss2 sp la gr tl tp), B4, A5, C6]) := by
    intro j
    induction j with
    | zero =>
      intro x hij
      obtain rfl : 5 = x := by omega
      refine aGo okX5_firstSteadyPair 2 (f' := (10, [some (.inr 97), some (.inl (a : Int)), some (.inl (b : Int)), some (.inl (5 : Int)), none], [.inl 5, .inl (5 : Int)], _)) rfl ?_
      refine b_ge (tgt := 52) okX5_firstSteadyPair rfl rfl ⟨by omega, by omega⟩ ⟨by omega, by omega⟩ (fun h10 => ?_) (fun h10 => absurd h10 (by omega))
      refine aGo okX5_firstSteadyPair 1 (f' := (54, [some (.inr 97), some (.inl (a : Int)), some (.inl (b : Int)), some (.inl (5 : Int)), none], [.inl (-9)], _)) rfl ?_
      exact b_ret (v := (some (.inl (-9)))) ⟨rfl, Or.inl rfl⟩ ⟨rfl, B2, fs2, ss2, hB2, hf2, hs2, rfl⟩ rfl
    | succ j ih =>
      intro x hij
      have lq : ∀ (j2 y : Nat), y + j2 = 5 → AW mX5_firstSteadyPair 6 0 0 N none (fun rv h => rv = some (.inl (sres (firstQ (stM (chS p k f c t a b a) (chS p k f c t a b b)) (25 - (x * 5 + y)) (x * 5 + y)))) ∧ ∃ (B2 : List (Option aE)) (fs2 ss2 : List Int), thk B2 ∧ fs2.length = 25 ∧ ss2.length = 25 ∧ h = [A0, (moSeg 32 k f c n kp l nt w sh (p : Int) t d wa), B2, (miscSeg z fs2 ss2 sp la gr tl tp), B4, A5, C6]) (16, [some (.inr 97), some (.inl (a : Int)), some (.inl (b : Int)), some (.inl (x : Int)), some (.inl (y : Int))], [], [A0, (moSeg 32 k f c n kp l nt w sh (p : Int) t d wa), B2, (miscSeg z fs2 ss2 sp la gr tl tp), B4, A5, C6]) := by
        intro j2
        induction j2 with
        | zero =>
          intro y hij2
          obtain rfl : 5 = y := by omega
          refine aGo okX5_firstSteadyPair 2 (f' := (19, [some (.inr 97), some (.inl (a : Int)), some (.inl (b : Int)), some (.inl (x : Int)), some (.inl (5 : Int))], [.inl 5, .inl (5 : Int)], _)) rfl ?_
          refine b_ge (tgt := 46) okX5_firstSteadyPair rfl rfl ⟨by omega, by omega⟩ ⟨by omega, by omega⟩ (fun h19 => ?_) (fun h19 => absurd h19 (by omega))
          refine aGo okX5_firstSteadyPair 2 (f' := (8, [some (.inr 97), some (.inl (a : Int)), some (.inl (b : Int)), some (.inl ((x : Int) + 1)), some (.inl (5 : Int))], [], _)) rfl ?_
          refine b_lose (ls' := [some (.inr 97), some (.inl (a : Int)), some (.inl (b : Int)), some (.inl ((x : Int) + 1)), none]) (lose4g _ _ _ _ _) ?_
          rw [show x * 5 + 5 = (x + 1) * 5 by omega]
          exact ih (x + 1) (by omega)
        | succ j2 ih2 =>
          intro y hij2
          rw [show 25 - (x * 5 + y) = (24 - (x * 5 + y)) + 1 by omega]
          have hxy := hst (x * 5 + y) (by omega)
          have d1 : (x * 5 + y) / 5 = x := by omega
          have d2 : (x * 5 + y) % 5 = y := by omega
          refine aGo okX5_firstSteadyPair 2 (f' := (19, [some (.inr 97), some (.inl (a : Int)), some (.inl (b : Int)), some (.inl (x : Int)), some (.inl (y : Int))], [.inl 5, .inl (y : Int)], _)) rfl ?_
          refine b_ge (tgt := 46) okX5_firstSteadyPair rfl rfl ⟨by omega, by omega⟩ ⟨by omega, by omega⟩ (fun h19 => absurd h19 (by omega)) (fun h19 => ?_)
          refine aGo okX5_firstSteadyPair 3 (f' := (26, [some (.inr 97), some (.inl (a : Int)), some (.inl (b : Int)), some (.inl (x : Int)), some (.inl (y : Int))], [.inl (y : Int), .inl (x : Int), .inr 97], _)) rfl ?_
          by_cases hc26 : (stM (chS p k f c t a b a) (chS p k f c t a b b)) (x * 5 + y) = true
          · rw [firstQ_t hc26]
            refine b_vV (as := [.inl (x : Int), .inl (y : Int)]) (rest := []) (k := 97) (.inl 1) okX5_firstSteadyPair rfl lkX5_98 caX5_isSteady (Nat.le_of_ble_eq_true rfl) rfl (Nat.le_of_ble_eq_true rfl) rfl rfl rfl (c_isSteady_t (x := x) (y := y) (by omega) (by omega) hf2 hs2 rfs rss (fun w hw => by rw [hc26] at hxy; have := stM_t hxy hw; rw [d1, d2] at this; exact this)) ?_
            refine b0_eq (tgt := 40) okX5_firstSteadyPair rfl rfl ⟨by omega, by omega⟩ (fun h29 => absurd h29 (by omega)) (fun h29 => ?_)
            refine aGo okX5_firstSteadyPair 5 (f' := (39, [some (.inr 97), some (.inl (a : Int)), some (.inl (b : Int)), some (.inl (x : Int)), some (.inl (y : Int))], [.inl ((10 * (x : Int)) + (y : Int))], _)) rfl ?_
            exact b_ret (v := (some (.inl ((10 * (x : Int)) + (y : Int))))) ⟨rfl, Or.inl rfl⟩ ⟨by rw [sres_at (by omega)], B2, fs2, ss2, hB2, hf2, hs2, rfl⟩ rfl
          · have hcf : (stM (chS p k f c t a b a) (chS p k f c t a b b)) (x * 5 + y) = false := by cases hz : (stM (chS p k f c t a b a) (chS p k f c t a b b)) (x * 5 + y) with | true => exact absurd hz hc26 | false => rfl
            rw [firstQ_f hcf]
            have hxf := hxy.trans hcf
            refine b_vV (as := [.inl (x : Int), .inl (y : Int)]) (rest := []) (k := 97) (.inl 0) okX5_firstSteadyPair rfl lkX5_98 caX5_isSteady (Nat.le_of_ble_eq_true rfl) rfl (Nat.le_of_ble_eq_true rfl) rfl rfl rfl (c_isSteady_f (x := x) (y := y) (by omega) (by omega) hf2 hs2 rfs rss (by obtain ⟨w, hw, h9⟩ := stM_f hxf; rw [d1, d2] at h9; exact ⟨w, hw, h9⟩)) ?_
            refine b0_eq (tgt := 40) okX5_firstSteadyPair rfl rfl ⟨by omega, by omega⟩ (fun h29 => ?_) (fun h29 => absurd h29 (by omega))
            refine aGo okX5_firstSteadyPair 2 (f' := (16, [some (.inr 97), some (.inl (a : Int)), some (.inl (b : Int)), some (.inl (x : Int)), some (.inl ((y : Int) + 1))], [], _)) rfl ?_
            rw [show 24 - (x * 5 + y) = 25 - (x * 5 + (y + 1)) by omega, show x * 5 + y + 1 = x * 5 + (y + 1) by omega]
            exact ih2 (y + 1) (by omega)
      refine aGo okX5_firstSteadyPair 2 (f' := (10, [some (.inr 97), some (.inl (a : Int)), some (.inl (b : Int)), some (.inl (x : Int)), none], [.inl 5, .inl (x : Int)], _)) rfl ?_
      refine b_ge (tgt := 52) okX5_firstSteadyPair rfl rfl ⟨by omega, by omega⟩ ⟨by omega, by omega⟩ (fun h10 => absurd h10 (by omega)) (fun h10 => ?_)
      refine aGo okX5_firstSteadyPair 2 (f' := (16, [some (.inr 97), some (.inl (a : Int)), some (.inl (b : Int)), some (.inl (x : Int)), some (.inl 0)], [], _)) rfl ?_
      exact lq 5 0 (by omega)
  exact lp 5 0 (by omega)
end AOC
