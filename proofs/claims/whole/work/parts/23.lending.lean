/-! Lending; laid by gen_lend.py -/
theorem shr_bit : ∀ x : Nat, x < 64 → ∀ i : Nat, i < 7 → aAnd (aShr (x : Int) (i : Int)) 1 = if x.testBit i = true then 1 else 0 := by decide +kernel
theorem shl_pow : ∀ p : Nat, p < 8 → aShl 1 (p : Int) = ((2 ^ p : Nat) : Int) := by decide +kernel
theorem clr_bit : ∀ x : Nat, x < 64 → ∀ i : Nat, i < 7 → x.testBit i = true → aAnd (x : Int) (aXor (aShl 1 (i : Int)) (-1)) = ((x - 2 ^ i : Nat) : Int) := by decide +kernel
/-- is one of those beside x, with something to spare, near q -/
def nrB (p : Nat) (S : Nat → Int) (c : List Int) (g : Int) (x q : Nat) : Bool := (List.range p).any fun e => !x.testBit e && decide (0 < S e) && decide (stp (c.getD e 0) (c.getD q 0) ≤ g)
theorem nrB_iff {p : Nat} {S : Nat → Int} {c : List Int} {g : Int} {x q : Nat} : nrB p S c g x q = true ↔ ∃ e, e < p ∧ x.testBit e = false ∧ 0 < S e ∧ stp (c.getD e 0) (c.getD q 0) ≤ g := by
  unfold nrB
  rw [List.any_eq_true]
  constructor
  · rintro ⟨e, h1, h2⟩
    have h1 := List.mem_range.mp h1
    simp only [Bool.and_eq_true, Bool.not_eq_true', decide_eq_true_eq] at h2
    exact ⟨e, h1, h2.1.1, h2.1.2, h2.2⟩
  · rintro ⟨e, h1, h2, h3, h4⟩
    refine ⟨e, List.mem_range.mpr h1, ?_⟩
    simp only [Bool.and_eq_true, Bool.not_eq_true', decide_eq_true_eq]
    exact ⟨⟨h2, h3⟩, h4⟩
/-- what one adds to a cut -/
def cuT (p : Nat) (S L : Nat → Int) (c : List Int) (g : Int) (x q : Nat) : Int := (if x.testBit q = true then S q else 0) + (if 0 < L q ∧ nrB p S c g x q = true then L q else 0)
def cuF (p : Nat) (S L : Nat → Int) (c : List Int) (g : Int) (x : Nat) : Int := sumN p (cuT p S L c g x)
theorem cuT_le {p : Nat} {S L : Nat → Int} {c : List Int} {g : Int} {x q : Nat} (h : 0 ≤ S q ∧ S q ≤ 10000 ∧ 0 ≤ L q ∧ L q ≤ 10000) : 0 ≤ cuT p S L c g x q ∧ cuT p S L c g x q ≤ 20000 := by
  unfold cuT; split <;> split <;> omega
theorem cuF_le {p : Nat} {S L : Nat → Int} {c : List Int} {g : Int} {x : Nat} {m : Nat} (hm : m ≤ 7) (h : ∀ q, q < m → 0 ≤ S q ∧ S q ≤ 10000 ∧ 0 ≤ L q ∧ L q ≤ 10000) : 0 ≤ sumN m (cuT p S L c g x) ∧ sumN m (cuT p S L c g x) ≤ 140000 := by
  have h1 := sumN_ge (n := m) (F := cuT p S L c g x) (b := 0) (fun q hq => (cuT_le (h q hq)).1)
  have h2 := sumN_le (n := m) (F := cuT p S L c g x) (b := 20000) (fun q hq => (cuT_le (h q hq)).2)
  omega
def mnX (G : Nat → Int) : Nat → Int
  | 0 => 2147483647
  | x + 1 => min (mnX G x) (G x)
theorem mnX_le {G : Nat → Int} {m : Nat} (h : ∀ x, x < m → 0 ≤ G x ∧ G x ≤ 140000) : ∀ x, x ≤ m → 0 ≤ mnX G x ∧ mnX G x ≤ 2147483647 := by
  intro x
  induction x with
  | zero => intro _; exact ⟨(by decide : (0 : Int) ≤ 2147483647), (by decide : (2147483647 : Int) ≤ 2147483647)⟩
  | succ x ih =>
    intro hx
    have h1 := ih (by omega)
    have h2 := h x (by omega)
    simp only [mnX]; omega
def sprV (p : Nat) (k f c n l : List Int) (t : Int) (q : Nat) : Int := max 0 (hasM p k f c l t q - n.getD q 0)
def lckV (p : Nat) (k f c n l : List Int) (t : Int) (q : Nat) : Int := max 0 (-(hasM p k f c l t q - n.getD q 0))
theorem sprV_le {p : Nat} {k f c n l : List Int} {t : Int} (hp : p ≤ 7) (rf : rng f 9) (rc : rng c 35) (rn : rng n 99) (rl : rng l 99) (ht : 0 ≤ t ∧ t ≤ 999) {q : Nat} (hq : q < p) : 0 ≤ sprV p k f c n l t q ∧ sprV p k f c n l t q ≤ 10000 ∧ 0 ≤ lckV p k f c n l t q ∧ lckV p k f c n l t q ≤ 10000 := by
  have h1 := shr_le (k := k) hp rf rc ht hq
  have h2 := net_le hp rl q
  have h3 := rn q
  unfold sprV lckV hasM; omega
/-! groups that settle among themselves -/
def mstN (F : Nat → Int) (x : Nat) : Nat → Int
  | 0 => 0
  | q + 1 => if x.testBit q = true then max (mstN F x q) (F (x - 2 ^ q)) else mstN F x q
def ntS (V : Nat → Int) (x m : Nat) : Int := sumN m (fun q => if x.testBit q = true then V q else 0)
def dpF (p : Nat) (V : Nat → Int) : Nat → Nat → Int
  | 0, _ => 0
  | x + 1, y => if y = x + 1 then (if ntS V (x + 1) p = 0 then mstN (dpF p V x) (x + 1) p + 1 else mstN (dpF p V x) (x + 1) p) else dpF p V x y
theorem mstN_le {F : Nat → Int} {b : Int} (hb : 0 ≤ b) (h : ∀ y, 0 ≤ F y ∧ F y ≤ b) (x m : Nat) : 0 ≤ mstN F x m ∧ mstN F x m ≤ b := by
  induction m with
  | zero => exact ⟨Int.le_refl 0, hb⟩
  | succ m ih =>
    have := h (x - 2 ^ m)
    simp only [mstN]; split <;> omega
theorem dpF_le (p : Nat) (V : Nat → Int) (x y : Nat) : 0 ≤ dpF p V x y ∧ dpF p V x y ≤ x := by
  induction x generalizing y with
  | zero => exact ⟨Int.le_refl 0, Int.le_refl 0⟩
  | succ x ih =>
    have := ih y
    have h2 := mstN_le (F := dpF p V x) (b := x) (by omega) ih (x + 1) p
    simp only [dpF]; split
    · split <;> omega
    · omega
theorem dpF_at {p : Nat} {V : Nat → Int} {x : Nat} : dpF p V (x + 1) (x + 1) = if ntS V (x + 1) p = 0 then mstN (dpF p V x) (x + 1) p + 1 else mstN (dpF p V x) (x + 1) p := if_pos rfl
theorem dpF_lt {p : Nat} {V : Nat → Int} {x y : Nat} (h : y ≠ x + 1) : dpF p V (x + 1) y = dpF p V x y := if_neg h
theorem ntS_le {V : Nat → Int} {x m : Nat} (hm : m ≤ 7) (h : ∀ q, -700 ≤ V q ∧ V q ≤ 700) : -4900 ≤ ntS V x m ∧ ntS V x m ≤ 4900 := by
  have h1 := sumN_ge (n := m) (F := fun q => if x.testBit q = true then V q else 0) (b := -700) (fun q _ => by have := h q; show -700 ≤ (if x.testBit q = true then V q else 0); split <;> omega)
  have h2 := sumN_le (n := m) (F := fun q => if x.testBit q = true then V q else 0) (b := 700) (fun q _ => by have := h q; show (if x.testBit q = true then V q else 0) ≤ 700; split <;> omega)
  unfold ntS; omega
theorem lose345 (a0 a1 a2 a3 a4 a5 : Option aV) : ∀ (i : Nat) (v : aV), [a0, a1, a2, none, none, none][i]? = some (some v) → [a0, a1, a2, a3, a4, a5][i]? = some (some v) := by
  intro i v h
  match i, h with
  | 0, h => exact h
  | 1, h => exact h
  | 2, h => exact h
  | 3, h => simp at h
  | 4, h => simp at h
  | 5, h => simp at h
  | i + 6, h => simp at h
section ALE
variable {A0 A3 B B2 B4 A5 C6 : List (Option aE)} {k f c n kp l nt w sh : List Int} {p : Nat} {t d wa : Int} {N : Nat} {z tl : Int} {fs ss sp la gr tp : List Int}
variable {S L : Nat → Int} {g : Int}
set_option maxRecDepth 100000 in
set_option maxHeartbeats 4000000 in
theorem c_lackingOfAll (hm : mOK p k f c n kp l nt w sh t d wa) : aEv mX2_lackingOfAll 2 0 0 N [.inr 103] [A0, (moSeg 32 k f c n kp l nt w sh (p : Int) t d wa), B, (miscSeg z fs ss sp la gr tl tp), B4, A5, C6] ((aQx (some (.inl (sumN p (lckV p k f c n l t)))) [A0, (moSeg 32 k f c n kp l nt w sh (p : Int) t d wa), B, (miscSeg z fs ss sp la gr tl tp), B4, A5, C6])) := by
  obtain ⟨⟨hp7, hk, hf, hc, hn, hkp, hl, rk, rf, rc, rn, rkp, rl, ht0, ht1, hd0, hd1⟩, ⟨hnt, znt⟩, ⟨hw, zw, zwa⟩, ⟨hsh, zsh⟩⟩ := id hm
  have hle := mOK_hle hm
  refine aEv_of okX2_lackingOfAll caX2_lackingOfAll (Nat.le_of_ble_eq_true rfl) ?_
  have lp : ∀ (j v : Nat), v + j = p → AW mX2_lackingOfAll 2 0 0 N none (aQx (some (.inl (sumN p (lckV p k f c n l t)))) [A0, (moSeg 32 k f c n kp l nt w sh (p : Int) t d wa), B, (miscSeg z fs ss sp la gr tl tp), B4, A5, C6]) (4, [some (.inr 103), some (.inl (sumN v (lckV p k f c n l t))), some (.inl (v : Int))], [], [A0, (moSeg 32 k f c n kp l nt w sh (p : Int) t d wa), B, (miscSeg z fs ss sp la gr tl tp), B4, A5, C6]) := by
    intro j
    induction j with
    | zero =>
      intro v  hij 
      obtain rfl : p = v := by omega
      refine aGo okX2_lackingOfAll 3 (f' := (9, [some (.inr 103), some (.inl (sumN p (lckV p k f c n l t))), some (.inl (p : Int))], [.inr 32, .inl (p : Int)], _)) rfl ?_
      refine b_vV (as := []) (rest := [.inl (p : Int)]) (k := 32) (.inl (p : Int)) okX2_lackingOfAll rfl lkX2_30 caX3_people (Nat.le_of_ble_eq_true rfl) rfl (Nat.le_of_ble_eq_true rfl) rfl rfl rfl (c_people_1) ?_
      refine b_ge (tgt := 45) okX2_lackingOfAll rfl rfl ⟨by omega, by omega⟩ ⟨by omega, by omega⟩ (fun h12 => ?_) (fun h12 => absurd h12 (by omega))
      refine aGo okX2_lackingOfAll 1 (f' := (46, [some (.inr 103), some (.inl (sumN p (lckV p k f c n l t))), some (.inl (p : Int))], [.inl (sumN p (lckV p k f c n l t))], _)) rfl ?_
      exact b_ret (v := (some (.inl (sumN p (lckV p k f c n l t))))) ⟨rfl, Or.inl rfl⟩ ⟨rfl, rfl⟩ rfl
    | succ j ih =>
      intro v  hij 
      have e1 := hle v (by omega)
      have e2 := rn v
      have e9 : (lckV p k f c n l t) v = max 0 (n.getD v 0 - (sh.getD v 0 - nt.getD v 0)) := by
        unfold lckV hasM; rw [← zsh v (by omega), ← znt v (by omega)]; congr 1; omega
      refine aGo okX2_lackingOfAll 3 (f' := (9, [some (.inr 103), some (.inl (sumN v (lckV p k f c n l t))), some (.inl (v : Int))], [.inr 32, .inl (v : Int)], _)) rfl ?_
      refine b_vV (as := []) (rest := [.inl (v : Int)]) (k := 32) (.inl (p : Int)) okX2_lackingOfAll rfl lkX2_30 caX3_people (Nat.le_of_ble_eq_true rfl) rfl (Nat.le_of_ble_eq_true rfl) rfl rfl rfl (c_people_1) ?_
      refine b_ge (tgt := 45) okX2_lackingOfAll rfl rfl ⟨by omega, by omega⟩ ⟨by omega, by omega⟩ (fun h12 => absurd h12 (by omega)) (fun h12 => ?_)
      refine aGo okX2_lackingOfAll 5 (f' := (22, [some (.inr 103), some (.inl (sumN v (lckV p k f c n l t))), some (.inl (v : Int))], [.inl (v : Int), .inr 32, .inl 0, .inl (sumN v (lckV p k f c n l t))], _)) rfl ?_
      refine b_vV (as := [.inl (v : Int)]) (rest := [.inl 0, .inl (sumN v (lckV p k f c n l t))]) (k := 32) (.inl (n.getD v 0)) okX2_lackingOfAll rfl lkX2_36 caX3_needOf (Nat.le_of_ble_eq_true rfl) rfl (Nat.le_of_ble_eq_true rfl) rfl rfl rfl (c_needOf_1 (i := v) (by first | omega | (simp only [List.length_set]; omega)) (by omega)) ?_
      refine aGo okX2_lackingOfAll 3 (f' := (30, [some (.inr 103), some (.inl (sumN v (lckV p k f c n l t))), some (.inl (v : Int))], [.inl (v : Int), .inr 32, .inl (n.getD v 0), .inl 0, .inl (sumN v (lckV p k f c n l t))], _)) rfl ?_
      refine b_vV (as := [.inl (v : Int)]) (rest := [.inl (n.getD v 0), .inl 0, .inl (sumN v (lckV p k f c n l t))]) (k := 32) (.inl ((sh.getD v 0) - (nt.getD v 0))) okX2_lackingOfAll rfl lkX2_40 caX3_hasOf (Nat.le_of_ble_eq_true rfl) rfl (Nat.le_of_ble_eq_true rfl) rfl rfl rfl (c_hasOf_1 (i := v) (by first | omega | (simp only [List.length_set]; omega)) (by first | omega | (simp only [List.length_set]; omega)) (by omega)) ?_
      refine aGo okX2_lackingOfAll 1 (f' := (34, [some (.inr 103), some (.inl (sumN v (lckV p k f c n l t))), some (.inl (v : Int))], [.inl ((n.getD v 0) - ((sh.getD v 0) - (nt.getD v 0))), .inl 0, .inl (sumN v (lckV p k f c n l t))], _)) rfl ?_
      refine b_max okX2_lackingOfAll rfl lkX2_43 ma_max_s ma_max_c (Nat.le_of_ble_eq_true rfl) (Nat.le_of_ble_eq_true rfl) ⟨by omega, by omega⟩ ⟨by omega, by omega⟩ ?_
      refine aGo okX2_lackingOfAll 4 (f' := (4, [some (.inr 103), some (.inl ((sumN v (lckV p k f c n l t)) + (max 0 ((n.getD v 0) - ((sh.getD v 0) - (nt.getD v 0)))))), some (.inl ((v : Int) + 1))], [], _)) rfl ?_
      refine b_cast (f' := (4, [some (.inr 103), some (.inl (sumN (v + 1) (lckV p k f c n l t))), some (.inl ((v : Int) + 1))], [], [A0, (moSeg 32 k f c n kp l nt w sh (p : Int) t d wa), B, (miscSeg z fs ss sp la gr tl tp), B4, A5, C6])) (congrArg (fun q : Int => ((4, [some (.inr 103), some (.inl q), some (.inl ((v : Int) + 1))], [], [A0, (moSeg 32 k f c n kp l nt w sh (p : Int) t d wa), B, (miscSeg z fs ss sp la gr tl tp), B4, A5, C6]) : aF)) ((by show _ = sumN v (lckV p k f c n l t) + (lckV p k f c n l t) v; rw [e9]))) ?_
      exact ih (v + 1) (by omega)
  refine aGo okX2_lackingOfAll 4 (f' := (4, [some (.inr 103), some (.inl 0), some (.inl 0)], [], _)) rfl ?_
  exact lp p 0 (by omega)
set_option maxRecDepth 100000 in
set_option maxHeartbeats 4000000 in
theorem c_isNearGiverBeside_t (hp : p ≤ 6) (hc : c.length = 7) (rc : rng c 35) (hsp : sp.length = 6) (hS : ∀ q, q < p → sp.getD q 0 = S q) (rS : ∀ q, q < p → 0 ≤ S q ∧ S q ≤ 10000) (hg : 0 ≤ g ∧ g ≤ 10) {x y : Nat} (hx : x < 64) (hy : y < p) (h : nrB p S c g x y = true) : aEv mX2_isNearGiverBeside 3 0 0 N [.inr 103, .inl (x : Int), .inl (y : Int), .inl g] [A0, (moSeg 32 k f c n kp l nt w sh (p : Int) t d wa), B, (miscSeg z fs ss sp la gr tl tp), B4, A5, C6] (aQx (some (.inl 1)) [A0, (moSeg 32 k f c n kp l nt w sh (p : Int) t d wa), B, (miscSeg z fs ss sp la gr tl tp), B4, A5, C6]) := by
  refine aEv_of okX2_isNearGiverBeside caX2_isNearGiverBeside (Nat.le_of_ble_eq_true rfl) ?_
  have lp : ∀ (j v : Nat), v + j = p → (∃ e, v ≤ e ∧ e < p ∧ x.testBit e = false ∧ 0 < S e ∧ stp (c.getD e 0) (c.getD y 0) ≤ g) → AW mX2_isNearGiverBeside 3 0 0 N none (aQx (some (.inl 1)) [A0, (moSeg 32 k f c n kp l nt w sh (p : Int) t d wa), B, (miscSeg z fs ss sp la gr tl tp), B4, A5, C6]) (3, [some (.inr 103), some (.inl (x : Int)), some (.inl (y : Int)), some (.inl g), some (.inl (v : Int))], [], [A0, (moSeg 32 k f c n kp l nt w sh (p : Int) t d wa), B, (miscSeg z fs ss sp la gr tl tp), B4, A5, C6]) := by
    intro j
    induction j with
    | zero =>
      intro v  hij h1
      obtain ⟨w, g1, g2, g3⟩ := h1
      omega
    | succ j ih =>
      intro v  hij h1
      have e1 := hS v (by omega)
      have e2 := rS v (by omega)
      have e3 := stp_le (rc v) (rc y)
      refine aGo okX2_isNearGiverBeside 3 (f' := (9, [some (.inr 103), some (.inl (x : Int)), some (.inl (y : Int)), some (.inl g), some (.inl (v : Int))], [.inr 32, .inl (v : Int)], _)) rfl ?_
      refine b_vV (as := []) (rest := [.inl (v : Int)]) (k := 32) (.inl (p : Int)) okX2_isNearGiverBeside rfl lkX2_30 caX3_people (Nat.le_of_ble_eq_true rfl) rfl (Nat.le_of_ble_eq_true rfl) rfl rfl rfl (c_people_1) ?_
      refine b_ge (tgt := 58) okX2_isNearGiverBeside rfl rfl ⟨by omega, by omega⟩ ⟨by omega, by omega⟩ (fun h12 => absurd h12 (by omega)) (fun h12 => ?_)
      refine aGo okX2_isNearGiverBeside 5 (f' := (21, [some (.inr 103), some (.inl (x : Int)), some (.inl (y : Int)), some (.inl g), some (.inl (v : Int))], [.inl (aAnd (aShr (x : Int) (v : Int)) 1)], _)) rfl ?_
      have hbv := shr_bit x (by omega) v (by omega)
      cases hz : x.testBit v with
      | false =>
        rw [hz] at hbv
        refine b_cast (f' := (21, [some (.inr 103), some (.inl (x : Int)), some (.inl (y : Int)), some (.inl g), some (.inl (v : Int))], [.inl 0], [A0, (moSeg 32 k f c n kp l nt w sh (p : Int) t d wa), B, (miscSeg z fs ss sp la gr tl tp), B4, A5, C6])) (congrArg (fun q : Int => ((21, [some (.inr 103), some (.inl (x : Int)), some (.inl (y : Int)), some (.inl g), some (.inl (v : Int))], .inl q :: [], [A0, (moSeg 32 k f c n kp l nt w sh (p : Int) t d wa), B, (miscSeg z fs ss sp la gr tl tp), B4, A5, C6]) : aF)) hbv) ?_
        refine b0_ne (tgt := 52) okX2_isNearGiverBeside rfl rfl ⟨by omega, by omega⟩ (fun h21 => absurd h21 (by omega)) (fun h21 => ?_)
        refine aGo okX2_isNearGiverBeside 3 (f' := (30, [some (.inr 103), some (.inl (x : Int)), some (.inl (y : Int)), some (.inl g), some (.inl (v : Int))], [.inl (v : Int), .inr 104], _)) rfl ?_
        refine b_vV (as := [.inl (v : Int)]) (rest := []) (k := 104) (.inl (sp.getD v 0)) okX2_isNearGiverBeside rfl lkX2_60 caX4_at (Nat.le_of_ble_eq_true rfl) rfl (Nat.le_of_ble_eq_true rfl) rfl rfl rfl (c_at (i := v) rfl rfl (by first | omega | (simp only [List.length_set]; omega)) (by omega)) ?_
        refine b0_le (tgt := 52) okX2_isNearGiverBeside rfl rfl ⟨by omega, by omega⟩ (fun h33 => ?_) (fun h33 => ?_)
        · refine aGo okX2_isNearGiverBeside 2 (f' := (3, [some (.inr 103), some (.inl (x : Int)), some (.inl (y : Int)), some (.inl g), some (.inl ((v : Int) + 1))], [], _)) rfl ?_
          exact ih (v + 1) (by omega) (by
            obtain ⟨e, g1, g2, g3, g4, g5⟩ := h1
            refine ⟨e, ?_, g2, g3, g4, g5⟩
            by_cases hw : e = v
            · subst hw; first | omega | (rw [hz] at g3; cases g3)
            · omega)
        · refine aGo okX2_isNearGiverBeside 4 (f' := (43, [some (.inr 103), some (.inl (x : Int)), some (.inl (y : Int)), some (.inl g), some (.inl (v : Int))], [.inl (y : Int), .inl (v : Int), .inr 32], _)) rfl ?_
          refine b_vV (as := [.inl (v : Int), .inl (y : Int)]) (rest := []) (k := 32) (.inl (stp (c.getD v 0) (c.getD y 0))) okX2_isNearGiverBeside rfl lkX2_67 caX3_stepsOf (Nat.le_of_ble_eq_true rfl) rfl (Nat.le_of_ble_eq_true rfl) rfl rfl rfl (c_stepsOf_1 (i := v) (j := y) (by first | omega | (simp only [List.length_set]; omega)) rc (by omega) (by omega)) ?_
          refine aGo okX2_isNearGiverBeside 1 (f' := (47, [some (.inr 103), some (.inl (x : Int)), some (.inl (y : Int)), some (.inl g), some (.inl (v : Int))], [.inl g, .inl (stp (c.getD v 0) (c.getD y 0))], _)) rfl ?_
          refine b_gt (tgt := 52) okX2_isNearGiverBeside rfl rfl ⟨by omega, by omega⟩ ⟨by omega, by omega⟩ (fun h47 => ?_) (fun h47 => ?_)
          · refine aGo okX2_isNearGiverBeside 2 (f' := (3, [some (.inr 103), some (.inl (x : Int)), some (.inl (y : Int)), some (.inl g), some (.inl ((v : Int) + 1))], [], _)) rfl ?_
            exact ih (v + 1) (by omega) (by
              obtain ⟨e, g1, g2, g3, g4, g5⟩ := h1
              refine ⟨e, ?_, g2, g3, g4, g5⟩
              by_cases hw : e = v
              · subst hw; first | omega | (rw [hz] at g3; cases g3)
              · omega)
          · refine aGo okX2_isNearGiverBeside 1 (f' := (51, [some (.inr 103), some (.inl (x : Int)), some (.inl (y : Int)), some (.inl g), some (.inl (v : Int))], [.inl 1], _)) rfl ?_
            exact b_ret (v := (some (.inl 1))) ⟨rfl, Or.inr ⟨rfl, Or.inr rfl⟩⟩ ⟨rfl, rfl⟩ rfl
      | true =>
        rw [hz] at hbv
        refine b_cast (f' := (21, [some (.inr 103), some (.inl (x : Int)), some (.inl (y : Int)), some (.inl g), some (.inl (v : Int))], [.inl 1], [A0, (moSeg 32 k f c n kp l nt w sh (p : Int) t d wa), B, (miscSeg z fs ss sp la gr tl tp), B4, A5, C6])) (congrArg (fun q : Int => ((21, [some (.inr 103), some (.inl (x : Int)), some (.inl (y : Int)), some (.inl g), some (.inl (v : Int))], .inl q :: [], [A0, (moSeg 32 k f c n kp l nt w sh (p : Int) t d wa), B, (miscSeg z fs ss sp la gr tl tp), B4, A5, C6]) : aF)) hbv) ?_
        refine b0_ne (tgt := 52) okX2_isNearGiverBeside rfl rfl ⟨by omega, by omega⟩ (fun h21 => ?_) (fun h21 => absurd h21 (by omega))
        refine aGo okX2_isNearGiverBeside 2 (f' := (3, [some (.inr 103), some (.inl (x : Int)), some (.inl (y : Int)), some (.inl g), some (.inl ((v : Int) + 1))], [], _)) rfl ?_
        exact ih (v + 1) (by omega) (by
          obtain ⟨e, g1, g2, g3, g4, g5⟩ := h1
          refine ⟨e, ?_, g2, g3, g4, g5⟩
          by_cases hw : e = v
          · subst hw; first | omega | (rw [hz] at g3; cases g3)
          · omega)
  refine aGo okX2_isNearGiverBeside 2 (f' := (3, [some (.inr 103), some (.inl (x : Int)), some (.inl (y : Int)), some (.inl g), some (.inl 0)], [], _)) rfl ?_
  exact lp p 0 (by omega) (by obtain ⟨e, g1, g2⟩ := nrB_iff.mp h; exact ⟨e, Nat.zero_le e, g1, g2⟩)
set_option maxRecDepth 100000 in
set_option maxHeartbeats 4000000 in
theorem c_isNearGiverBeside_f (hp : p ≤ 6) (hc : c.length = 7) (rc : rng c 35) (hsp : sp.length = 6) (hS : ∀ q, q < p → sp.getD q 0 = S q) (rS : ∀ q, q < p → 0 ≤ S q ∧ S q ≤ 10000) (hg : 0 ≤ g ∧ g ≤ 10) {x y : Nat} (hx : x < 64) (hy : y < p) (h : nrB p S c g x y = false) : aEv mX2_isNearGiverBeside 3 0 0 N [.inr 103, .inl (x : Int), .inl (y : Int), .inl g] [A0, (moSeg 32 k f c n kp l nt w sh (p : Int) t d wa), B, (miscSeg z fs ss sp la gr tl tp), B4, A5, C6] (aQx (some (.inl 0)) [A0, (moSeg 32 k f c n kp l nt w sh (p : Int) t d wa), B, (miscSeg z fs ss sp la gr tl tp), B4, A5, C6]) := by
  have h2 : ∀ e, e < p → x.testBit e = false → 0 < S e → ¬ stp (c.getD e 0) (c.getD y 0) ≤ g := fun e h1 h3 h4 h5 => by have h6 := nrB_iff.mpr ⟨e, h1, h3, h4, h5⟩; rw [h] at h6; cases h6
  refine aEv_of okX2_isNearGiverBeside caX2_isNearGiverBeside (Nat.le_of_ble_eq_true rfl) ?_
  have lp : ∀ (j v : Nat), v + j = p → AW mX2_isNearGiverBeside 3 0 0 N none (aQx (some (.inl 0)) [A0, (moSeg 32 k f c n kp l nt w sh (p : Int) t d wa), B, (miscSeg z fs ss sp la gr tl tp), B4, A5, C6]) (3, [some (.inr 103), some (.inl (x : Int)), some (.inl (y : Int)), some (.inl g), some (.inl (v : Int))], [], [A0, (moSeg 32 k f c n kp l nt w sh (p : Int) t d wa), B, (miscSeg z fs ss sp la gr tl tp), B4, A5, C6]) := by
    intro j
    induction j with
    | zero =>
      intro v  hij 
      obtain rfl : p = v := by omega
      refine aGo okX2_isNearGiverBeside 3 (f' := (9, [some (.inr 103), some (.inl (x : Int)), some (.inl (y : Int)), some (.inl g), some (.inl (p : Int))], [.inr 32, .inl (p : Int)], _)) rfl ?_
      refine b_vV (as := []) (rest := [.inl (p : Int)]) (k := 32) (.inl (p : Int)) okX2_isNearGiverBeside rfl lkX2_30 caX3_people (Nat.le_of_ble_eq_true rfl) rfl (Nat.le_of_ble_eq_true rfl) rfl rfl rfl (c_people_1) ?_
      refine b_ge (tgt := 58) okX2_isNearGiverBeside rfl rfl ⟨by omega, by omega⟩ ⟨by omega, by omega⟩ (fun h12 => ?_) (fun h12 => absurd h12 (by omega))
      refine aGo okX2_isNearGiverBeside 1 (f' := (59, [some (.inr 103), some (.inl (x : Int)), some (.inl (y : Int)), some (.inl g), some (.inl (p : Int))], [.inl 0], _)) rfl ?_
      exact b_ret (v := (some (.inl 0))) ⟨rfl, Or.inr ⟨rfl, Or.inl rfl⟩⟩ ⟨rfl, rfl⟩ rfl
    | succ j ih =>
      intro v  hij 
      have e1 := hS v (by omega)
      have e2 := rS v (by omega)
      have e3 := stp_le (rc v) (rc y)
      refine aGo okX2_isNearGiverBeside 3 (f' := (9, [some (.inr 103), some (.inl (x : Int)), some (.inl (y : Int)), some (.inl g), some (.inl (v : Int))], [.inr 32, .inl (v : Int)], _)) rfl ?_
      refine b_vV (as := []) (rest := [.inl (v : Int)]) (k := 32) (.inl (p : Int)) okX2_isNearGiverBeside rfl lkX2_30 caX3_people (Nat.le_of_ble_eq_true rfl) rfl (Nat.le_of_ble_eq_true rfl) rfl rfl rfl (c_people_1) ?_
      refine b_ge (tgt := 58) okX2_isNearGiverBeside rfl rfl ⟨by omega, by omega⟩ ⟨by omega, by omega⟩ (fun h12 => absurd h12 (by omega)) (fun h12 => ?_)
      refine aGo okX2_isNearGiverBeside 5 (f' := (21, [some (.inr 103), some (.inl (x : Int)), some (.inl (y : Int)), some (.inl g), some (.inl (v : Int))], [.inl (aAnd (aShr (x : Int) (v : Int)) 1)], _)) rfl ?_
      have hbv := shr_bit x (by omega) v (by omega)
      cases hz : x.testBit v with
      | false =>
        rw [hz] at hbv
        refine b_cast (f' := (21, [some (.inr 103), some (.inl (x : Int)), some (.inl (y : Int)), some (.inl g), some (.inl (v : Int))], [.inl 0], [A0, (moSeg 32 k f c n kp l nt w sh (p : Int) t d wa), B, (miscSeg z fs ss sp la gr tl tp), B4, A5, C6])) (congrArg (fun q : Int => ((21, [some (.inr 103), some (.inl (x : Int)), some (.inl (y : Int)), some (.inl g), some (.inl (v : Int))], .inl q :: [], [A0, (moSeg 32 k f c n kp l nt w sh (p : Int) t d wa), B, (miscSeg z fs ss sp la gr tl tp), B4, A5, C6]) : aF)) hbv) ?_
        refine b0_ne (tgt := 52) okX2_isNearGiverBeside rfl rfl ⟨by omega, by omega⟩ (fun h21 => absurd h21 (by omega)) (fun h21 => ?_)
        refine aGo okX2_isNearGiverBeside 3 (f' := (30, [some (.inr 103), some (.inl (x : Int)), some (.inl (y : Int)), some (.inl g), some (.inl (v : Int))], [.inl (v : Int), .inr 104], _)) rfl ?_
        refine b_vV (as := [.inl (v : Int)]) (rest := []) (k := 104) (.inl (sp.getD v 0)) okX2_isNearGiverBeside rfl lkX2_60 caX4_at (Nat.le_of_ble_eq_true rfl) rfl (Nat.le_of_ble_eq_true rfl) rfl rfl rfl (c_at (i := v) rfl rfl (by first | omega | (simp only [List.length_set]; omega)) (by omega)) ?_
        refine b0_le (tgt := 52) okX2_isNearGiverBeside rfl rfl ⟨by omega, by omega⟩ (fun h33 => ?_) (fun h33 => ?_)
        · refine aGo okX2_isNearGiverBeside 2 (f' := (3, [some (.inr 103), some (.inl (x : Int)), some (.inl (y : Int)), some (.inl g), some (.inl ((v : Int) + 1))], [], _)) rfl ?_
          exact ih (v + 1) (by omega)
        · refine aGo okX2_isNearGiverBeside 4 (f' := (43, [some (.inr 103), some (.inl (x : Int)), some (.inl (y : Int)), some (.inl g), some (.inl (v : Int))], [.inl (y : Int), .inl (v : Int), .inr 32], _)) rfl ?_
          refine b_vV (as := [.inl (v : Int), .inl (y : Int)]) (rest := []) (k := 32) (.inl (stp (c.getD v 0) (c.getD y 0))) okX2_isNearGiverBeside rfl lkX2_67 caX3_stepsOf (Nat.le_of_ble_eq_true rfl) rfl (Nat.le_of_ble_eq_true rfl) rfl rfl rfl (c_stepsOf_1 (i := v) (j := y) (by first | omega | (simp only [List.length_set]; omega)) rc (by omega) (by omega)) ?_
          refine aGo okX2_isNearGiverBeside 1 (f' := (47, [some (.inr 103), some (.inl (x : Int)), some (.inl (y : Int)), some (.inl g), some (.inl (v : Int))], [.inl g, .inl (stp (c.getD v 0) (c.getD y 0))], _)) rfl ?_
          have e5 := h2 v (by omega) hz (by omega)
          refine b_gt (tgt := 52) okX2_isNearGiverBeside rfl rfl ⟨by omega, by omega⟩ ⟨by omega, by omega⟩ (fun h47 => ?_) (fun h47 => absurd h47 (by omega))
          refine aGo okX2_isNearGiverBeside 2 (f' := (3, [some (.inr 103), some (.inl (x : Int)), some (.inl (y : Int)), some (.inl g), some (.inl ((v : Int) + 1))], [], _)) rfl ?_
          exact ih (v + 1) (by omega)
      | true =>
        rw [hz] at hbv
        refine b_cast (f' := (21, [some (.inr 103), some (.inl (x : Int)), some (.inl (y : Int)), some (.inl g), some (.inl (v : Int))], [.inl 1], [A0, (moSeg 32 k f c n kp l nt w sh (p : Int) t d wa), B, (miscSeg z fs ss sp la gr tl tp), B4, A5, C6])) (congrArg (fun q : Int => ((21, [some (.inr 103), some (.inl (x : Int)), some (.inl (y : Int)), some (.inl g), some (.inl (v : Int))], .inl q :: [], [A0, (moSeg 32 k f c n kp l nt w sh (p : Int) t d wa), B, (miscSeg z fs ss sp la gr tl tp), B4, A5, C6]) : aF)) hbv) ?_
        refine b0_ne (tgt := 52) okX2_isNearGiverBeside rfl rfl ⟨by omega, by omega⟩ (fun h21 => ?_) (fun h21 => absurd h21 (by omega))
        refine aGo okX2_isNearGiverBeside 2 (f' := (3, [some (.inr 103), some (.inl (x : Int)), some (.inl (y : Int)), some (.inl g), some (.inl ((v : Int) + 1))], [], _)) rfl ?_
        exact ih (v + 1) (by omega)
  refine aGo okX2_isNearGiverBeside 2 (f' := (3, [some (.inr 103), some (.inl (x : Int)), some (.inl (y : Int)), some (.inl g), some (.inl 0)], [], _)) rfl ?_
  exact lp p 0 (by omega)
set_option maxRecDepth 100000 in
set_option maxHeartbeats 4000000 in
theorem c_cutBy (hp : p ≤ 6) (hc : c.length = 7) (rc : rng c 35) (hsp : sp.length = 6) (hS : ∀ q, q < p → sp.getD q 0 = S q) (rS : ∀ q, q < p → 0 ≤ S q ∧ S q ≤ 10000) (hg : 0 ≤ g ∧ g ≤ 10) (hla : la.length = 6) (hL : ∀ q, q < p → la.getD q 0 = L q) (rL : ∀ q, q < p → 0 ≤ L q ∧ L q ≤ 10000) {x : Nat} (hx : x < 64)  : aEv mX2_cutBy 4 0 0 N [.inr 103, .inl (x : Int), .inl g] [A0, (moSeg 32 k f c n kp l nt w sh (p : Int) t d wa), B, (miscSeg z fs ss sp la gr tl tp), B4, A5, C6] ((aQx (some (.inl (sumN p (cuT p S L c g x)))) [A0, (moSeg 32 k f c n kp l nt w sh (p : Int) t d wa), B, (miscSeg z fs ss sp la gr tl tp), B4, A5, C6])) := by
  refine aEv_of okX2_cutBy caX2_cutBy (Nat.le_of_ble_eq_true rfl) ?_
  have lp : ∀ (j v : Nat), v + j = p → AW mX2_cutBy 4 0 0 N none (aQx (some (.inl (sumN p (cuT p S L c g x)))) [A0, (moSeg 32 k f c n kp l nt w sh (p : Int) t d wa), B, (miscSeg z fs ss sp la gr tl tp), B4, A5, C6]) (5, [some (.inr 103), some (.inl (x : Int)), some (.inl g), some (.inl (sumN v (cuT p S L c g x))), some (.inl (v : Int))], [], [A0, (moSeg 32 k f c n kp l nt w sh (p : Int) t d wa), B, (miscSeg z fs ss sp la gr tl tp), B4, A5, C6]) := by
    intro j
    induction j with
    | zero =>
      intro v  hij 
      obtain rfl : p = v := by omega
      refine aGo okX2_cutBy 3 (f' := (11, [some (.inr 103), some (.inl (x : Int)), some (.inl g), some (.inl (sumN p (cuT p S L c g x))), some (.inl (p : Int))], [.inr 32, .inl (p : Int)], _)) rfl ?_
      refine b_vV (as := []) (rest := [.inl (p : Int)]) (k := 32) (.inl (p : Int)) okX2_cutBy rfl lkX2_30 caX3_people (Nat.le_of_ble_eq_true rfl) rfl (Nat.le_of_ble_eq_true rfl) rfl rfl rfl (c_people_1) ?_
      refine b_ge (tgt := 79) okX2_cutBy rfl rfl ⟨by omega, by omega⟩ ⟨by omega, by omega⟩ (fun h14 => ?_) (fun h14 => absurd h14 (by omega))
      refine aGo okX2_cutBy 1 (f' := (80, [some (.inr 103), some (.inl (x : Int)), some (.inl g), some (.inl (sumN p (cuT p S L c g x))), some (.inl (p : Int))], [.inl (sumN p (cuT p S L c g x))], _)) rfl ?_
      exact b_ret (v := (some (.inl (sumN p (cuT p S L c g x))))) ⟨rfl, Or.inl rfl⟩ ⟨rfl, rfl⟩ rfl
    | succ j ih =>
      intro v  hij 
      have e1 := hS v (by omega)
      have e2 := rS v (by omega)
      have e3 := hL v (by omega)
      have e4 := rL v (by omega)
      refine aGo okX2_cutBy 3 (f' := (11, [some (.inr 103), some (.inl (x : Int)), some (.inl g), some (.inl (sumN v (cuT p S L c g x))), some (.inl (v : Int))], [.inr 32, .inl (v : Int)], _)) rfl ?_
      refine b_vV (as := []) (rest := [.inl (v : Int)]) (k := 32) (.inl (p : Int)) okX2_cutBy rfl lkX2_30 caX3_people (Nat.le_of_ble_eq_true rfl) rfl (Nat.le_of_ble_eq_true rfl) rfl rfl rfl (c_people_1) ?_
      refine b_ge (tgt := 79) okX2_cutBy rfl rfl ⟨by omega, by omega⟩ ⟨by omega, by omega⟩ (fun h14 => absurd h14 (by omega)) (fun h14 => ?_)
      refine aGo okX2_cutBy 5 (f' := (23, [some (.inr 103), some (.inl (x : Int)), some (.inl g), some (.inl (sumN v (cuT p S L c g x))), some (.inl (v : Int))], [.inl (aAnd (aShr (x : Int) (v : Int)) 1)], _)) rfl ?_
      have hbv := shr_bit x (by omega) v (by omega)
      cases hz : x.testBit v with
      | false =>
        rw [hz] at hbv
        refine b_cast (f' := (23, [some (.inr 103), some (.inl (x : Int)), some (.inl g), some (.inl (sumN v (cuT p S L c g x))), some (.inl (v : Int))], [.inl 0], [A0, (moSeg 32 k f c n kp l nt w sh (p : Int) t d wa), B, (miscSeg z fs ss sp la gr tl tp), B4, A5, C6])) (congrArg (fun q : Int => ((23, [some (.inr 103), some (.inl (x : Int)), some (.inl g), some (.inl (sumN v (cuT p S L c g x))), some (.inl (v : Int))], .inl q :: [], [A0, (moSeg 32 k f c n kp l nt w sh (p : Int) t d wa), B, (miscSeg z fs ss sp la gr tl tp), B4, A5, C6]) : aF)) hbv) ?_
        refine b0_eq (tgt := 38) okX2_cutBy rfl rfl ⟨by omega, by omega⟩ (fun h23 => ?_) (fun h23 => absurd h23 (by omega))
        refine aGo okX2_cutBy 3 (f' := (44, [some (.inr 103), some (.inl (x : Int)), some (.inl g), some (.inl (sumN v (cuT p S L c g x))), some (.inl (v : Int))], [.inl (v : Int), .inr 106], _)) rfl ?_
        refine b_vV (as := [.inl (v : Int)]) (rest := []) (k := 106) (.inl (la.getD v 0)) okX2_cutBy rfl lkX2_60 caX4_at (Nat.le_of_ble_eq_true rfl) rfl (Nat.le_of_ble_eq_true rfl) rfl rfl rfl (c_at (i := v) rfl rfl (by first | omega | (simp only [List.length_set]; omega)) (by omega)) ?_
        refine b0_le (tgt := 73) okX2_cutBy rfl rfl ⟨by omega, by omega⟩ (fun h47 => ?_) (fun h47 => ?_)
        · refine aGo okX2_cutBy 2 (f' := (5, [some (.inr 103), some (.inl (x : Int)), some (.inl g), some (.inl (sumN v (cuT p S L c g x))), some (.inl ((v : Int) + 1))], [], _)) rfl ?_
          refine b_cast (f' := (5, [some (.inr 103), some (.inl (x : Int)), some (.inl g), some (.inl (sumN (v + 1) (cuT p S L c g x))), some (.inl ((v : Int) + 1))], [], [A0, (moSeg 32 k f c n kp l nt w sh (p : Int) t d wa), B, (miscSeg z fs ss sp la gr tl tp), B4, A5, C6])) (congrArg (fun q : Int => ((5, [some (.inr 103), some (.inl (x : Int)), some (.inl g), some (.inl q), some (.inl ((v : Int) + 1))], [], [A0, (moSeg 32 k f c n kp l nt w sh (p : Int) t d wa), B, (miscSeg z fs ss sp la gr tl tp), B4, A5, C6]) : aF)) ((by show _ = sumN v (cuT p S L c g x) + cuT p S L c g x v; unfold cuT; rw [hz]; first | (rw [if_pos (show 0 < L v ∧ nrB p S c g x v = true from ⟨by omega, hc55⟩)]; simp only [if_true, Bool.false_eq_true, if_false]; omega) | (rw [if_neg (show ¬ (0 < L v ∧ nrB p S c g x v = true) from fun hq => by first | exact hc55 hq.2 | omega)]; simp only [if_true, Bool.false_eq_true, if_false]; omega)))) ?_
          exact ih (v + 1) (by omega)
        · refine aGo okX2_cutBy 4 (f' := (55, [some (.inr 103), some (.inl (x : Int)), some (.inl g), some (.inl (sumN v (cuT p S L c g x))), some (.inl (v : Int))], [.inl g, .inl (v : Int), .inl (x : Int), .inr 103], _)) rfl ?_
          by_cases hc55 : nrB p S c g x v = true
          · refine b_vE (as := [.inl (x : Int), .inl (v : Int), .inl g]) (rest := []) (k := 103) okX2_cutBy rfl lkX2_63 caX2_isNearGiverBeside (Nat.le_of_ble_eq_true rfl) rfl (Nat.le_of_ble_eq_true rfl) rfl rfl rfl (c_isNearGiverBeside_t hp hc rc hsp hS rS hg hx (by omega) hc55) ?_
            rintro _ _ ⟨rfl, rfl⟩
            refine b0_eq (tgt := 73) okX2_cutBy rfl rfl ⟨by omega, by omega⟩ (fun h58 => absurd h58 (by omega)) (fun h58 => ?_)
            refine aGo okX2_cutBy 4 (f' := (68, [some (.inr 103), some (.inl (x : Int)), some (.inl g), some (.inl (sumN v (cuT p S L c g x))), some (.inl (v : Int))], [.inl (v : Int), .inr 106, .inl (sumN v (cuT p S L c g x))], _)) rfl ?_
            refine b_vV (as := [.inl (v : Int)]) (rest := [.inl (sumN v (cuT p S L c g x))]) (k := 106) (.inl (la.getD v 0)) okX2_cutBy rfl lkX2_60 caX4_at (Nat.le_of_ble_eq_true rfl) rfl (Nat.le_of_ble_eq_true rfl) rfl rfl rfl (c_at (i := v) rfl rfl (by first | omega | (simp only [List.length_set]; omega)) (by omega)) ?_
            refine aGo okX2_cutBy 4 (f' := (5, [some (.inr 103), some (.inl (x : Int)), some (.inl g), some (.inl ((sumN v (cuT p S L c g x)) + (la.getD v 0))), some (.inl ((v : Int) + 1))], [], _)) rfl ?_
            refine b_cast (f' := (5, [some (.inr 103), some (.inl (x : Int)), some (.inl g), some (.inl (sumN (v + 1) (cuT p S L c g x))), some (.inl ((v : Int) + 1))], [], [A0, (moSeg 32 k f c n kp l nt w sh (p : Int) t d wa), B, (miscSeg z fs ss sp la gr tl tp), B4, A5, C6])) (congrArg (fun q : Int => ((5, [some (.inr 103), some (.inl (x : Int)), some (.inl g), some (.inl q), some (.inl ((v : Int) + 1))], [], [A0, (moSeg 32 k f c n kp l nt w sh (p : Int) t d wa), B, (miscSeg z fs ss sp la gr tl tp), B4, A5, C6]) : aF)) ((by show _ = sumN v (cuT p S L c g x) + cuT p S L c g x v; unfold cuT; rw [hz]; first | (rw [if_pos (show 0 < L v ∧ nrB p S c g x v = true from ⟨by omega, hc55⟩)]; simp only [if_true, Bool.false_eq_true, if_false]; omega) | (rw [if_neg (show ¬ (0 < L v ∧ nrB p S c g x v = true) from fun hq => by first | exact hc55 hq.2 | omega)]; simp only [if_true, Bool.false_eq_true, if_false]; omega)))) ?_
            exact ih (v + 1) (by omega)
          · refine b_vE (as := [.inl (x : Int), .inl (v : Int), .inl g]) (rest := []) (k := 103) okX2_cutBy rfl lkX2_63 caX2_isNearGiverBeside (Nat.le_of_ble_eq_true rfl) rfl (Nat.le_of_ble_eq_true rfl) rfl rfl rfl (c_isNearGiverBeside_f hp hc rc hsp hS rS hg hx (by omega) (by cases hq : nrB p S c g x v with | true => exact absurd hq hc55 | false => rfl)) ?_
            rintro _ _ ⟨rfl, rfl⟩
            refine b0_eq (tgt := 73) okX2_cutBy rfl rfl ⟨by omega, by omega⟩ (fun h58 => ?_) (fun h58 => absurd h58 (by omega))
            refine aGo okX2_cutBy 2 (f' := (5, [some (.inr 103), some (.inl (x : Int)), some (.inl g), some (.inl (sumN v (cuT p S L c g x))), some (.inl ((v : Int) + 1))], [], _)) rfl ?_
            refine b_cast (f' := (5, [some (.inr 103), some (.inl (x : Int)), some (.inl g), some (.inl (sumN (v + 1) (cuT p S L c g x))), some (.inl ((v : Int) + 1))], [], [A0, (moSeg 32 k f c n kp l nt w sh (p : Int) t d wa), B, (miscSeg z fs ss sp la gr tl tp), B4, A5, C6])) (congrArg (fun q : Int => ((5, [some (.inr 103), some (.inl (x : Int)), some (.inl g), some (.inl q), some (.inl ((v : Int) + 1))], [], [A0, (moSeg 32 k f c n kp l nt w sh (p : Int) t d wa), B, (miscSeg z fs ss sp la gr tl tp), B4, A5, C6]) : aF)) ((by show _ = sumN v (cuT p S L c g x) + cuT p S L c g x v; unfold cuT; rw [hz]; first | (rw [if_pos (show 0 < L v ∧ nrB p S c g x v = true from ⟨by omega, hc55⟩)]; simp only [if_true, Bool.false_eq_true, if_false]; omega) | (rw [if_neg (show ¬ (0 < L v ∧ nrB p S c g x v = true) from fun hq => by first | exact hc55 hq.2 | omega)]; simp only [if_true, Bool.false_eq_true, if_false]; omega)))) ?_
            exact ih (v + 1) (by omega)
      | true =>
        rw [hz] at hbv
        refine b_cast (f' := (23, [some (.inr 103), some (.inl (x : Int)), some (.inl g), some (.inl (sumN v (cuT p S L c g x))), some (.inl (v : Int))], [.inl 1], [A0, (moSeg 32 k f c n kp l nt w sh (p : Int) t d wa), B, (miscSeg z fs ss sp la gr tl tp), B4, A5, C6])) (congrArg (fun q : Int => ((23, [some (.inr 103), some (.inl (x : Int)), some (.inl g), some (.inl (sumN v (cuT p S L c g x))), some (.inl (v : Int))], .inl q :: [], [A0, (moSeg 32 k f c n kp l nt w sh (p : Int) t d wa), B, (miscSeg z fs ss sp la gr tl tp), B4, A5, C6]) : aF)) hbv) ?_
        refine b0_eq (tgt := 38) okX2_cutBy rfl rfl ⟨by omega, by omega⟩ (fun h23 => absurd h23 (by omega)) (fun h23 => ?_)
        refine aGo okX2_cutBy 4 (f' := (33, [some (.inr 103), some (.inl (x : Int)), some (.inl g), some (.inl (sumN v (cuT p S L c g x))), some (.inl (v : Int))], [.inl (v : Int), .inr 104, .inl (sumN v (cuT p S L c g x))], _)) rfl ?_
        refine b_vV (as := [.inl (v : Int)]) (rest := [.inl (sumN v (cuT p S L c g x))]) (k := 104) (.inl (sp.getD v 0)) okX2_cutBy rfl lkX2_60 caX4_at (Nat.le_of_ble_eq_true rfl) rfl (Nat.le_of_ble_eq_true rfl) rfl rfl rfl (c_at (i := v) rfl rfl (by first | omega | (simp only [List.length_set]; omega)) (by omega)) ?_
        refine aGo okX2_cutBy 5 (f' := (44, [some (.inr 103), some (.inl (x : Int)), some (.inl g), some (.inl ((sumN v (cuT p S L c g x)) + (sp.getD v 0))), some (.inl (v : Int))], [.inl (v : Int), .inr 106], _)) rfl ?_
        refine b_vV (as := [.inl (v : Int)]) (rest := []) (k := 106) (.inl (la.getD v 0)) okX2_cutBy rfl lkX2_60 caX4_at (Nat.le_of_ble_eq_true rfl) rfl (Nat.le_of_ble_eq_true rfl) rfl rfl rfl (c_at (i := v) rfl rfl (by first | omega | (simp only [List.length_set]; omega)) (by omega)) ?_
        refine b0_le (tgt := 73) okX2_cutBy rfl rfl ⟨by omega, by omega⟩ (fun h47 => ?_) (fun h47 => ?_)
        · refine aGo okX2_cutBy 2 (f' := (5, [some (.inr 103), some (.inl (x : Int)), some (.inl g), some (.inl ((sumN v (cuT p S L c g x)) + (sp.getD v 0))), some (.inl ((v : Int) + 1))], [], _)) rfl ?_
          refine b_cast (f' := (5, [some (.inr 103), some (.inl (x : Int)), some (.inl g), some (.inl (sumN (v + 1) (cuT p S L c g x))), some (.inl ((v : Int) + 1))], [], [A0, (moSeg 32 k f c n kp l nt w sh (p : Int) t d wa), B, (miscSeg z fs ss sp la gr tl tp), B4, A5, C6])) (congrArg (fun q : Int => ((5, [some (.inr 103), some (.inl (x : Int)), some (.inl g), some (.inl q), some (.inl ((v : Int) + 1))], [], [A0, (moSeg 32 k f c n kp l nt w sh (p : Int) t d wa), B, (miscSeg z fs ss sp la gr tl tp), B4, A5, C6]) : aF)) ((by show _ = sumN v (cuT p S L c g x) + cuT p S L c g x v; unfold cuT; rw [hz]; first | (rw [if_pos (show 0 < L v ∧ nrB p S c g x v = true from ⟨by omega, hc55⟩)]; simp only [if_true, Bool.false_eq_true, if_false]; omega) | (rw [if_neg (show ¬ (0 < L v ∧ nrB p S c g x v = true) from fun hq => by first | exact hc55 hq.2 | omega)]; simp only [if_true, Bool.false_eq_true, if_false]; omega)))) ?_
          exact ih (v + 1) (by omega)
        · refine aGo okX2_cutBy 4 (f' := (55, [some (.inr 103), some (.inl (x : Int)), some (.inl g), some (.inl ((sumN v (cuT p S L c g x)) + (sp.getD v 0))), some (.inl (v : Int))], [.inl g, .inl (v : Int), .inl (x : Int), .inr 103], _)) rfl ?_
          by_cases hc55 : nrB p S c g x v = true
          · refine b_vE (as := [.inl (x : Int), .inl (v : Int), .inl g]) (rest := []) (k := 103) okX2_cutBy rfl lkX2_63 caX2_isNearGiverBeside (Nat.le_of_ble_eq_true rfl) rfl (Nat.le_of_ble_eq_true rfl) rfl rfl rfl (c_isNearGiverBeside_t hp hc rc hsp hS rS hg hx (by omega) hc55) ?_
            rintro _ _ ⟨rfl, rfl⟩
            refine b0_eq (tgt := 73) okX2_cutBy rfl rfl ⟨by omega, by omega⟩ (fun h58 => absurd h58 (by omega)) (fun h58 => ?_)
            refine aGo okX2_cutBy 4 (f' := (68, [some (.inr 103), some (.inl (x : Int)), some (.inl g), some (.inl ((sumN v (cuT p S L c g x)) + (sp.getD v 0))), some (.inl (v : Int))], [.inl (v : Int), .inr 106, .inl ((sumN v (cuT p S L c g x)) + (sp.getD v 0))], _)) rfl ?_
            refine b_vV (as := [.inl (v : Int)]) (rest := [.inl ((sumN v (cuT p S L c g x)) + (sp.getD v 0))]) (k := 106) (.inl (la.getD v 0)) okX2_cutBy rfl lkX2_60 caX4_at (Nat.le_of_ble_eq_true rfl) rfl (Nat.le_of_ble_eq_true rfl) rfl rfl rfl (c_at (i := v) rfl rfl (by first | omega | (simp only [List.length_set]; omega)) (by omega)) ?_
            refine aGo okX2_cutBy 4 (f' := (5, [some (.inr 103), some (.inl (x : Int)), some (.inl g), some (.inl (((sumN v (cuT p S L c g x)) + (sp.getD v 0)) + (la.getD v 0))), some (.inl ((v : Int) + 1))], [], _)) rfl ?_
            refine b_cast (f' := (5, [some (.inr 103), some (.inl (x : Int)), some (.inl g), some (.inl (sumN (v + 1) (cuT p S L c g x))), some (.inl ((v : Int) + 1))], [], [A0, (moSeg 32 k f c n kp l nt w sh (p : Int) t d wa), B, (miscSeg z fs ss sp la gr tl tp), B4, A5, C6])) (congrArg (fun q : Int => ((5, [some (.inr 103), some (.inl (x : Int)), some (.inl g), some (.inl q), some (.inl ((v : Int) + 1))], [], [A0, (moSeg 32 k f c n kp l nt w sh (p : Int) t d wa), B, (miscSeg z fs ss sp la gr tl tp), B4, A5, C6]) : aF)) ((by show _ = sumN v (cuT p S L c g x) + cuT p S L c g x v; unfold cuT; rw [hz]; first | (rw [if_pos (show 0 < L v ∧ nrB p S c g x v = true from ⟨by omega, hc55⟩)]; simp only [if_true, Bool.false_eq_true, if_false]; omega) | (rw [if_neg (show ¬ (0 < L v ∧ nrB p S c g x v = true) from fun hq => by first | exact hc55 hq.2 | omega)]; simp only [if_true, Bool.false_eq_true, if_false]; omega)))) ?_
            exact ih (v + 1) (by omega)
          · refine b_vE (as := [.inl (x : Int), .inl (v : Int), .inl g]) (rest := []) (k := 103) okX2_cutBy rfl lkX2_63 caX2_isNearGiverBeside (Nat.le_of_ble_eq_true rfl) rfl (Nat.le_of_ble_eq_true rfl) rfl rfl rfl (c_isNearGiverBeside_f hp hc rc hsp hS rS hg hx (by omega) (by cases hq : nrB p S c g x v with | true => exact absurd hq hc55 | false => rfl)) ?_
            rintro _ _ ⟨rfl, rfl⟩
            refine b0_eq (tgt := 73) okX2_cutBy rfl rfl ⟨by omega, by omega⟩ (fun h58 => ?_) (fun h58 => absurd h58 (by omega))
            refine aGo okX2_cutBy 2 (f' := (5, [some (.inr 103), some (.inl (x : Int)), some (.inl g), some (.inl ((sumN v (cuT p S L c g x)) + (sp.getD v 0))), some (.inl ((v : Int) + 1))], [], _)) rfl ?_
            refine b_cast (f' := (5, [some (.inr 103), some (.inl (x : Int)), some (.inl g), some (.inl (sumN (v + 1) (cuT p S L c g x))), some (.inl ((v : Int) + 1))], [], [A0, (moSeg 32 k f c n kp l nt w sh (p : Int) t d wa), B, (miscSeg z fs ss sp la gr tl tp), B4, A5, C6])) (congrArg (fun q : Int => ((5, [some (.inr 103), some (.inl (x : Int)), some (.inl g), some (.inl q), some (.inl ((v : Int) + 1))], [], [A0, (moSeg 32 k f c n kp l nt w sh (p : Int) t d wa), B, (miscSeg z fs ss sp la gr tl tp), B4, A5, C6]) : aF)) ((by show _ = sumN v (cuT p S L c g x) + cuT p S L c g x v; unfold cuT; rw [hz]; first | (rw [if_pos (show 0 < L v ∧ nrB p S c g x v = true from ⟨by omega, hc55⟩)]; simp only [if_true, Bool.false_eq_true, if_false]; omega) | (rw [if_neg (show ¬ (0 < L v ∧ nrB p S c g x v = true) from fun hq => by first | exact hc55 hq.2 | omega)]; simp only [if_true, Bool.false_eq_true, if_false]; omega)))) ?_
            exact ih (v + 1) (by omega)
  refine aGo okX2_cutBy 4 (f' := (5, [some (.inr 103), some (.inl (x : Int)), some (.inl g), some (.inl 0), some (.inl 0)], [], _)) rfl ?_
  exact lp p 0 (by omega)
set_option maxRecDepth 100000 in
set_option maxHeartbeats 4000000 in
theorem c_mostGiven (hm : mOK p k f c n kp l nt w sh t d wa) (hp6 : p ≤ 6) (hsp : sp.length = 6) (hla : la.length = 6) (hg : 0 ≤ g ∧ g ≤ 10) : aEv mX2_mostGiven 5 0 0 N [.inr 103, .inl g] [A0, (moSeg 32 k f c n kp l nt w sh (p : Int) t d wa), B, (miscSeg z fs ss sp la gr tl tp), B4, A5, C6] ((fun rv h => rv = some (.inl (mnX (cuF p (sprV p k f c n l t) (lckV p k f c n l t) c g) (2 ^ p))) ∧ ∃ (sp2 la2 : List Int), sp2.length = 6 ∧ la2.length = 6 ∧ h = [A0, (moSeg 32 k f c n kp l nt w sh (p : Int) t d wa), B, (miscSeg z fs ss sp2 la2 gr tl tp), B4, A5, C6])) := by
  obtain ⟨⟨hp7, hk, hf, hc, hn, hkp, hl, rk, rf, rc, rn, rkp, rl, ht0, ht1, hd0, hd1⟩, ⟨hnt, znt⟩, ⟨hw, zw, zwa⟩, ⟨hsh, zsh⟩⟩ := id hm
  have hle := mOK_hle hm
  have rS : ∀ q, q < p → 0 ≤ (sprV p k f c n l t) q ∧ (sprV p k f c n l t) q ≤ 10000 := fun q hq => by have := sprV_le (k := k) hp7 rf rc rn rl ⟨ht0, ht1⟩ hq; omega
  have rL : ∀ q, q < p → 0 ≤ (lckV p k f c n l t) q ∧ (lckV p k f c n l t) q ≤ 10000 := fun q hq => by have := sprV_le (k := k) hp7 rf rc rn rl ⟨ht0, ht1⟩ hq; omega
  have hGX : ∀ x, x < 64 → 0 ≤ (cuF p (sprV p k f c n l t) (lckV p k f c n l t) c g) x ∧ (cuF p (sprV p k f c n l t) (lckV p k f c n l t) c g) x ≤ 140000 := fun x _ => cuF_le hp7 fun q hq => sprV_le hp7 rf rc rn rl ⟨ht0, ht1⟩ hq
  obtain ⟨P2, hP2, hP3⟩ : ∃ P2, 2 ^ p = P2 ∧ P2 ≤ 64 := ⟨2 ^ p, rfl, Nat.pow_le_pow_right (n := 2) (by decide) hp6⟩
  refine aEv_of okX2_mostGiven caX2_mostGiven (Nat.le_of_ble_eq_true rfl) ?_
  have lp : ∀ (j v : Nat) (sp1 : List Int) (la1 : List Int), v + j = p → (sp1.length = 6) → (la1.length = 6) → (∀ q, q < v → sp1.getD q 0 = (sprV p k f c n l t) q) → (∀ q, q < v → la1.getD q 0 = (lckV p k f c n l t) q) → AW mX2_mostGiven 5 0 0 N none (fun rv h => rv = some (.inl (mnX (cuF p (sprV p k f c n l t) (lckV p k f c n l t) c g) (2 ^ p))) ∧ ∃ (sp2 la2 : List Int), sp2.length = 6 ∧ la2.length = 6 ∧ h = [A0, (moSeg 32 k f c n kp l nt w sh (p : Int) t d wa), B, (miscSeg z fs ss sp2 la2 gr tl tp), B4, A5, C6]) (2, [some (.inr 103), some (.inl g), some (.inl (v : Int)), none], [], [A0, (moSeg 32 k f c n kp l nt w sh (p : Int) t d wa), B, (miscSeg z fs ss sp1 la1 gr tl tp), B4, A5, C6]) := by
    intro j
    induction j with
    | zero =>
      intro v sp1 la1 hij q1 q2 q3 q4
      obtain rfl : p = v := by omega
      refine aGo okX2_mostGiven 3 (f' := (7, [some (.inr 103), some (.inl g), some (.inl (p : Int)), none], [.inr 32, .inl (p : Int)], _)) rfl ?_
      refine b_vV (as := []) (rest := [.inl (p : Int)]) (k := 32) (.inl (p : Int)) okX2_mostGiven rfl lkX2_30 caX3_people (Nat.le_of_ble_eq_true rfl) rfl (Nat.le_of_ble_eq_true rfl) rfl rfl rfl (c_people_1) ?_
      refine b_ge (tgt := 64) okX2_mostGiven rfl rfl ⟨by omega, by omega⟩ ⟨by omega, by omega⟩ (fun h10 => ?_) (fun h10 => absurd h10 (by omega))
      have lq : ∀ (j2 x : Nat), x + j2 = P2 → AW mX2_mostGiven 5 0 0 N none (fun rv h => rv = some (.inl (mnX (cuF p (sprV p k f c n l t) (lckV p k f c n l t) c g) (2 ^ p))) ∧ ∃ (sp2 la2 : List Int), sp2.length = 6 ∧ la2.length = 6 ∧ h = [A0, (moSeg 32 k f c n kp l nt w sh (p : Int) t d wa), B, (miscSeg z fs ss sp2 la2 gr tl tp), B4, A5, C6]) (69, [some (.inr 103), some (.inl g), some (.inl (mnX (cuF p (sprV p k f c n l t) (lckV p k f c n l t) c g) x)), some (.inl (x : Int))], [], [A0, (moSeg 32 k f c n kp l nt w sh (p : Int) t d wa), B, (miscSeg z fs ss sp1 la1 gr tl tp), B4, A5, C6]) := by
        intro j2
        induction j2 with
        | zero =>
          intro x hij2
          obtain rfl : P2 = x := by omega
          refine aGo okX2_mostGiven 4 (f' := (75, [some (.inr 103), some (.inl g), some (.inl (mnX (cuF p (sprV p k f c n l t) (lckV p k f c n l t) c g) P2)), some (.inl (P2 : Int))], [.inr 32, .inl 1, .inl (P2 : Int)], _)) rfl ?_
          refine b_vV (as := []) (rest := [.inl 1, .inl (P2 : Int)]) (k := 32) (.inl (p : Int)) okX2_mostGiven rfl lkX2_30 caX3_people (Nat.le_of_ble_eq_true rfl) rfl (Nat.le_of_ble_eq_true rfl) rfl rfl rfl (c_people_1) ?_
          refine aGo okX2_mostGiven 1 (f' := (79, [some (.inr 103), some (.inl g), some (.inl (mnX (cuF p (sprV p k f c n l t) (lckV p k f c n l t) c g) P2)), some (.inl (P2 : Int))], [.inl (aShl 1 (p : Int)), .inl (P2 : Int)], _)) rfl ?_
          refine b_cast (f' := (79, [some (.inr 103), some (.inl g), some (.inl (mnX (cuF p (sprV p k f c n l t) (lckV p k f c n l t) c g) P2)), some (.inl (P2 : Int))], [.inl (P2 : Int), .inl (P2 : Int)], [A0, (moSeg 32 k f c n kp l nt w sh (p : Int) t d wa), B, (miscSeg z fs ss sp1 la1 gr tl tp), B4, A5, C6])) (congrArg (fun q : Int => ((79, [some (.inr 103), some (.inl g), some (.inl (mnX (cuF p (sprV p k f c n l t) (lckV p k f c n l t) c g) P2)), some (.inl (P2 : Int))], .inl q :: [.inl (P2 : Int)], [A0, (moSeg 32 k f c n kp l nt w sh (p : Int) t d wa), B, (miscSeg z fs ss sp1 la1 gr tl tp), B4, A5, C6]) : aF)) ((by rw [shl_pow p (by omega), hP2]))) ?_
          refine b_ge (tgt := 99) okX2_mostGiven rfl rfl ⟨by omega, by omega⟩ ⟨by omega, by omega⟩ (fun h79 => ?_) (fun h79 => absurd h79 (by omega))
          refine aGo okX2_mostGiven 1 (f' := (100, [some (.inr 103), some (.inl g), some (.inl (mnX (cuF p (sprV p k f c n l t) (lckV p k f c n l t) c g) P2)), some (.inl (P2 : Int))], [.inl (mnX (cuF p (sprV p k f c n l t) (lckV p k f c n l t) c g) P2)], _)) rfl ?_
          exact b_ret (v := (some (.inl (mnX (cuF p (sprV p k f c n l t) (lckV p k f c n l t) c g) P2)))) ⟨rfl, Or.inl rfl⟩ ⟨by rw [hP2], sp1, la1, q1, q2, rfl⟩ rfl
        | succ j2 ih2 =>
          intro x hij2
          have e1 := mnX_le (m := 64) hGX x (by omega)
          have e2 := hGX x (by omega)
          have e3 : 0 ≤ sumN p (cuT p (sprV p k f c n l t) (lckV p k f c n l t) c g x) ∧ sumN p (cuT p (sprV p k f c n l t) (lckV p k f c n l t) c g x) ≤ 140000 := e2
          refine aGo okX2_mostGiven 4 (f' := (75, [some (.inr 103), some (.inl g), some (.inl (mnX (cuF p (sprV p k f c n l t) (lckV p k f c n l t) c g) x)), some (.inl (x : Int))], [.inr 32, .inl 1, .inl (x : Int)], _)) rfl ?_
          refine b_vV (as := []) (rest := [.inl 1, .inl (x : Int)]) (k := 32) (.inl (p : Int)) okX2_mostGiven rfl lkX2_30 caX3_people (Nat.le_of_ble_eq_true rfl) rfl (Nat.le_of_ble_eq_true rfl) rfl rfl rfl (c_people_1) ?_
          refine aGo okX2_mostGiven 1 (f' := (79, [some (.inr 103), some (.inl g), some (.inl (mnX (cuF p (sprV p k f c n l t) (lckV p k f c n l t) c g) x)), some (.inl (x : Int))], [.inl (aShl 1 (p : Int)), .inl (x : Int)], _)) rfl ?_
          refine b_cast (f' := (79, [some (.inr 103), some (.inl g), some (.inl (mnX (cuF p (sprV p k f c n l t) (lckV p k f c n l t) c g) x)), some (.inl (x : Int))], [.inl (P2 : Int), .inl (x : Int)], [A0, (moSeg 32 k f c n kp l nt w sh (p : Int) t d wa), B, (miscSeg z fs ss sp1 la1 gr tl tp), B4, A5, C6])) (congrArg (fun q : Int => ((79, [some (.inr 103), some (.inl g), some (.inl (mnX (cuF p (sprV p k f c n l t) (lckV p k f c n l t) c g) x)), some (.inl (x : Int))], .inl q :: [.inl (x : Int)], [A0, (moSeg 32 k f c n kp l nt w sh (p : Int) t d wa), B, (miscSeg z fs ss sp1 la1 gr tl tp), B4, A5, C6]) : aF)) ((by rw [shl_pow p (by omega), hP2]))) ?_
          refine b_ge (tgt := 99) okX2_mostGiven rfl rfl ⟨by omega, by omega⟩ ⟨by omega, by omega⟩ (fun h79 => absurd h79 (by omega)) (fun h79 => ?_)
          refine aGo okX2_mostGiven 4 (f' := (86, [some (.inr 103), some (.inl g), some (.inl (mnX (cuF p (sprV p k f c n l t) (lckV p k f c n l t) c g) x)), some (.inl (x : Int))], [.inl g, .inl (x : Int), .inr 103, .inl (mnX (cuF p (sprV p k f c n l t) (lckV p k f c n l t) c g) x)], _)) rfl ?_
          refine b_vE (as := [.inl (x : Int), .inl g]) (rest := [.inl (mnX (cuF p (sprV p k f c n l t) (lckV p k f c n l t) c g) x)]) (k := 103) okX2_mostGiven rfl lkX2_54 caX2_cutBy (Nat.le_of_ble_eq_true rfl) rfl (Nat.le_of_ble_eq_true rfl) rfl rfl rfl (c_cutBy hp6 hc rc q1 q3 rS hg q2 q4 rL (by omega)) ?_
          rintro _ _ ⟨rfl, rfl⟩
          refine b_min okX2_mostGiven rfl lkX2_57 ma_min_s ma_min_c (Nat.le_of_ble_eq_true rfl) (Nat.le_of_ble_eq_true rfl) ⟨by omega, by omega⟩ ⟨by omega, by omega⟩ ?_
          refine aGo okX2_mostGiven 3 (f' := (69, [some (.inr 103), some (.inl g), some (.inl (min (mnX (cuF p (sprV p k f c n l t) (lckV p k f c n l t) c g) x) ((cuF p (sprV p k f c n l t) (lckV p k f c n l t) c g) x))), some (.inl ((x : Int) + 1))], [], _)) rfl ?_
          exact ih2 (x + 1) (by omega)
      refine aGo okX2_mostGiven 4 (f' := (69, [some (.inr 103), some (.inl g), some (.inl 2147483647), some (.inl 0)], [], _)) rfl ?_
      exact lq P2 0 (by omega)
    | succ j ih =>
      intro v sp1 la1 hij q1 q2 q3 q4
      have e1 := hle v (by omega)
      have e2 := rn v
      have e8 : max 0 ((sh.getD v 0 - nt.getD v 0) - n.getD v 0) = (sprV p k f c n l t) v := by
        unfold sprV hasM; rw [← zsh v (by omega), ← znt v (by omega)]
      have e9 : max 0 (-((sh.getD v 0 - nt.getD v 0) - n.getD v 0)) = (lckV p k f c n l t) v := by
        unfold lckV hasM; rw [← zsh v (by omega), ← znt v (by omega)]
      refine aGo okX2_mostGiven 3 (f' := (7, [some (.inr 103), some (.inl g), some (.inl (v : Int)), none], [.inr 32, .inl (v : Int)], _)) rfl ?_
      refine b_vV (as := []) (rest := [.inl (v : Int)]) (k := 32) (.inl (p : Int)) okX2_mostGiven rfl lkX2_30 caX3_people (Nat.le_of_ble_eq_true rfl) rfl (Nat.le_of_ble_eq_true rfl) rfl rfl rfl (c_people_1) ?_
      refine b_ge (tgt := 64) okX2_mostGiven rfl rfl ⟨by omega, by omega⟩ ⟨by omega, by omega⟩ (fun h10 => absurd h10 (by omega)) (fun h10 => ?_)
      refine aGo okX2_mostGiven 3 (f' := (18, [some (.inr 103), some (.inl g), some (.inl (v : Int)), none], [.inl (v : Int), .inr 32], _)) rfl ?_
      refine b_vV (as := [.inl (v : Int)]) (rest := []) (k := 32) (.inl ((sh.getD v 0) - (nt.getD v 0))) okX2_mostGiven rfl lkX2_40 caX3_hasOf (Nat.le_of_ble_eq_true rfl) rfl (Nat.le_of_ble_eq_true rfl) rfl rfl rfl (c_hasOf_1 (i := v) (by first | omega | (simp only [List.length_set]; omega)) (by first | omega | (simp only [List.length_set]; omega)) (by omega)) ?_
      refine aGo okX2_mostGiven 3 (f' := (26, [some (.inr 103), some (.inl g), some (.inl (v : Int)), none], [.inl (v : Int), .inr 32, .inl ((sh.getD v 0) - (nt.getD v 0))], _)) rfl ?_
      refine b_vV (as := [.inl (v : Int)]) (rest := [.inl ((sh.getD v 0) - (nt.getD v 0))]) (k := 32) (.inl (n.getD v 0)) okX2_mostGiven rfl lkX2_36 caX3_needOf (Nat.le_of_ble_eq_true rfl) rfl (Nat.le_of_ble_eq_true rfl) rfl rfl rfl (c_needOf_1 (i := v) (by first | omega | (simp only [List.length_set]; omega)) (by omega)) ?_
      refine aGo okX2_mostGiven 7 (f' := (38, [some (.inr 103), some (.inl g), some (.inl (v : Int)), some (.inl (((sh.getD v 0) - (nt.getD v 0)) - (n.getD v 0)))], [.inl (((sh.getD v 0) - (nt.getD v 0)) - (n.getD v 0)), .inl 0, .inl (v : Int), .inr 104], _)) rfl ?_
      refine b_max okX2_mostGiven rfl lkX2_43 ma_max_s ma_max_c (Nat.le_of_ble_eq_true rfl) (Nat.le_of_ble_eq_true rfl) ⟨by omega, by omega⟩ ⟨by omega, by omega⟩ ?_
      refine b_vN (as := [.inl (v : Int), .inl (max 0 (((sh.getD v 0) - (nt.getD v 0)) - (n.getD v 0)))]) (rest := []) (k := 104) okX2_mostGiven rfl lkX2_49 caX4_put (Nat.le_of_ble_eq_true rfl) rfl (Nat.le_of_ble_eq_true rfl) rfl rfl rfl (c_put (i := v) rfl rfl (by first | omega | (simp only [List.length_set]; omega)) (by first | omega | (simp only [List.length_set]; omega)) (max 0 (((sh.getD v 0) - (nt.getD v 0)) - (n.getD v 0)))) ?_
      refine b_cast (f' := (44, [some (.inr 103), some (.inl g), some (.inl (v : Int)), some (.inl (((sh.getD v 0) - (nt.getD v 0)) - (n.getD v 0)))], [], [A0, (moSeg 32 k f c n kp l nt w sh (p : Int) t d wa), B, (miscSeg z fs ss (sp1.set v (max 0 (((sh.getD v 0) - (nt.getD v 0)) - (n.getD v 0)))) la1 gr tl tp), B4, A5, C6])) rfl ?_
      refine aGo okX2_mostGiven 6 (f' := (52, [some (.inr 103), some (.inl g), some (.inl (v : Int)), some (.inl (((sh.getD v 0) - (nt.getD v 0)) - (n.getD v 0)))], [.inl (-(((sh.getD v 0) - (nt.getD v 0)) - (n.getD v 0))), .inl 0, .inl (v : Int), .inr 106], _)) rfl ?_
      refine b_max okX2_mostGiven rfl lkX2_43 ma_max_s ma_max_c (Nat.le_of_ble_eq_true rfl) (Nat.le_of_ble_eq_true rfl) ⟨by omega, by omega⟩ ⟨by omega, by omega⟩ ?_
      refine b_vN (as := [.inl (v : Int), .inl (max 0 (-(((sh.getD v 0) - (nt.getD v 0)) - (n.getD v 0))))]) (rest := []) (k := 106) okX2_mostGiven rfl lkX2_49 caX4_put (Nat.le_of_ble_eq_true rfl) rfl (Nat.le_of_ble_eq_true rfl) rfl rfl rfl (c_put (i := v) rfl rfl (by first | omega | (simp only [List.length_set]; omega)) (by first | omega | (simp only [List.length_set]; omega)) (max 0 (-(((sh.getD v 0) - (nt.getD v 0)) - (n.getD v 0))))) ?_
      refine b_cast (f' := (58, [some (.inr 103), some (.inl g), some (.inl (v : Int)), some (.inl (((sh.getD v 0) - (nt.getD v 0)) - (n.getD v 0)))], [], [A0, (moSeg 32 k f c n kp l nt w sh (p : Int) t d wa), B, (miscSeg z fs ss (sp1.set v (max 0 (((sh.getD v 0) - (nt.getD v 0)) - (n.getD v 0)))) (la1.set v (max 0 (-(((sh.getD v 0) - (nt.getD v 0)) - (n.getD v 0))))) gr tl tp), B4, A5, C6])) rfl ?_
      refine aGo okX2_mostGiven 2 (f' := (2, [some (.inr 103), some (.inl g), some (.inl ((v : Int) + 1)), some (.inl (((sh.getD v 0) - (nt.getD v 0)) - (n.getD v 0)))], [], _)) rfl ?_
      refine b_lose (ls' := [some (.inr 103), some (.inl g), some (.inl ((v : Int) + 1)), none]) (lose3 _ _ _ _) ?_
      exact ih (v + 1) _ _ (by omega) (by rw [List.length_set]; exact q1) (by rw [List.length_set]; exact q2) (set_upto (i := v) (F := (sprV p k f c n l t)) (by omega) e8 q3) (set_upto (i := v) (F := (lckV p k f c n l t)) (by omega) e9 q4)
  refine aGo okX2_mostGiven 2 (f' := (2, [some (.inr 103), some (.inl g), some (.inl 0), none], [], _)) rfl ?_
  exact lp p 0 sp la (by omega) hsp hla (fun q hq => by omega) (fun q hq => by omega)
set_option maxRecDepth 100000 in
set_option maxHeartbeats 4000000 in
theorem c_fewestLoans (hm : mOK p k f c n kp l nt w sh t d wa) (hp6 : p ≤ 6) (hgr : gr.length = 64) : aEv mX2_fewestLoans 2 0 0 N [.inr 103] [A0, (moSeg 32 k f c n kp l nt w sh (p : Int) t d wa), B, (miscSeg z fs ss sp la gr tl tp), B4, A5, C6] ((fun rv h => rv = some (.inl ((p : Int) - dpF p (net p l) (2 ^ p - 1) (2 ^ p - 1))) ∧ ∃ (gr2 : List Int), gr2.length = 64 ∧ h = [A0, (moSeg 32 k f c n kp l nt w sh (p : Int) t d wa), B, (miscSeg z fs ss sp la gr2 tl tp), B4, A5, C6])) := by
  obtain ⟨⟨hp7, hk, hf, hc, hn, hkp, hl, rk, rf, rc, rn, rkp, rl, ht0, ht1, hd0, hd1⟩, ⟨hnt, znt⟩, ⟨hw, zw, zwa⟩, ⟨hsh, zsh⟩⟩ := id hm
  obtain ⟨A, hA, hA2, hA3⟩ : ∃ A, 2 ^ p - 1 = A ∧ 2 ^ p = A + 1 ∧ A < 64 := ⟨2 ^ p - 1, rfl, by have := Nat.two_pow_pos p; omega, by have := Nat.pow_le_pow_right (n := 2) (by decide) hp6; omega⟩
  refine aEv_of okX2_fewestLoans caX2_fewestLoans (Nat.le_of_ble_eq_true rfl) ?_
  have lp : ∀ (j x : Nat) (gr1 : List Int), x + j = A → (gr1.length = 64) → (∀ y, y < x + 1 → gr1.getD y 0 = dpF p (net p l) x y) → AW mX2_fewestLoans 2 0 0 N none (fun rv h => rv = some (.inl ((p : Int) - dpF p (net p l) (2 ^ p - 1) (2 ^ p - 1))) ∧ ∃ (gr2 : List Int), gr2.length = 64 ∧ h = [A0, (moSeg 32 k f c n kp l nt w sh (p : Int) t d wa), B, (miscSeg z fs ss sp la gr2 tl tp), B4, A5, C6]) (23, [some (.inr 103), some (.inl (A : Int)), some (.inl (((x + 1) : Nat) : Int)), none, none, none], [], [A0, (moSeg 32 k f c n kp l nt w sh (p : Int) t d wa), B, (miscSeg z fs ss sp la gr1 tl tp), B4, A5, C6]) := by
    intro j
    induction j with
    | zero =>
      intro x gr1 hij q1 q2
      obtain rfl : A = x := by omega
      refine aGo okX2_fewestLoans 2 (f' := (25, [some (.inr 103), some (.inl (A : Int)), some (.inl (((A + 1) : Nat) : Int)), none, none, none], [.inl (A : Int), .inl (((A + 1) : Nat) : Int)], _)) rfl ?_
      refine b_gt (tgt := 124) okX2_fewestLoans rfl rfl ⟨by omega, by omega⟩ ⟨by omega, by omega⟩ (fun h25 => ?_) (fun h25 => absurd h25 (by omega))
      refine aGo okX2_fewestLoans 2 (f' := (128, [some (.inr 103), some (.inl (A : Int)), some (.inl (((A + 1) : Nat) : Int)), none, none, none], [.inr 32], _)) rfl ?_
      refine b_vV (as := []) (rest := []) (k := 32) (.inl (p : Int)) okX2_fewestLoans rfl lkX2_30 caX3_people (Nat.le_of_ble_eq_true rfl) rfl (Nat.le_of_ble_eq_true rfl) rfl rfl rfl (c_people_1) ?_
      refine aGo okX2_fewestLoans 3 (f' := (136, [some (.inr 103), some (.inl (A : Int)), some (.inl (((A + 1) : Nat) : Int)), none, none, none], [.inl (A : Int), .inr 108, .inl (p : Int)], _)) rfl ?_
      refine b_vV (as := [.inl (A : Int)]) (rest := [.inl (p : Int)]) (k := 108) (.inl (gr1.getD A 0)) okX2_fewestLoans rfl lkX2_60 caX4_at (Nat.le_of_ble_eq_true rfl) rfl (Nat.le_of_ble_eq_true rfl) rfl rfl rfl (c_at (i := A) rfl rfl (by first | omega | (simp only [List.length_set]; omega)) (by omega)) ?_
      refine aGo okX2_fewestLoans 1 (f' := (140, [some (.inr 103), some (.inl (A : Int)), some (.inl (((A + 1) : Nat) : Int)), none, none, none], [.inl ((p : Int) - (gr1.getD A 0))], _)) rfl ?_
      exact b_ret (v := (some (.inl ((p : Int) - (gr1.getD A 0))))) ⟨rfl, Or.inl rfl⟩ ⟨by rw [q2 A (by omega), hA], gr1, q1, rfl⟩ rfl
    | succ j ih =>
      intro x gr1 hij q1 q2
      refine aGo okX2_fewestLoans 2 (f' := (25, [some (.inr 103), some (.inl (A : Int)), some (.inl (((x + 1) : Nat) : Int)), none, none, none], [.inl (A : Int), .inl (((x + 1) : Nat) : Int)], _)) rfl ?_
      refine b_gt (tgt := 124) okX2_fewestLoans rfl rfl ⟨by omega, by omega⟩ ⟨by omega, by omega⟩ (fun h25 => absurd h25 (by omega)) (fun h25 => ?_)
      refine aGo okX2_fewestLoans 6 (f' := (36, [some (.inr 103), some (.inl (A : Int)), some (.inl (((x + 1) : Nat) : Int)), some (.inl 0), some (.inl 0), some (.inl 0)], [], _)) rfl ?_
      have lq : ∀ (j2 v : Nat), v + j2 = p → AW mX2_fewestLoans 2 0 0 N none (fun rv h => rv = some (.inl ((p : Int) - dpF p (net p l) (2 ^ p - 1) (2 ^ p - 1))) ∧ ∃ (gr2 : List Int), gr2.length = 64 ∧ h = [A0, (moSeg 32 k f c n kp l nt w sh (p : Int) t d wa), B, (miscSeg z fs ss sp la gr2 tl tp), B4, A5, C6]) (36, [some (.inr 103), some (.inl (A : Int)), some (.inl (((x + 1) : Nat) : Int)), some (.inl (ntS (net p l) (x + 1) v)), some (.inl (mstN (dpF p (net p l) x) (x + 1) v)), some (.inl (v : Int))], [], [A0, (moSeg 32 k f c n kp l nt w sh (p : Int) t d wa), B, (miscSeg z fs ss sp la gr1 tl tp), B4, A5, C6]) := by
        intro j2
        induction j2 with
        | zero =>
          intro v hij2
          obtain rfl : p = v := by omega
          have e1 := ntS_le (V := net p l) (x := x + 1) (m := p) hp7 (net_le hp7 rl)
          have e2 := mstN_le (F := dpF p (net p l) x) (b := x) (by omega) (dpF_le p (net p l) x) (x + 1) p
          refine aGo okX2_fewestLoans 3 (f' := (42, [some (.inr 103), some (.inl (A : Int)), some (.inl (((x + 1) : Nat) : Int)), some (.inl (ntS (net p l) (x + 1) p)), some (.inl (mstN (dpF p (net p l) x) (x + 1) p)), some (.inl (p : Int))], [.inr 32, .inl (p : Int)], _)) rfl ?_
          refine b_vV (as := []) (rest := [.inl (p : Int)]) (k := 32) (.inl (p : Int)) okX2_fewestLoans rfl lkX2_30 caX3_people (Nat.le_of_ble_eq_true rfl) rfl (Nat.le_of_ble_eq_true rfl) rfl rfl rfl (c_people_1) ?_
          refine b_ge (tgt := 97) okX2_fewestLoans rfl rfl ⟨by omega, by omega⟩ ⟨by omega, by omega⟩ (fun h45 => ?_) (fun h45 => absurd h45 (by omega))
          refine aGo okX2_fewestLoans 4 (f' := (103, [some (.inr 103), some (.inl (A : Int)), some (.inl (((x + 1) : Nat) : Int)), some (.inl (ntS (net p l) (x + 1) p)), some (.inl (mstN (dpF p (net p l) x) (x + 1) p)), some (.inl (p : Int))], [.inl (ntS (net p l) (x + 1) p), .inl (((x + 1) : Nat) : Int), .inr 108], _)) rfl ?_
          refine b0_ne (tgt := 113) okX2_fewestLoans rfl rfl ⟨by omega, by omega⟩ (fun h103 => ?_) (fun h103 => ?_)
          · refine aGo okX2_fewestLoans 1 (f' := (115, [some (.inr 103), some (.inl (A : Int)), some (.inl (((x + 1) : Nat) : Int)), some (.inl (ntS (net p l) (x + 1) p)), some (.inl (mstN (dpF p (net p l) x) (x + 1) p)), some (.inl (p : Int))], [.inl (mstN (dpF p (net p l) x) (x + 1) p), .inl (((x + 1) : Nat) : Int), .inr 108], _)) rfl ?_
            refine b_vN (as := [.inl (((x + 1) : Nat) : Int), .inl (mstN (dpF p (net p l) x) (x + 1) p)]) (rest := []) (k := 108) okX2_fewestLoans rfl lkX2_49 caX4_put (Nat.le_of_ble_eq_true rfl) rfl (Nat.le_of_ble_eq_true rfl) rfl rfl rfl (c_put (i := (x + 1)) rfl rfl (by first | omega | (simp only [List.length_set]; omega)) (by first | omega | (simp only [List.length_set]; omega)) (mstN (dpF p (net p l) x) (x + 1) p)) ?_
            refine b_cast (f' := (118, [some (.inr 103), some (.inl (A : Int)), some (.inl (((x + 1) : Nat) : Int)), some (.inl (ntS (net p l) (x + 1) p)), some (.inl (mstN (dpF p (net p l) x) (x + 1) p)), some (.inl (p : Int))], [], [A0, (moSeg 32 k f c n kp l nt w sh (p : Int) t d wa), B, (miscSeg z fs ss sp la (gr1.set (x + 1) (mstN (dpF p (net p l) x) (x + 1) p)) tl tp), B4, A5, C6])) rfl ?_
            refine aGo okX2_fewestLoans 2 (f' := (23, [some (.inr 103), some (.inl (A : Int)), some (.inl ((((x + 1) : Nat) : Int) + 1)), some (.inl (ntS (net p l) (x + 1) p)), some (.inl (mstN (dpF p (net p l) x) (x + 1) p)), some (.inl (p : Int))], [], _)) rfl ?_
            refine b_lose (ls' := [some (.inr 103), some (.inl (A : Int)), some (.inl ((((x + 1) : Nat) : Int) + 1)), none, none, none]) (lose345 _ _ _ _ _ _) ?_
            exact ih (x + 1) _ (by omega) (by rw [List.length_set]; exact q1) (set_upto (i := x + 1) (F := dpF p (net p l) (x + 1)) (by omega) (by rw [dpF_at]; first | rw [if_pos (by omega)] | rw [if_neg (by omega)]) (fun y hy => by rw [q2 y hy, dpF_lt (by omega)]))
          · refine aGo okX2_fewestLoans 4 (f' := (115, [some (.inr 103), some (.inl (A : Int)), some (.inl (((x + 1) : Nat) : Int)), some (.inl (ntS (net p l) (x + 1) p)), some (.inl (mstN (dpF p (net p l) x) (x + 1) p)), some (.inl (p : Int))], [.inl ((mstN (dpF p (net p l) x) (x + 1) p) + 1), .inl (((x + 1) : Nat) : Int), .inr 108], _)) rfl ?_
            refine b_vN (as := [.inl (((x + 1) : Nat) : Int), .inl ((mstN (dpF p (net p l) x) (x + 1) p) + 1)]) (rest := []) (k := 108) okX2_fewestLoans rfl lkX2_49 caX4_put (Nat.le_of_ble_eq_true rfl) rfl (Nat.le_of_ble_eq_true rfl) rfl rfl rfl (c_put (i := (x + 1)) rfl rfl (by first | omega | (simp only [List.length_set]; omega)) (by first | omega | (simp only [List.length_set]; omega)) ((mstN (dpF p (net p l) x) (x + 1) p) + 1)) ?_
            refine b_cast (f' := (118, [some (.inr 103), some (.inl (A : Int)), some (.inl (((x + 1) : Nat) : Int)), some (.inl (ntS (net p l) (x + 1) p)), some (.inl (mstN (dpF p (net p l) x) (x + 1) p)), some (.inl (p : Int))], [], [A0, (moSeg 32 k f c n kp l nt w sh (p : Int) t d wa), B, (miscSeg z fs ss sp la (gr1.set (x + 1) ((mstN (dpF p (net p l) x) (x + 1) p) + 1)) tl tp), B4, A5, C6])) rfl ?_
            refine aGo okX2_fewestLoans 2 (f' := (23, [some (.inr 103), some (.inl (A : Int)), some (.inl ((((x + 1) : Nat) : Int) + 1)), some (.inl (ntS (net p l) (x + 1) p)), some (.inl (mstN (dpF p (net p l) x) (x + 1) p)), some (.inl (p : Int))], [], _)) rfl ?_
            refine b_lose (ls' := [some (.inr 103), some (.inl (A : Int)), some (.inl ((((x + 1) : Nat) : Int) + 1)), none, none, none]) (lose345 _ _ _ _ _ _) ?_
            exact ih (x + 1) _ (by omega) (by rw [List.length_set]; exact q1) (set_upto (i := x + 1) (F := dpF p (net p l) (x + 1)) (by omega) (by rw [dpF_at]; first | rw [if_pos (by omega)] | rw [if_neg (by omega)]) (fun y hy => by rw [q2 y hy, dpF_lt (by omega)]))
        | succ j2 ih2 =>
          intro v hij2
          have e2 := mstN_le (F := dpF p (net p l) x) (b := x) (by omega) (dpF_le p (net p l) x) (x + 1) v
          refine aGo okX2_fewestLoans 3 (f' := (42, [some (.inr 103), some (.inl (A : Int)), some (.inl (((x + 1) : Nat) : Int)), some (.inl (ntS (net p l) (x + 1) v)), some (.inl (mstN (dpF p (net p l) x) (x + 1) v)), some (.inl (v : Int))], [.inr 32, .inl (v : Int)], _)) rfl ?_
          refine b_vV (as := []) (rest := [.inl (v : Int)]) (k := 32) (.inl (p : Int)) okX2_fewestLoans rfl lkX2_30 caX3_people (Nat.le_of_ble_eq_true rfl) rfl (Nat.le_of_ble_eq_true rfl) rfl rfl rfl (c_people_1) ?_
          refine b_ge (tgt := 97) okX2_fewestLoans rfl rfl ⟨by omega, by omega⟩ ⟨by omega, by omega⟩ (fun h45 => absurd h45 (by omega)) (fun h45 => ?_)
          refine aGo okX2_fewestLoans 5 (f' := (54, [some (.inr 103), some (.inl (A : Int)), some (.inl (((x + 1) : Nat) : Int)), some (.inl (ntS (net p l) (x + 1) v)), some (.inl (mstN (dpF p (net p l) x) (x + 1) v)), some (.inl (v : Int))], [.inl (aAnd (aShr (((x + 1) : Nat) : Int) (v : Int)) 1)], _)) rfl ?_
          have hbv := shr_bit (x + 1) (by omega) v (by omega)
          cases hz : (x + 1).testBit v with
          | false =>
            rw [hz] at hbv
            refine b_cast (f' := (54, [some (.inr 103), some (.inl (A : Int)), some (.inl (((x + 1) : Nat) : Int)), some (.inl (ntS (net p l) (x + 1) v)), some (.inl (mstN (dpF p (net p l) x) (x + 1) v)), some (.inl (v : Int))], [.inl 0], [A0, (moSeg 32 k f c n kp l nt w sh (p : Int) t d wa), B, (miscSeg z fs ss sp la gr1 tl tp), B4, A5, C6])) (congrArg (fun q : Int => ((54, [some (.inr 103), some (.inl (A : Int)), some (.inl (((x + 1) : Nat) : Int)), some (.inl (ntS (net p l) (x + 1) v)), some (.inl (mstN (dpF p (net p l) x) (x + 1) v)), some (.inl (v : Int))], .inl q :: [], [A0, (moSeg 32 k f c n kp l nt w sh (p : Int) t d wa), B, (miscSeg z fs ss sp la gr1 tl tp), B4, A5, C6]) : aF)) hbv) ?_
            refine b0_eq (tgt := 91) okX2_fewestLoans rfl rfl ⟨by omega, by omega⟩ (fun h54 => ?_) (fun h54 => absurd h54 (by omega))
            refine aGo okX2_fewestLoans 2 (f' := (36, [some (.inr 103), some (.inl (A : Int)), some (.inl (((x + 1) : Nat) : Int)), some (.inl (ntS (net p l) (x + 1) v)), some (.inl (mstN (dpF p (net p l) x) (x + 1) v)), some (.inl ((v : Int) + 1))], [], _)) rfl ?_
            refine b_cast (f' := (36, [some (.inr 103), some (.inl (A : Int)), some (.inl (((x + 1) : Nat) : Int)), some (.inl (ntS (net p l) (x + 1) (v + 1))), some (.inl (mstN (dpF p (net p l) x) (x + 1) v)), some (.inl ((v : Int) + 1))], [], [A0, (moSeg 32 k f c n kp l nt w sh (p : Int) t d wa), B, (miscSeg z fs ss sp la gr1 tl tp), B4, A5, C6])) (congrArg (fun q : Int => ((36, [some (.inr 103), some (.inl (A : Int)), some (.inl (((x + 1) : Nat) : Int)), some (.inl q), some (.inl (mstN (dpF p (net p l) x) (x + 1) v)), some (.inl ((v : Int) + 1))], [], [A0, (moSeg 32 k f c n kp l nt w sh (p : Int) t d wa), B, (miscSeg z fs ss sp la gr1 tl tp), B4, A5, C6]) : aF)) ((by show _ = ntS (net p l) (x + 1) v + (if (x + 1).testBit v = true then net p l v else 0); rw [hz]; first | (rw [if_pos rfl, znt v (by omega)]) | (rw [if_neg (by decide), Int.add_zero])))) ?_
            refine b_cast (f' := (36, [some (.inr 103), some (.inl (A : Int)), some (.inl (((x + 1) : Nat) : Int)), some (.inl (ntS (net p l) (x + 1) (v + 1))), some (.inl (mstN (dpF p (net p l) x) (x + 1) (v + 1))), some (.inl ((v : Int) + 1))], [], [A0, (moSeg 32 k f c n kp l nt w sh (p : Int) t d wa), B, (miscSeg z fs ss sp la gr1 tl tp), B4, A5, C6])) (congrArg (fun q : Int => ((36, [some (.inr 103), some (.inl (A : Int)), some (.inl (((x + 1) : Nat) : Int)), some (.inl (ntS (net p l) (x + 1) (v + 1))), some (.inl q), some (.inl ((v : Int) + 1))], [], [A0, (moSeg 32 k f c n kp l nt w sh (p : Int) t d wa), B, (miscSeg z fs ss sp la gr1 tl tp), B4, A5, C6]) : aF)) ((by simp only [mstN]; rw [hz]; first | (rw [if_pos rfl, hgr]) | (rw [if_neg (by decide)])))) ?_
            exact ih2 (v + 1) (by omega)
          | true =>
            rw [hz] at hbv
            refine b_cast (f' := (54, [some (.inr 103), some (.inl (A : Int)), some (.inl (((x + 1) : Nat) : Int)), some (.inl (ntS (net p l) (x + 1) v)), some (.inl (mstN (dpF p (net p l) x) (x + 1) v)), some (.inl (v : Int))], [.inl 1], [A0, (moSeg 32 k f c n kp l nt w sh (p : Int) t d wa), B, (miscSeg z fs ss sp la gr1 tl tp), B4, A5, C6])) (congrArg (fun q : Int => ((54, [some (.inr 103), some (.inl (A : Int)), some (.inl (((x + 1) : Nat) : Int)), some (.inl (ntS (net p l) (x + 1) v)), some (.inl (mstN (dpF p (net p l) x) (x + 1) v)), some (.inl (v : Int))], .inl q :: [], [A0, (moSeg 32 k f c n kp l nt w sh (p : Int) t d wa), B, (miscSeg z fs ss sp la gr1 tl tp), B4, A5, C6]) : aF)) hbv) ?_
            refine b0_eq (tgt := 91) okX2_fewestLoans rfl rfl ⟨by omega, by omega⟩ (fun h54 => absurd h54 (by omega)) (fun h54 => ?_)
            refine aGo okX2_fewestLoans 4 (f' := (64, [some (.inr 103), some (.inl (A : Int)), some (.inl (((x + 1) : Nat) : Int)), some (.inl (ntS (net p l) (x + 1) v)), some (.inl (mstN (dpF p (net p l) x) (x + 1) v)), some (.inl (v : Int))], [.inl (v : Int), .inr 32, .inl (ntS (net p l) (x + 1) v)], _)) rfl ?_
            refine b_vV (as := [.inl (v : Int)]) (rest := [.inl (ntS (net p l) (x + 1) v)]) (k := 32) (.inl (nt.getD v 0)) okX2_fewestLoans rfl lkX2_70 caX3_netOf (Nat.le_of_ble_eq_true rfl) rfl (Nat.le_of_ble_eq_true rfl) rfl rfl rfl (c_netOf_1 (i := v) (by first | omega | (simp only [List.length_set]; omega)) (by omega)) ?_
            refine aGo okX2_fewestLoans 12 (f' := (83, [some (.inr 103), some (.inl (A : Int)), some (.inl (((x + 1) : Nat) : Int)), some (.inl ((ntS (net p l) (x + 1) v) + (nt.getD v 0))), some (.inl (mstN (dpF p (net p l) x) (x + 1) v)), some (.inl (v : Int))], [.inl (aAnd (((x + 1) : Nat) : Int) (aXor (aShl 1 (v : Int)) (-1))), .inr 108, .inl (mstN (dpF p (net p l) x) (x + 1) v)], _)) rfl ?_
            have e7 : x + 1 - 2 ^ v ≤ x + 1 := Nat.sub_le _ _
            refine b_cast (f' := (83, [some (.inr 103), some (.inl (A : Int)), some (.inl (((x + 1) : Nat) : Int)), some (.inl ((ntS (net p l) (x + 1) v) + (nt.getD v 0))), some (.inl (mstN (dpF p (net p l) x) (x + 1) v)), some (.inl (v : Int))], [.inl ((((x + 1) - 2 ^ v) : Nat) : Int), .inr 108, .inl (mstN (dpF p (net p l) x) (x + 1) v)], [A0, (moSeg 32 k f c n kp l nt w sh (p : Int) t d wa), B, (miscSeg z fs ss sp la gr1 tl tp), B4, A5, C6])) (congrArg (fun q : Int => ((83, [some (.inr 103), some (.inl (A : Int)), some (.inl (((x + 1) : Nat) : Int)), some (.inl ((ntS (net p l) (x + 1) v) + (nt.getD v 0))), some (.inl (mstN (dpF p (net p l) x) (x + 1) v)), some (.inl (v : Int))], .inl q :: [.inr 108, .inl (mstN (dpF p (net p l) x) (x + 1) v)], [A0, (moSeg 32 k f c n kp l nt w sh (p : Int) t d wa), B, (miscSeg z fs ss sp la gr1 tl tp), B4, A5, C6]) : aF)) (clr_bit (x + 1) (by omega) v (by omega) hz)) ?_
            refine b_vV (as := [.inl ((((x + 1) - 2 ^ v) : Nat) : Int)]) (rest := [.inl (mstN (dpF p (net p l) x) (x + 1) v)]) (k := 108) (.inl (gr1.getD ((x + 1) - 2 ^ v) 0)) okX2_fewestLoans rfl lkX2_60 caX4_at (Nat.le_of_ble_eq_true rfl) rfl (Nat.le_of_ble_eq_true rfl) rfl rfl rfl (c_at (i := ((x + 1) - 2 ^ v)) rfl rfl (by first | omega | (simp only [List.length_set]; omega)) (by omega)) ?_
            have e3 := dpF_le p (net p l) x (x + 1 - 2 ^ v)
            have hgr : gr1.getD (x + 1 - 2 ^ v) 0 = dpF p (net p l) x (x + 1 - 2 ^ v) := q2 _ (by have := Nat.two_pow_pos v; omega)
            rw [← hgr] at e3
            refine b_max okX2_fewestLoans rfl lkX2_43 ma_max_s ma_max_c (Nat.le_of_ble_eq_true rfl) (Nat.le_of_ble_eq_true rfl) ⟨by omega, by omega⟩ ⟨by omega, by omega⟩ ?_
            refine aGo okX2_fewestLoans 3 (f' := (36, [some (.inr 103), some (.inl (A : Int)), some (.inl (((x + 1) : Nat) : Int)), some (.inl ((ntS (net p l) (x + 1) v) + (nt.getD v 0))), some (.inl (max (mstN (dpF p (net p l) x) (x + 1) v) (gr1.getD ((x + 1) - 2 ^ v) 0))), some (.inl ((v : Int) + 1))], [], _)) rfl ?_
            refine b_cast (f' := (36, [some (.inr 103), some (.inl (A : Int)), some (.inl (((x + 1) : Nat) : Int)), some (.inl (ntS (net p l) (x + 1) (v + 1))), some (.inl (max (mstN (dpF p (net p l) x) (x + 1) v) (gr1.getD ((x + 1) - 2 ^ v) 0))), some (.inl ((v : Int) + 1))], [], [A0, (moSeg 32 k f c n kp l nt w sh (p : Int) t d wa), B, (miscSeg z fs ss sp la gr1 tl tp), B4, A5, C6])) (congrArg (fun q : Int => ((36, [some (.inr 103), some (.inl (A : Int)), some (.inl (((x + 1) : Nat) : Int)), some (.inl q), some (.inl (max (mstN (dpF p (net p l) x) (x + 1) v) (gr1.getD ((x + 1) - 2 ^ v) 0))), some (.inl ((v : Int) + 1))], [], [A0, (moSeg 32 k f c n kp l nt w sh (p : Int) t d wa), B, (miscSeg z fs ss sp la gr1 tl tp), B4, A5, C6]) : aF)) ((by show _ = ntS (net p l) (x + 1) v + (if (x + 1).testBit v = true then net p l v else 0); rw [hz]; first | (rw [if_pos rfl, znt v (by omega)]) | (rw [if_neg (by decide), Int.add_zero])))) ?_
            refine b_cast (f' := (36, [some (.inr 103), some (.inl (A : Int)), some (.inl (((x + 1) : Nat) : Int)), some (.inl (ntS (net p l) (x + 1) (v + 1))), some (.inl (mstN (dpF p (net p l) x) (x + 1) (v + 1))), some (.inl ((v : Int) + 1))], [], [A0, (moSeg 32 k f c n kp l nt w sh (p : Int) t d wa), B, (miscSeg z fs ss sp la gr1 tl tp), B4, A5, C6])) (congrArg (fun q : Int => ((36, [some (.inr 103), some (.inl (A : Int)), some (.inl (((x + 1) : Nat) : Int)), some (.inl (ntS (net p l) (x + 1) (v + 1))), some (.inl q), some (.inl ((v : Int) + 1))], [], [A0, (moSeg 32 k f c n kp l nt w sh (p : Int) t d wa), B, (miscSeg z fs ss sp la gr1 tl tp), B4, A5, C6]) : aF)) ((by simp only [mstN]; rw [hz]; first | (rw [if_pos rfl, hgr]) | (rw [if_neg (by decide)])))) ?_
            exact ih2 (v + 1) (by omega)
      exact lq p 0 (by omega)
  refine aGo okX2_fewestLoans 3 (f' := (5, [some (.inr 103), none, none, none, none, none], [.inr 32, .inl 1], _)) rfl ?_
  refine b_vV (as := []) (rest := [.inl 1]) (k := 32) (.inl (p : Int)) okX2_fewestLoans rfl lkX2_30 caX3_people (Nat.le_of_ble_eq_true rfl) rfl (Nat.le_of_ble_eq_true rfl) rfl rfl rfl (c_people_1) ?_
  refine aGo okX2_fewestLoans 3 (f' := (11, [some (.inr 103), none, none, none, none, none], [.inl ((aShl 1 (p : Int)) - 1)], _)) rfl ?_
  refine b_cast (f' := (11, [some (.inr 103), none, none, none, none, none], [.inl (A : Int)], [A0, (moSeg 32 k f c n kp l nt w sh (p : Int) t d wa), B, (miscSeg z fs ss sp la gr tl tp), B4, A5, C6])) (congrArg (fun q : Int => ((11, [some (.inr 103), none, none, none, none, none], .inl q :: [], [A0, (moSeg 32 k f c n kp l nt w sh (p : Int) t d wa), B, (miscSeg z fs ss sp la gr tl tp), B4, A5, C6]) : aF)) (by rw [shl_pow p (by omega)]; omega)) ?_
  refine aGo okX2_fewestLoans 5 (f' := (18, [some (.inr 103), some (.inl (A : Int)), none, none, none, none], [.inl 0, .inl 0, .inr 108], _)) rfl ?_
  refine b_vN (as := [.inl 0, .inl 0]) (rest := []) (k := 108) okX2_fewestLoans rfl lkX2_49 caX4_put (Nat.le_of_ble_eq_true rfl) rfl (Nat.le_of_ble_eq_true rfl) rfl rfl rfl (c_put (i := 0) rfl rfl (by first | omega | (simp only [List.length_set]; omega)) (by first | omega | (simp only [List.length_set]; omega)) 0) ?_
  refine b_cast (f' := (21, [some (.inr 103), some (.inl (A : Int)), none, none, none, none], [], [A0, (moSeg 32 k f c n kp l nt w sh (p : Int) t d wa), B, (miscSeg z fs ss sp la (gr.set 0 0) tl tp), B4, A5, C6])) rfl ?_
  refine aGo okX2_fewestLoans 2 (f' := (23, [some (.inr 103), some (.inl (A : Int)), some (.inl 1), none, none, none], [], _)) rfl ?_
  exact lp A 0 (gr.set 0 0) (by omega) (by rw [List.length_set]; exact hgr) (fun y hy => by
            have h0 : y = 0 := by omega
            rw [h0, getD_set (by omega), if_pos rfl]; rfl)
end ALE
