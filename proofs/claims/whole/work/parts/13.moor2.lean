theorem lose5 (a0 a1 a2 a3 a4 a5 : Option aV) : ∀ (i : Nat) (v : aV), [a0, a1, a2, a3, a4, none][i]? = some (some v) → [a0, a1, a2, a3, a4, a5][i]? = some (some v) := by
  intro i v h
  match i, h with
  | 0, h => exact h
  | 1, h => exact h
  | 2, h => exact h
  | 3, h => exact h
  | 4, h => exact h
  | 5, h => cases h
  | i + 6, h => exact h
theorem lose4 (a0 a1 a2 a3 a4 : Option aV) : ∀ (i : Nat) (v : aV), [a0, a1, a2, a3, none, none][i]? = some (some v) → [a0, a1, a2, a3, a4, none][i]? = some (some v) := by
  intro i v h
  match i, h with
  | 0, h => exact h
  | 1, h => exact h
  | 2, h => exact h
  | 3, h => exact h
  | 4, h => cases h
  | 5, h => exact h
  | i + 6, h => exact h
/-! The Moor's methods with loops; laid by gen_moor2.py -/
/-- the ground on which weights and shares are told -/
def wH (p : Nat) (k f c w sh : List Int) (t : Int) : Prop := p ≤ 7 ∧ k.length = 7 ∧ f.length = 7 ∧ c.length = 7 ∧ w.length = 7 ∧ sh.length = 7 ∧ rng k 5 ∧ rng f 9 ∧ rng c 35 ∧ 0 ≤ t ∧ t ≤ 999
theorem wtOf4 {fg pe ne : Int} : wtOf 4 fg pe ne = if ne < 3 then pe + fg else pe + fg + 5 := rfl
theorem mulB {t w : Int} (ht : 0 ≤ t ∧ t ≤ 999) (hw : 1 ≤ w ∧ w ≤ 200) : 0 ≤ t * w ∧ t * w ≤ 199800 := by
  refine ⟨Int.mul_nonneg ht.1 (by omega), Int.le_trans (Int.mul_le_mul ht.2 hw.2 (by omega) (by omega)) (by decide)⟩
section AMP
variable {A0 B A3 B4 A5 C6 : List (Option aE)} {k f c n kp l nt w sh : List Int} {p : Nat} {t d wa : Int} {N : Nat}
set_option maxHeartbeats 4000000 in
theorem c_allOf_1_n (hp : p ≤ 7) (hl : n.length = 7) : aEv mX3_allOf 1 0 0 N [.inr 32, .inr 39] [A0, (moSeg 32 k f c n kp l nt w sh (p : Int) t d wa), B, A3, B4, A5, C6] ((aQx (some (.inl (sumN p (fun q => n.getD q 0)))) [A0, (moSeg 32 k f c n kp l nt w sh (p : Int) t d wa), B, A3, B4, A5, C6])) := by
  refine aEv_of okX3_allOf caX3_allOf (Nat.le_of_ble_eq_true rfl) ?_
  have lp : ∀ (j i : Nat), i + j = p → AW mX3_allOf 1 0 0 N none (aQx (some (.inl (sumN p (fun q => n.getD q 0)))) [A0, (moSeg 32 k f c n kp l nt w sh (p : Int) t d wa), B, A3, B4, A5, C6]) (4, [some (.inr 32), some (.inr 39), some (.inl (sumN i (fun q => n.getD q 0))), some (.inl (i : Int))], [], [A0, (moSeg 32 k f c n kp l nt w sh (p : Int) t d wa), B, A3, B4, A5, C6]) := by
    intro j
    induction j with
    | zero =>
      intro i  hij 
      obtain rfl : p = i := by omega
      refine aGo okX3_allOf 3 (f' := (9, [some (.inr 32), some (.inr 39), some (.inl (sumN p (fun q => n.getD q 0))), some (.inl (p : Int))], [.inl (p : Int), .inl (p : Int)], _)) rfl ?_
      refine b_ge (tgt := 26) okX3_allOf rfl rfl ⟨by omega, by omega⟩ ⟨by omega, by omega⟩ (fun h9 => ?_) (fun h9 => absurd h9 (by omega))
      refine aGo okX3_allOf 1 (f' := (27, [some (.inr 32), some (.inr 39), some (.inl (sumN p (fun q => n.getD q 0))), some (.inl (p : Int))], [.inl (sumN p (fun q => n.getD q 0))], _)) rfl ?_
      exact b_ret (v := (some (.inl (sumN p (fun q => n.getD q 0))))) ⟨rfl, Or.inl rfl⟩ ⟨rfl, rfl⟩ rfl
    | succ j ih =>
      intro i  hij 
      refine aGo okX3_allOf 3 (f' := (9, [some (.inr 32), some (.inr 39), some (.inl (sumN i (fun q => n.getD q 0))), some (.inl (i : Int))], [.inl (p : Int), .inl (i : Int)], _)) rfl ?_
      refine b_ge (tgt := 26) okX3_allOf rfl rfl ⟨by omega, by omega⟩ ⟨by omega, by omega⟩ (fun h9 => absurd h9 (by omega)) (fun h9 => ?_)
      refine aGo okX3_allOf 3 (f' := (15, [some (.inr 32), some (.inr 39), some (.inl (sumN i (fun q => n.getD q 0))), some (.inl (i : Int))], [.inl (i : Int), .inr 39, .inl (sumN i (fun q => n.getD q 0))], _)) rfl ?_
      refine b_vV (as := [.inl (i : Int)]) (rest := [.inl (sumN i (fun q => n.getD q 0))]) (k := 39) (.inl (n.getD i 0)) okX3_allOf rfl lkX3_65 caX4_at (Nat.le_of_ble_eq_true rfl) rfl (Nat.le_of_ble_eq_true rfl) rfl rfl rfl (c_at (i := i) rfl rfl (by first | omega | (simp only [List.length_set]; omega)) (by omega)) ?_
      refine aGo okX3_allOf 4 (f' := (4, [some (.inr 32), some (.inr 39), some (.inl ((sumN i (fun q => n.getD q 0)) + (n.getD i 0))), some (.inl ((i : Int) + 1))], [], _)) rfl ?_
      exact ih (i + 1) (by omega)
  refine aGo okX3_allOf 4 (f' := (4, [some (.inr 32), some (.inr 39), some (.inl 0), some (.inl 0)], [], _)) rfl ?_
  exact lp p 0 (by omega)
set_option maxHeartbeats 4000000 in
theorem c_allNeeds_1 (hp : p ≤ 7) (hl : n.length = 7) : aEv mX3_allNeeds 2 0 0 N [.inr 32] [A0, (moSeg 32 k f c n kp l nt w sh (p : Int) t d wa), B, A3, B4, A5, C6] (aQx (some (.inl (sumN p (fun q => n.getD q 0)))) [A0, (moSeg 32 k f c n kp l nt w sh (p : Int) t d wa), B, A3, B4, A5, C6]) := by
  refine aEv_of okX3_allNeeds caX3_allNeeds (Nat.le_of_ble_eq_true rfl) ?_
  refine aGo okX3_allNeeds 3 (f' := (5, [some (.inr 32)], [.inr 39, .inr 32], _)) rfl ?_
  refine b_vV (as := [.inr 39]) (rest := []) (k := 32) (.inl (sumN p (fun q => n.getD q 0))) okX3_allNeeds rfl lkX3_73 caX3_allOf (Nat.le_of_ble_eq_true rfl) rfl (Nat.le_of_ble_eq_true rfl) rfl rfl rfl (c_allOf_1_n hp hl) ?_
  exact b_ret (v := (some (.inl (sumN p (fun q => n.getD q 0))))) ⟨rfl, Or.inl rfl⟩ ⟨rfl, rfl⟩ rfl
set_option maxHeartbeats 4000000 in
theorem c_allOf_1_kp (hp : p ≤ 7) (hl : kp.length = 7) : aEv mX3_allOf 1 0 0 N [.inr 32, .inr 41] [A0, (moSeg 32 k f c n kp l nt w sh (p : Int) t d wa), B, A3, B4, A5, C6] ((aQx (some (.inl (sumN p (fun q => kp.getD q 0)))) [A0, (moSeg 32 k f c n kp l nt w sh (p : Int) t d wa), B, A3, B4, A5, C6])) := by
  refine aEv_of okX3_allOf caX3_allOf (Nat.le_of_ble_eq_true rfl) ?_
  have lp : ∀ (j i : Nat), i + j = p → AW mX3_allOf 1 0 0 N none (aQx (some (.inl (sumN p (fun q => kp.getD q 0)))) [A0, (moSeg 32 k f c n kp l nt w sh (p : Int) t d wa), B, A3, B4, A5, C6]) (4, [some (.inr 32), some (.inr 41), some (.inl (sumN i (fun q => kp.getD q 0))), some (.inl (i : Int))], [], [A0, (moSeg 32 k f c n kp l nt w sh (p : Int) t d wa), B, A3, B4, A5, C6]) := by
    intro j
    induction j with
    | zero =>
      intro i  hij 
      obtain rfl : p = i := by omega
      refine aGo okX3_allOf 3 (f' := (9, [some (.inr 32), some (.inr 41), some (.inl (sumN p (fun q => kp.getD q 0))), some (.inl (p : Int))], [.inl (p : Int), .inl (p : Int)], _)) rfl ?_
      refine b_ge (tgt := 26) okX3_allOf rfl rfl ⟨by omega, by omega⟩ ⟨by omega, by omega⟩ (fun h9 => ?_) (fun h9 => absurd h9 (by omega))
      refine aGo okX3_allOf 1 (f' := (27, [some (.inr 32), some (.inr 41), some (.inl (sumN p (fun q => kp.getD q 0))), some (.inl (p : Int))], [.inl (sumN p (fun q => kp.getD q 0))], _)) rfl ?_
      exact b_ret (v := (some (.inl (sumN p (fun q => kp.getD q 0))))) ⟨rfl, Or.inl rfl⟩ ⟨rfl, rfl⟩ rfl
    | succ j ih =>
      intro i  hij 
      refine aGo okX3_allOf 3 (f' := (9, [some (.inr 32), some (.inr 41), some (.inl (sumN i (fun q => kp.getD q 0))), some (.inl (i : Int))], [.inl (p : Int), .inl (i : Int)], _)) rfl ?_
      refine b_ge (tgt := 26) okX3_allOf rfl rfl ⟨by omega, by omega⟩ ⟨by omega, by omega⟩ (fun h9 => absurd h9 (by omega)) (fun h9 => ?_)
      refine aGo okX3_allOf 3 (f' := (15, [some (.inr 32), some (.inr 41), some (.inl (sumN i (fun q => kp.getD q 0))), some (.inl (i : Int))], [.inl (i : Int), .inr 41, .inl (sumN i (fun q => kp.getD q 0))], _)) rfl ?_
      refine b_vV (as := [.inl (i : Int)]) (rest := [.inl (sumN i (fun q => kp.getD q 0))]) (k := 41) (.inl (kp.getD i 0)) okX3_allOf rfl lkX3_65 caX4_at (Nat.le_of_ble_eq_true rfl) rfl (Nat.le_of_ble_eq_true rfl) rfl rfl rfl (c_at (i := i) rfl rfl (by first | omega | (simp only [List.length_set]; omega)) (by omega)) ?_
      refine aGo okX3_allOf 4 (f' := (4, [some (.inr 32), some (.inr 41), some (.inl ((sumN i (fun q => kp.getD q 0)) + (kp.getD i 0))), some (.inl ((i : Int) + 1))], [], _)) rfl ?_
      exact ih (i + 1) (by omega)
  refine aGo okX3_allOf 4 (f' := (4, [some (.inr 32), some (.inr 41), some (.inl 0), some (.inl 0)], [], _)) rfl ?_
  exact lp p 0 (by omega)
set_option maxHeartbeats 4000000 in
theorem c_allKept_1 (hp : p ≤ 7) (hl : kp.length = 7) : aEv mX3_allKept 2 0 0 N [.inr 32] [A0, (moSeg 32 k f c n kp l nt w sh (p : Int) t d wa), B, A3, B4, A5, C6] (aQx (some (.inl (sumN p (fun q => kp.getD q 0)))) [A0, (moSeg 32 k f c n kp l nt w sh (p : Int) t d wa), B, A3, B4, A5, C6]) := by
  refine aEv_of okX3_allKept caX3_allKept (Nat.le_of_ble_eq_true rfl) ?_
  refine aGo okX3_allKept 3 (f' := (5, [some (.inr 32)], [.inr 41, .inr 32], _)) rfl ?_
  refine b_vV (as := [.inr 41]) (rest := []) (k := 32) (.inl (sumN p (fun q => kp.getD q 0))) okX3_allKept rfl lkX3_73 caX3_allOf (Nat.le_of_ble_eq_true rfl) rfl (Nat.le_of_ble_eq_true rfl) rfl rfl rfl (c_allOf_1_kp hp hl) ?_
  exact b_ret (v := (some (.inl (sumN p (fun q => kp.getD q 0))))) ⟨rfl, Or.inl rfl⟩ ⟨rfl, rfl⟩ rfl
set_option maxHeartbeats 4000000 in
theorem c_contentBits_1 (hp : p ≤ 7) (hn0 : n.length = 7) (hs0 : sh.length = 7) (ht0 : nt.length = 7) (hn : rng n 99) (h2 : ∀ q, q < p → -10000 ≤ sh.getD q 0 - nt.getD q 0 ∧ sh.getD q 0 - nt.getD q 0 ≤ 10000) : aEv mX3_contentBits 2 0 0 N [.inr 32] [A0, (moSeg 32 k f c n kp l nt w sh (p : Int) t d wa), B, A3, B4, A5, C6] ((aQx (some (.inl (bitsN p (fun q => decide (n.getD q 0 ≤ sh.getD q 0 - nt.getD q 0))))) [A0, (moSeg 32 k f c n kp l nt w sh (p : Int) t d wa), B, A3, B4, A5, C6])) := by
  refine aEv_of okX3_contentBits caX3_contentBits (Nat.le_of_ble_eq_true rfl) ?_
  have lp : ∀ (j i : Nat), i + j = p → AW mX3_contentBits 2 0 0 N none (aQx (some (.inl (bitsN p (fun q => decide (n.getD q 0 ≤ sh.getD q 0 - nt.getD q 0))))) [A0, (moSeg 32 k f c n kp l nt w sh (p : Int) t d wa), B, A3, B4, A5, C6]) (4, [some (.inr 32), some (.inl (bitsN i (fun q => decide (n.getD q 0 ≤ sh.getD q 0 - nt.getD q 0)))), some (.inl (i : Int))], [], [A0, (moSeg 32 k f c n kp l nt w sh (p : Int) t d wa), B, A3, B4, A5, C6]) := by
    intro j
    induction j with
    | zero =>
      intro i  hij 
      obtain rfl : p = i := by omega
      refine aGo okX3_contentBits 3 (f' := (9, [some (.inr 32), some (.inl (bitsN p (fun q => decide (n.getD q 0 ≤ sh.getD q 0 - nt.getD q 0)))), some (.inl (p : Int))], [.inl (p : Int), .inl (p : Int)], _)) rfl ?_
      refine b_ge (tgt := 40) okX3_contentBits rfl rfl ⟨by omega, by omega⟩ ⟨by omega, by omega⟩ (fun h9 => ?_) (fun h9 => absurd h9 (by omega))
      refine aGo okX3_contentBits 1 (f' := (41, [some (.inr 32), some (.inl (bitsN p (fun q => decide (n.getD q 0 ≤ sh.getD q 0 - nt.getD q 0)))), some (.inl (p : Int))], [.inl (bitsN p (fun q => decide (n.getD q 0 ≤ sh.getD q 0 - nt.getD q 0)))], _)) rfl ?_
      exact b_ret (v := (some (.inl (bitsN p (fun q => decide (n.getD q 0 ≤ sh.getD q 0 - nt.getD q 0)))))) ⟨rfl, Or.inl rfl⟩ ⟨rfl, rfl⟩ rfl
    | succ j ih =>
      intro i  hij 
      have q1 := hn i
      have q2 := h2 i (by omega)
      refine aGo okX3_contentBits 3 (f' := (9, [some (.inr 32), some (.inl (bitsN i (fun q => decide (n.getD q 0 ≤ sh.getD q 0 - nt.getD q 0)))), some (.inl (i : Int))], [.inl (p : Int), .inl (i : Int)], _)) rfl ?_
      refine b_ge (tgt := 40) okX3_contentBits rfl rfl ⟨by omega, by omega⟩ ⟨by omega, by omega⟩ (fun h9 => absurd h9 (by omega)) (fun h9 => ?_)
      refine aGo okX3_contentBits 2 (f' := (14, [some (.inr 32), some (.inl (bitsN i (fun q => decide (n.getD q 0 ≤ sh.getD q 0 - nt.getD q 0)))), some (.inl (i : Int))], [.inl (i : Int), .inr 32], _)) rfl ?_
      refine b_vV (as := [.inl (i : Int)]) (rest := []) (k := 32) (.inl ((sh.getD i 0) - (nt.getD i 0))) okX3_contentBits rfl lkX3_77 caX3_hasOf (Nat.le_of_ble_eq_true rfl) rfl (Nat.le_of_ble_eq_true rfl) rfl rfl rfl (c_hasOf_1 (i := i) (by first | omega | (simp only [List.length_set]; omega)) (by first | omega | (simp only [List.length_set]; omega)) (by omega)) ?_
      refine aGo okX3_contentBits 3 (f' := (22, [some (.inr 32), some (.inl (bitsN i (fun q => decide (n.getD q 0 ≤ sh.getD q 0 - nt.getD q 0)))), some (.inl (i : Int))], [.inl (i : Int), .inr 39, .inl ((sh.getD i 0) - (nt.getD i 0))], _)) rfl ?_
      refine b_vV (as := [.inl (i : Int)]) (rest := [.inl ((sh.getD i 0) - (nt.getD i 0))]) (k := 39) (.inl (n.getD i 0)) okX3_contentBits rfl lkX3_65 caX4_at (Nat.le_of_ble_eq_true rfl) rfl (Nat.le_of_ble_eq_true rfl) rfl rfl rfl (c_at (i := i) rfl rfl (by first | omega | (simp only [List.length_set]; omega)) (by omega)) ?_
      refine b_lt (tgt := 34) okX3_contentBits rfl rfl ⟨by omega, by omega⟩ ⟨by omega, by omega⟩ (fun h25 => ?_) (fun h25 => ?_)
      · refine aGo okX3_contentBits 2 (f' := (4, [some (.inr 32), some (.inl (bitsN i (fun q => decide (n.getD q 0 ≤ sh.getD q 0 - nt.getD q 0)))), some (.inl ((i : Int) + 1))], [], _)) rfl ?_
        refine b_cast (f' := (4, [some (.inr 32), some (.inl (bitsN (i + 1) (fun q => decide (n.getD q 0 ≤ sh.getD q 0 - nt.getD q 0)))), some (.inl ((i : Int) + 1))], [], [A0, (moSeg 32 k f c n kp l nt w sh (p : Int) t d wa), B, A3, B4, A5, C6])) (by rw [bitsN_f (P := (fun q => decide (n.getD q 0 ≤ sh.getD q 0 - nt.getD q 0))) (i := i) (decide_eq_false (by omega))]) ?_
        exact ih (i + 1) (by omega)
      · refine aGo okX3_contentBits 8 (f' := (4, [some (.inr 32), some (.inl (aOr (bitsN i (fun q => decide (n.getD q 0 ≤ sh.getD q 0 - nt.getD q 0))) (aShl 1 (i : Int)))), some (.inl ((i : Int) + 1))], [], _)) rfl ?_
        refine b_cast (f' := (4, [some (.inr 32), some (.inl (bitsN (i + 1) (fun q => decide (n.getD q 0 ≤ sh.getD q 0 - nt.getD q 0)))), some (.inl ((i : Int) + 1))], [], [A0, (moSeg 32 k f c n kp l nt w sh (p : Int) t d wa), B, A3, B4, A5, C6])) (by rw [bitsN_t (P := (fun q => decide (n.getD q 0 ≤ sh.getD q 0 - nt.getD q 0))) (i := i) (decide_eq_true (by omega))]) ?_
        exact ih (i + 1) (by omega)
  refine aGo okX3_contentBits 4 (f' := (4, [some (.inr 32), some (.inl 0), some (.inl 0)], [], _)) rfl ?_
  exact lp p 0 (by omega)
set_option maxHeartbeats 4000000 in
theorem c_passDays_1 {m : Nat} (hp : p ≤ 7) (hm : m ≤ 1000) (hkp : kp.length = 7) (hn0 : n.length = 7) (hs0 : sh.length = 7) (ht0 : nt.length = 7) (rkp : rng kp 9999) (hn : rng n 99) (h2 : ∀ q, q < p → -10000 ≤ sh.getD q 0 - nt.getD q 0 ∧ sh.getD q 0 - nt.getD q 0 ≤ 10000) : aEv mX3_passDays 2 0 0 N [.inr 32, .inl (m : Int)] [A0, (moSeg 32 k f c n kp l nt w sh (p : Int) t d wa), B, A3, B4, A5, C6] ((aQx (some (.inl (dayB p (hasL sh nt) n kp m))) [A0, (moSeg 32 k f c n (dayIt p (hasL sh nt) n m kp) l nt w sh (p : Int) t (d + (m : Int)) wa), B, A3, B4, A5, C6])) := by
  have hV : ∀ i q, q < p → -30000 ≤ dayV (dayIt p (hasL sh nt) n i kp) (hasL sh nt) n q ∧ dayV (dayIt p (hasL sh nt) n i kp) (hasL sh nt) n q ≤ 30000 := fun i q hq => by have r1 := dayIt_rng (p := p) (has := (hasL sh nt)) (n := n) (m := i) rkp q; have r2 := hn q; have r3 := h2 q hq; unfold dayV hasL; unfold hasL at r1; omega
  refine aEv_of okX3_passDays caX3_passDays (Nat.le_of_ble_eq_true rfl) ?_
  have lp : ∀ (j i : Nat), i + j = m → AW mX3_passDays 2 0 0 N none (aQx (some (.inl (dayB p (hasL sh nt) n kp m))) [A0, (moSeg 32 k f c n (dayIt p (hasL sh nt) n m kp) l nt w sh (p : Int) t (d + (m : Int)) wa), B, A3, B4, A5, C6]) (4, [some (.inr 32), some (.inl (m : Int)), some (.inl (dayB p (hasL sh nt) n kp i)), some (.inl (i : Int)), none, none], [], [A0, (moSeg 32 k f c n (dayIt p (hasL sh nt) n i kp) l nt w sh (p : Int) t (d + (i : Int)) wa), B, A3, B4, A5, C6]) := by
    intro j
    induction j with
    | zero =>
      intro i  hij 
      obtain rfl : m = i := by omega
      refine aGo okX3_passDays 2 (f' := (6, [some (.inr 32), some (.inl (m : Int)), some (.inl (dayB p (hasL sh nt) n kp m)), some (.inl (m : Int)), none, none], [.inl (m : Int), .inl (m : Int)], _)) rfl ?_
      refine b_ge (tgt := 106) okX3_passDays rfl rfl ⟨by omega, by omega⟩ ⟨by omega, by omega⟩ (fun h6 => ?_) (fun h6 => absurd h6 (by omega))
      refine aGo okX3_passDays 1 (f' := (107, [some (.inr 32), some (.inl (m : Int)), some (.inl (dayB p (hasL sh nt) n kp m)), some (.inl (m : Int)), none, none], [.inl (dayB p (hasL sh nt) n kp m)], _)) rfl ?_
      exact b_ret (v := (some (.inl (dayB p (hasL sh nt) n kp m)))) ⟨rfl, Or.inl rfl⟩ ⟨rfl, rfl⟩ rfl
    | succ j ih =>
      intro i  hij 
      have lq : ∀ (j2 q : Nat), q + j2 = p → AW mX3_passDays 2 0 0 N none (aQx (some (.inl (dayB p (hasL sh nt) n kp m))) [A0, (moSeg 32 k f c n (dayIt p (hasL sh nt) n m kp) l nt w sh (p : Int) t (d + (m : Int)) wa), B, A3, B4, A5, C6]) (24, [some (.inr 32), some (.inl (m : Int)), some (.inl (bitsN q (fun q => decide (dayV (dayIt p (hasL sh nt) n i kp) (hasL sh nt) n q < 0)))), some (.inl (i : Int)), some (.inl (q : Int)), none], [], [A0, (moSeg 32 k f c n (dayL q (dayIt p (hasL sh nt) n i kp) (hasL sh nt) n) l nt w sh (p : Int) t ((d + (i : Int)) + 1) wa), B, A3, B4, A5, C6]) := by
        intro j2
        induction j2 with
        | zero =>
          intro q  hij2 
          obtain rfl : p = q := by omega
          refine aGo okX3_passDays 3 (f' := (30, [some (.inr 32), some (.inl (m : Int)), some (.inl (bitsN p (fun q => decide (dayV (dayIt p (hasL sh nt) n i kp) (hasL sh nt) n q < 0)))), some (.inl (i : Int)), some (.inl (p : Int)), none], [.inl (p : Int), .inl (p : Int)], _)) rfl ?_
          refine b_ge (tgt := 100) okX3_passDays rfl rfl ⟨by omega, by omega⟩ ⟨by omega, by omega⟩ (fun h30 => ?_) (fun h30 => absurd h30 (by omega))
          refine aGo okX3_passDays 2 (f' := (4, [some (.inr 32), some (.inl (m : Int)), some (.inl (bitsN p (fun q => decide (dayV (dayIt p (hasL sh nt) n i kp) (hasL sh nt) n q < 0)))), some (.inl ((i : Int) + 1)), some (.inl (p : Int)), none], [], _)) rfl ?_
          refine b_cast (f' := (4, [some (.inr 32), some (.inl (m : Int)), some (.inl (bitsN p (fun q => decide (dayV (dayIt p (hasL sh nt) n i kp) (hasL sh nt) n q < 0)))), some (.inl ((i : Int) + 1)), some (.inl (p : Int)), none], [], [A0, (moSeg 32 k f c n (dayL p (dayIt p (hasL sh nt) n i kp) (hasL sh nt) n) l nt w sh (p : Int) t (d + (((i + 1) : Nat) : Int)) wa), B, A3, B4, A5, C6])) (by rw [show d + (i : Int) + 1 = d + ((i + 1 : Nat) : Int) by omega]) ?_
          refine b_lose (ls' := [some (.inr 32), some (.inl (m : Int)), some (.inl (bitsN p (fun q => decide (dayV (dayIt p (hasL sh nt) n i kp) (hasL sh nt) n q < 0)))), some (.inl ((i : Int) + 1)), none, none]) (lose4 _ _ _ _ _) ?_
          exact ih (i + 1) (by omega)
        | succ j2 ih2 =>
          intro q  hij2 
          have e0 : (dayL q (dayIt p (hasL sh nt) n i kp) (hasL sh nt) n).length = 7 := by rw [dayL_len, dayIt_len]; exact hkp
          refine aGo okX3_passDays 3 (f' := (30, [some (.inr 32), some (.inl (m : Int)), some (.inl (bitsN q (fun q => decide (dayV (dayIt p (hasL sh nt) n i kp) (hasL sh nt) n q < 0)))), some (.inl (i : Int)), some (.inl (q : Int)), none], [.inl (p : Int), .inl (q : Int)], _)) rfl ?_
          refine b_ge (tgt := 100) okX3_passDays rfl rfl ⟨by omega, by omega⟩ ⟨by omega, by omega⟩ (fun h30 => absurd h30 (by omega)) (fun h30 => ?_)
          refine aGo okX3_passDays 3 (f' := (39, [some (.inr 32), some (.inl (m : Int)), some (.inl (bitsN q (fun q => decide (dayV (dayIt p (hasL sh nt) n i kp) (hasL sh nt) n q < 0)))), some (.inl (i : Int)), some (.inl (q : Int)), none], [.inl (q : Int), .inr 41], _)) rfl ?_
          refine b_vV (as := [.inl (q : Int)]) (rest := []) (k := 41) (.inl ((dayL q (dayIt p (hasL sh nt) n i kp) (hasL sh nt) n).getD q 0)) okX3_passDays rfl lkX3_65 caX4_at (Nat.le_of_ble_eq_true rfl) rfl (Nat.le_of_ble_eq_true rfl) rfl rfl rfl (c_at (i := q) rfl rfl (by first | omega | (simp only [List.length_set]; omega)) (by omega)) ?_
          refine b_cast (f' := (42, [some (.inr 32), some (.inl (m : Int)), some (.inl (bitsN q (fun q => decide (dayV (dayIt p (hasL sh nt) n i kp) (hasL sh nt) n q < 0)))), some (.inl (i : Int)), some (.inl (q : Int)), none], [.inl ((dayIt p (hasL sh nt) n i kp).getD q 0)], [A0, (moSeg 32 k f c n (dayL q (dayIt p (hasL sh nt) n i kp) (hasL sh nt) n) l nt w sh (p : Int) t ((d + (i : Int)) + 1) wa), B, A3, B4, A5, C6])) (by rw [dayL_at (Nat.le_refl q)]) ?_
          refine aGo okX3_passDays 2 (f' := (45, [some (.inr 32), some (.inl (m : Int)), some (.inl (bitsN q (fun q => decide (dayV (dayIt p (hasL sh nt) n i kp) (hasL sh nt) n q < 0)))), some (.inl (i : Int)), some (.inl (q : Int)), none], [.inl (q : Int), .inr 32, .inl ((dayIt p (hasL sh nt) n i kp).getD q 0)], _)) rfl ?_
          refine b_vV (as := [.inl (q : Int)]) (rest := [.inl ((dayIt p (hasL sh nt) n i kp).getD q 0)]) (k := 32) (.inl ((sh.getD q 0) - (nt.getD q 0))) okX3_passDays rfl lkX3_77 caX3_hasOf (Nat.le_of_ble_eq_true rfl) rfl (Nat.le_of_ble_eq_true rfl) rfl rfl rfl (c_hasOf_1 (i := q) (by first | omega | (simp only [List.length_set]; omega)) (by first | omega | (simp only [List.length_set]; omega)) (by omega)) ?_
          refine aGo okX3_passDays 4 (f' := (55, [some (.inr 32), some (.inl (m : Int)), some (.inl (bitsN q (fun q => decide (dayV (dayIt p (hasL sh nt) n i kp) (hasL sh nt) n q < 0)))), some (.inl (i : Int)), some (.inl (q : Int)), none], [.inl (q : Int), .inr 39, .inl (((dayIt p (hasL sh nt) n i kp).getD q 0) + ((sh.getD q 0) - (nt.getD q 0)))], _)) rfl ?_
          refine b_vV (as := [.inl (q : Int)]) (rest := [.inl (((dayIt p (hasL sh nt) n i kp).getD q 0) + ((sh.getD q 0) - (nt.getD q 0)))]) (k := 39) (.inl (n.getD q 0)) okX3_passDays rfl lkX3_65 caX4_at (Nat.le_of_ble_eq_true rfl) rfl (Nat.le_of_ble_eq_true rfl) rfl rfl rfl (c_at (i := q) rfl rfl (by first | omega | (simp only [List.length_set]; omega)) (by omega)) ?_
          refine aGo okX3_passDays 2 (f' := (61, [some (.inr 32), some (.inl (m : Int)), some (.inl (bitsN q (fun q => decide (dayV (dayIt p (hasL sh nt) n i kp) (hasL sh nt) n q < 0)))), some (.inl (i : Int)), some (.inl (q : Int)), some (.inl ((((dayIt p (hasL sh nt) n i kp).getD q 0) + ((sh.getD q 0) - (nt.getD q 0))) - (n.getD q 0)))], [], _)) rfl ?_
          refine b_cast (f' := (61, [some (.inr 32), some (.inl (m : Int)), some (.inl (bitsN q (fun q => decide (dayV (dayIt p (hasL sh nt) n i kp) (hasL sh nt) n q < 0)))), some (.inl (i : Int)), some (.inl (q : Int)), some (.inl (dayV (dayIt p (hasL sh nt) n i kp) (hasL sh nt) n q))], [], [A0, (moSeg 32 k f c n (dayL q (dayIt p (hasL sh nt) n i kp) (hasL sh nt) n) l nt w sh (p : Int) t ((d + (i : Int)) + 1) wa), B, A3, B4, A5, C6])) (rfl) ?_
          have hv0 := hV i q (by omega)
          refine aGo okX3_passDays 1 (f' := (63, [some (.inr 32), some (.inl (m : Int)), some (.inl (bitsN q (fun q => decide (dayV (dayIt p (hasL sh nt) n i kp) (hasL sh nt) n q < 0)))), some (.inl (i : Int)), some (.inl (q : Int)), some (.inl (dayV (dayIt p (hasL sh nt) n i kp) (hasL sh nt) n q))], [.inl (dayV (dayIt p (hasL sh nt) n i kp) (hasL sh nt) n q)], _)) rfl ?_
          refine b0_ge (tgt := 73) okX3_passDays rfl rfl ⟨by omega, by omega⟩ (fun h63 => ?_) (fun h63 => ?_)
          · refine aGo okX3_passDays 6 (f' := (85, [some (.inr 32), some (.inl (m : Int)), some (.inl (bitsN q (fun q => decide (dayV (dayIt p (hasL sh nt) n i kp) (hasL sh nt) n q < 0)))), some (.inl (i : Int)), some (.inl (q : Int)), some (.inl (dayV (dayIt p (hasL sh nt) n i kp) (hasL sh nt) n q))], [.inl 9999, .inl (dayV (dayIt p (hasL sh nt) n i kp) (hasL sh nt) n q), .inl 0, .inl (q : Int), .inr 41], _)) rfl ?_
            refine b_min okX3_passDays rfl lkX3_112 ma_min_s ma_min_c (Nat.le_of_ble_eq_true rfl) (Nat.le_of_ble_eq_true rfl) ⟨by omega, by omega⟩ ⟨by omega, by omega⟩ ?_
            refine b_max okX3_passDays rfl lkX3_86 ma_max_s ma_max_c (Nat.le_of_ble_eq_true rfl) (Nat.le_of_ble_eq_true rfl) ⟨by omega, by omega⟩ ⟨by omega, by omega⟩ ?_
            refine b_vN (as := [.inl (q : Int), .inl (max 0 (min (dayV (dayIt p (hasL sh nt) n i kp) (hasL sh nt) n q) 9999))]) (rest := []) (k := 41) okX3_passDays rfl lkX3_98 caX4_put (Nat.le_of_ble_eq_true rfl) rfl (Nat.le_of_ble_eq_true rfl) rfl rfl rfl (c_put (i := q) rfl rfl (by first | omega | (simp only [List.length_set]; omega)) (by first | omega | (simp only [List.length_set]; omega)) (max 0 (min (dayV (dayIt p (hasL sh nt) n i kp) (hasL sh nt) n q) 9999))) ?_
            refine b_cast (f' := (94, [some (.inr 32), some (.inl (m : Int)), some (.inl (bitsN q (fun q => decide (dayV (dayIt p (hasL sh nt) n i kp) (hasL sh nt) n q < 0)))), some (.inl (i : Int)), some (.inl (q : Int)), some (.inl (dayV (dayIt p (hasL sh nt) n i kp) (hasL sh nt) n q))], [], [A0, (moSeg 32 k f c n ((dayL q (dayIt p (hasL sh nt) n i kp) (hasL sh nt) n).set q (max 0 (min (dayV (dayIt p (hasL sh nt) n i kp) (hasL sh nt) n q) 9999))) l nt w sh (p : Int) t ((d + (i : Int)) + 1) wa), B, A3, B4, A5, C6])) rfl ?_
            refine aGo okX3_passDays 2 (f' := (24, [some (.inr 32), some (.inl (m : Int)), some (.inl (bitsN q (fun q => decide (dayV (dayIt p (hasL sh nt) n i kp) (hasL sh nt) n q < 0)))), some (.inl (i : Int)), some (.inl ((q : Int) + 1)), some (.inl (dayV (dayIt p (hasL sh nt) n i kp) (hasL sh nt) n q))], [], _)) rfl ?_
            refine b_cast (f' := (24, [some (.inr 32), some (.inl (m : Int)), some (.inl (bitsN (q + 1) (fun q => decide (dayV (dayIt p (hasL sh nt) n i kp) (hasL sh nt) n q < 0)))), some (.inl (i : Int)), some (.inl ((q : Int) + 1)), some (.inl (dayV (dayIt p (hasL sh nt) n i kp) (hasL sh nt) n q))], [], [A0, (moSeg 32 k f c n ((dayL q (dayIt p (hasL sh nt) n i kp) (hasL sh nt) n).set q (max 0 (min (dayV (dayIt p (hasL sh nt) n i kp) (hasL sh nt) n q) 9999))) l nt w sh (p : Int) t ((d + (i : Int)) + 1) wa), B, A3, B4, A5, C6])) (by rw [bitsN_f (P := (fun q => decide (dayV (dayIt p (hasL sh nt) n i kp) (hasL sh nt) n q < 0))) (i := q) (decide_eq_false (by omega))]) ?_
            refine b_lose (ls' := [some (.inr 32), some (.inl (m : Int)), some (.inl (bitsN (q + 1) (fun q => decide (dayV (dayIt p (hasL sh nt) n i kp) (hasL sh nt) n q < 0)))), some (.inl (i : Int)), some (.inl ((q : Int) + 1)), none]) (lose5 _ _ _ _ _ _) ?_
            exact ih2 (q + 1) (by omega)
          · refine aGo okX3_passDays 12 (f' := (85, [some (.inr 32), some (.inl (m : Int)), some (.inl (aOr (bitsN q (fun q => decide (dayV (dayIt p (hasL sh nt) n i kp) (hasL sh nt) n q < 0))) (aShl 1 (q : Int)))), some (.inl (i : Int)), some (.inl (q : Int)), some (.inl (dayV (dayIt p (hasL sh nt) n i kp) (hasL sh nt) n q))], [.inl 9999, .inl (dayV (dayIt p (hasL sh nt) n i kp) (hasL sh nt) n q), .inl 0, .inl (q : Int), .inr 41], _)) rfl ?_
            refine b_min okX3_passDays rfl lkX3_112 ma_min_s ma_min_c (Nat.le_of_ble_eq_true rfl) (Nat.le_of_ble_eq_true rfl) ⟨by omega, by omega⟩ ⟨by omega, by omega⟩ ?_
            refine b_max okX3_passDays rfl lkX3_86 ma_max_s ma_max_c (Nat.le_of_ble_eq_true rfl) (Nat.le_of_ble_eq_true rfl) ⟨by omega, by omega⟩ ⟨by omega, by omega⟩ ?_
            refine b_vN (as := [.inl (q : Int), .inl (max 0 (min (dayV (dayIt p (hasL sh nt) n i kp) (hasL sh nt) n q) 9999))]) (rest := []) (k := 41) okX3_passDays rfl lkX3_98 caX4_put (Nat.le_of_ble_eq_true rfl) rfl (Nat.le_of_ble_eq_true rfl) rfl rfl rfl (c_put (i := q) rfl rfl (by first | omega | (simp only [List.length_set]; omega)) (by first | omega | (simp only [List.length_set]; omega)) (max 0 (min (dayV (dayIt p (hasL sh nt) n i kp) (hasL sh nt) n q) 9999))) ?_
            refine b_cast (f' := (94, [some (.inr 32), some (.inl (m : Int)), some (.inl (aOr (bitsN q (fun q => decide (dayV (dayIt p (hasL sh nt) n i kp) (hasL sh nt) n q < 0))) (aShl 1 (q : Int)))), some (.inl (i : Int)), some (.inl (q : Int)), some (.inl (dayV (dayIt p (hasL sh nt) n i kp) (hasL sh nt) n q))], [], [A0, (moSeg 32 k f c n ((dayL q (dayIt p (hasL sh nt) n i kp) (hasL sh nt) n).set q (max 0 (min (dayV (dayIt p (hasL sh nt) n i kp) (hasL sh nt) n q) 9999))) l nt w sh (p : Int) t ((d + (i : Int)) + 1) wa), B, A3, B4, A5, C6])) rfl ?_
            refine aGo okX3_passDays 2 (f' := (24, [some (.inr 32), some (.inl (m : Int)), some (.inl (aOr (bitsN q (fun q => decide (dayV (dayIt p (hasL sh nt) n i kp) (hasL sh nt) n q < 0))) (aShl 1 (q : Int)))), some (.inl (i : Int)), some (.inl ((q : Int) + 1)), some (.inl (dayV (dayIt p (hasL sh nt) n i kp) (hasL sh nt) n q))], [], _)) rfl ?_
            refine b_cast (f' := (24, [some (.inr 32), some (.inl (m : Int)), some (.inl (bitsN (q + 1) (fun q => decide (dayV (dayIt p (hasL sh nt) n i kp) (hasL sh nt) n q < 0)))), some (.inl (i : Int)), some (.inl ((q : Int) + 1)), some (.inl (dayV (dayIt p (hasL sh nt) n i kp) (hasL sh nt) n q))], [], [A0, (moSeg 32 k f c n ((dayL q (dayIt p (hasL sh nt) n i kp) (hasL sh nt) n).set q (max 0 (min (dayV (dayIt p (hasL sh nt) n i kp) (hasL sh nt) n q) 9999))) l nt w sh (p : Int) t ((d + (i : Int)) + 1) wa), B, A3, B4, A5, C6])) (by rw [bitsN_t (P := (fun q => decide (dayV (dayIt p (hasL sh nt) n i kp) (hasL sh nt) n q < 0))) (i := q) (decide_eq_true (by omega))]) ?_
            refine b_lose (ls' := [some (.inr 32), some (.inl (m : Int)), some (.inl (bitsN (q + 1) (fun q => decide (dayV (dayIt p (hasL sh nt) n i kp) (hasL sh nt) n q < 0)))), some (.inl (i : Int)), some (.inl ((q : Int) + 1)), none]) (lose5 _ _ _ _ _ _) ?_
            exact ih2 (q + 1) (by omega)
      refine aGo okX3_passDays 2 (f' := (6, [some (.inr 32), some (.inl (m : Int)), some (.inl (dayB p (hasL sh nt) n kp i)), some (.inl (i : Int)), none, none], [.inl (m : Int), .inl (i : Int)], _)) rfl ?_
      refine b_ge (tgt := 106) okX3_passDays rfl rfl ⟨by omega, by omega⟩ ⟨by omega, by omega⟩ (fun h6 => absurd h6 (by omega)) (fun h6 => ?_)
      refine aGo okX3_passDays 10 (f' := (24, [some (.inr 32), some (.inl (m : Int)), some (.inl 0), some (.inl (i : Int)), some (.inl 0), none], [], [A0, (moSeg 32 k f c n (dayIt p (hasL sh nt) n i kp) l nt w sh (p : Int) t ((d + (i : Int)) + 1) wa), B, A3, B4, A5, C6])) rfl ?_
      refine b_lose (ls' := [some (.inr 32), some (.inl (m : Int)), some (.inl 0), some (.inl (i : Int)), some (.inl 0), none]) (fun _ _ z => z) ?_
      exact lq p 0 (by omega)
  refine aGo okX3_passDays 4 (f' := (4, [some (.inr 32), some (.inl (m : Int)), some (.inl 0), some (.inl 0), none, none], [], _)) rfl ?_
  refine b_cast (f' := (4, [some (.inr 32), some (.inl (m : Int)), some (.inl 0), some (.inl 0), none, none], [], [A0, (moSeg 32 k f c n kp l nt w sh (p : Int) t (d + ((0 : Nat) : Int)) wa), B, A3, B4, A5, C6])) (by rw [show d + ((0 : Nat) : Int) = d by omega]) ?_
  exact lp m 0 (by omega)
set_option maxHeartbeats 4000000 in
theorem c_allOf_2_n (hp : p ≤ 7) (hl : n.length = 7) : aEv mX3_allOf 1 0 0 N [.inr 64, .inr 71] [A0, B, (moSeg 64 k f c n kp l nt w sh (p : Int) t d wa), A3, B4, A5, C6] ((aQx (some (.inl (sumN p (fun q => n.getD q 0)))) [A0, B, (moSeg 64 k f c n kp l nt w sh (p : Int) t d wa), A3, B4, A5, C6])) := by
  refine aEv_of okX3_allOf caX3_allOf (Nat.le_of_ble_eq_true rfl) ?_
  have lp : ∀ (j i : Nat), i + j = p → AW mX3_allOf 1 0 0 N none (aQx (some (.inl (sumN p (fun q => n.getD q 0)))) [A0, B, (moSeg 64 k f c n kp l nt w sh (p : Int) t d wa), A3, B4, A5, C6]) (4, [some (.inr 64), some (.inr 71), some (.inl (sumN i (fun q => n.getD q 0))), some (.inl (i : Int))], [], [A0, B, (moSeg 64 k f c n kp l nt w sh (p : Int) t d wa), A3, B4, A5, C6]) := by
    intro j
    induction j with
    | zero =>
      intro i  hij 
      obtain rfl : p = i := by omega
      refine aGo okX3_allOf 3 (f' := (9, [some (.inr 64), some (.inr 71), some (.inl (sumN p (fun q => n.getD q 0))), some (.inl (p : Int))], [.inl (p : Int), .inl (p : Int)], _)) rfl ?_
      refine b_ge (tgt := 26) okX3_allOf rfl rfl ⟨by omega, by omega⟩ ⟨by omega, by omega⟩ (fun h9 => ?_) (fun h9 => absurd h9 (by omega))
      refine aGo okX3_allOf 1 (f' := (27, [some (.inr 64), some (.inr 71), some (.inl (sumN p (fun q => n.getD q 0))), some (.inl (p : Int))], [.inl (sumN p (fun q => n.getD q 0))], _)) rfl ?_
      exact b_ret (v := (some (.inl (sumN p (fun q => n.getD q 0))))) ⟨rfl, Or.inl rfl⟩ ⟨rfl, rfl⟩ rfl
    | succ j ih =>
      intro i  hij 
      refine aGo okX3_allOf 3 (f' := (9, [some (.inr 64), some (.inr 71), some (.inl (sumN i (fun q => n.getD q 0))), some (.inl (i : Int))], [.inl (p : Int), .inl (i : Int)], _)) rfl ?_
      refine b_ge (tgt := 26) okX3_allOf rfl rfl ⟨by omega, by omega⟩ ⟨by omega, by omega⟩ (fun h9 => absurd h9 (by omega)) (fun h9 => ?_)
      refine aGo okX3_allOf 3 (f' := (15, [some (.inr 64), some (.inr 71), some (.inl (sumN i (fun q => n.getD q 0))), some (.inl (i : Int))], [.inl (i : Int), .inr 71, .inl (sumN i (fun q => n.getD q 0))], _)) rfl ?_
      refine b_vV (as := [.inl (i : Int)]) (rest := [.inl (sumN i (fun q => n.getD q 0))]) (k := 71) (.inl (n.getD i 0)) okX3_allOf rfl lkX3_65 caX4_at (Nat.le_of_ble_eq_true rfl) rfl (Nat.le_of_ble_eq_true rfl) rfl rfl rfl (c_at (i := i) rfl rfl (by first | omega | (simp only [List.length_set]; omega)) (by omega)) ?_
      refine aGo okX3_allOf 4 (f' := (4, [some (.inr 64), some (.inr 71), some (.inl ((sumN i (fun q => n.getD q 0)) + (n.getD i 0))), some (.inl ((i : Int) + 1))], [], _)) rfl ?_
      exact ih (i + 1) (by omega)
  refine aGo okX3_allOf 4 (f' := (4, [some (.inr 64), some (.inr 71), some (.inl 0), some (.inl 0)], [], _)) rfl ?_
  exact lp p 0 (by omega)
set_option maxHeartbeats 4000000 in
theorem c_allNeeds_2 (hp : p ≤ 7) (hl : n.length = 7) : aEv mX3_allNeeds 2 0 0 N [.inr 64] [A0, B, (moSeg 64 k f c n kp l nt w sh (p : Int) t d wa), A3, B4, A5, C6] (aQx (some (.inl (sumN p (fun q => n.getD q 0)))) [A0, B, (moSeg 64 k f c n kp l nt w sh (p : Int) t d wa), A3, B4, A5, C6]) := by
  refine aEv_of okX3_allNeeds caX3_allNeeds (Nat.le_of_ble_eq_true rfl) ?_
  refine aGo okX3_allNeeds 3 (f' := (5, [some (.inr 64)], [.inr 71, .inr 64], _)) rfl ?_
  refine b_vV (as := [.inr 71]) (rest := []) (k := 64) (.inl (sumN p (fun q => n.getD q 0))) okX3_allNeeds rfl lkX3_73 caX3_allOf (Nat.le_of_ble_eq_true rfl) rfl (Nat.le_of_ble_eq_true rfl) rfl rfl rfl (c_allOf_2_n hp hl) ?_
  exact b_ret (v := (some (.inl (sumN p (fun q => n.getD q 0))))) ⟨rfl, Or.inl rfl⟩ ⟨rfl, rfl⟩ rfl
set_option maxHeartbeats 4000000 in
theorem c_allOf_2_kp (hp : p ≤ 7) (hl : kp.length = 7) : aEv mX3_allOf 1 0 0 N [.inr 64, .inr 73] [A0, B, (moSeg 64 k f c n kp l nt w sh (p : Int) t d wa), A3, B4, A5, C6] ((aQx (some (.inl (sumN p (fun q => kp.getD q 0)))) [A0, B, (moSeg 64 k f c n kp l nt w sh (p : Int) t d wa), A3, B4, A5, C6])) := by
  refine aEv_of okX3_allOf caX3_allOf (Nat.le_of_ble_eq_true rfl) ?_
  have lp : ∀ (j i : Nat), i + j = p → AW mX3_allOf 1 0 0 N none (aQx (some (.inl (sumN p (fun q => kp.getD q 0)))) [A0, B, (moSeg 64 k f c n kp l nt w sh (p : Int) t d wa), A3, B4, A5, C6]) (4, [some (.inr 64), some (.inr 73), some (.inl (sumN i (fun q => kp.getD q 0))), some (.inl (i : Int))], [], [A0, B, (moSeg 64 k f c n kp l nt w sh (p : Int) t d wa), A3, B4, A5, C6]) := by
    intro j
    induction j with
    | zero =>
      intro i  hij 
      obtain rfl : p = i := by omega
      refine aGo okX3_allOf 3 (f' := (9, [some (.inr 64), some (.inr 73), some (.inl (sumN p (fun q => kp.getD q 0))), some (.inl (p : Int))], [.inl (p : Int), .inl (p : Int)], _)) rfl ?_
      refine b_ge (tgt := 26) okX3_allOf rfl rfl ⟨by omega, by omega⟩ ⟨by omega, by omega⟩ (fun h9 => ?_) (fun h9 => absurd h9 (by omega))
      refine aGo okX3_allOf 1 (f' := (27, [some (.inr 64), some (.inr 73), some (.inl (sumN p (fun q => kp.getD q 0))), some (.inl (p : Int))], [.inl (sumN p (fun q => kp.getD q 0))], _)) rfl ?_
      exact b_ret (v := (some (.inl (sumN p (fun q => kp.getD q 0))))) ⟨rfl, Or.inl rfl⟩ ⟨rfl, rfl⟩ rfl
    | succ j ih =>
      intro i  hij 
      refine aGo okX3_allOf 3 (f' := (9, [some (.inr 64), some (.inr 73), some (.inl (sumN i (fun q => kp.getD q 0))), some (.inl (i : Int))], [.inl (p : Int), .inl (i : Int)], _)) rfl ?_
      refine b_ge (tgt := 26) okX3_allOf rfl rfl ⟨by omega, by omega⟩ ⟨by omega, by omega⟩ (fun h9 => absurd h9 (by omega)) (fun h9 => ?_)
      refine aGo okX3_allOf 3 (f' := (15, [some (.inr 64), some (.inr 73), some (.inl (sumN i (fun q => kp.getD q 0))), some (.inl (i : Int))], [.inl (i : Int), .inr 73, .inl (sumN i (fun q => kp.getD q 0))], _)) rfl ?_
      refine b_vV (as := [.inl (i : Int)]) (rest := [.inl (sumN i (fun q => kp.getD q 0))]) (k := 73) (.inl (kp.getD i 0)) okX3_allOf rfl lkX3_65 caX4_at (Nat.le_of_ble_eq_true rfl) rfl (Nat.le_of_ble_eq_true rfl) rfl rfl rfl (c_at (i := i) rfl rfl (by first | omega | (simp only [List.length_set]; omega)) (by omega)) ?_
      refine aGo okX3_allOf 4 (f' := (4, [some (.inr 64), some (.inr 73), some (.inl ((sumN i (fun q => kp.getD q 0)) + (kp.getD i 0))), some (.inl ((i : Int) + 1))], [], _)) rfl ?_
      exact ih (i + 1) (by omega)
  refine aGo okX3_allOf 4 (f' := (4, [some (.inr 64), some (.inr 73), some (.inl 0), some (.inl 0)], [], _)) rfl ?_
  exact lp p 0 (by omega)
set_option maxHeartbeats 4000000 in
theorem c_allKept_2 (hp : p ≤ 7) (hl : kp.length = 7) : aEv mX3_allKept 2 0 0 N [.inr 64] [A0, B, (moSeg 64 k f c n kp l nt w sh (p : Int) t d wa), A3, B4, A5, C6] (aQx (some (.inl (sumN p (fun q => kp.getD q 0)))) [A0, B, (moSeg 64 k f c n kp l nt w sh (p : Int) t d wa), A3, B4, A5, C6]) := by
  refine aEv_of okX3_allKept caX3_allKept (Nat.le_of_ble_eq_true rfl) ?_
  refine aGo okX3_allKept 3 (f' := (5, [some (.inr 64)], [.inr 73, .inr 64], _)) rfl ?_
  refine b_vV (as := [.inr 73]) (rest := []) (k := 64) (.inl (sumN p (fun q => kp.getD q 0))) okX3_allKept rfl lkX3_73 caX3_allOf (Nat.le_of_ble_eq_true rfl) rfl (Nat.le_of_ble_eq_true rfl) rfl rfl rfl (c_allOf_2_kp hp hl) ?_
  exact b_ret (v := (some (.inl (sumN p (fun q => kp.getD q 0))))) ⟨rfl, Or.inl rfl⟩ ⟨rfl, rfl⟩ rfl
set_option maxHeartbeats 4000000 in
theorem c_contentBits_2 (hp : p ≤ 7) (hn0 : n.length = 7) (hs0 : sh.length = 7) (ht0 : nt.length = 7) (hn : rng n 99) (h2 : ∀ q, q < p → -10000 ≤ sh.getD q 0 - nt.getD q 0 ∧ sh.getD q 0 - nt.getD q 0 ≤ 10000) : aEv mX3_contentBits 2 0 0 N [.inr 64] [A0, B, (moSeg 64 k f c n kp l nt w sh (p : Int) t d wa), A3, B4, A5, C6] ((aQx (some (.inl (bitsN p (fun q => decide (n.getD q 0 ≤ sh.getD q 0 - nt.getD q 0))))) [A0, B, (moSeg 64 k f c n kp l nt w sh (p : Int) t d wa), A3, B4, A5, C6])) := by
  refine aEv_of okX3_contentBits caX3_contentBits (Nat.le_of_ble_eq_true rfl) ?_
  have lp : ∀ (j i : Nat), i + j = p → AW mX3_contentBits 2 0 0 N none (aQx (some (.inl (bitsN p (fun q => decide (n.getD q 0 ≤ sh.getD q 0 - nt.getD q 0))))) [A0, B, (moSeg 64 k f c n kp l nt w sh (p : Int) t d wa), A3, B4, A5, C6]) (4, [some (.inr 64), some (.inl (bitsN i (fun q => decide (n.getD q 0 ≤ sh.getD q 0 - nt.getD q 0)))), some (.inl (i : Int))], [], [A0, B, (moSeg 64 k f c n kp l nt w sh (p : Int) t d wa), A3, B4, A5, C6]) := by
    intro j
    induction j with
    | zero =>
      intro i  hij 
      obtain rfl : p = i := by omega
      refine aGo okX3_contentBits 3 (f' := (9, [some (.inr 64), some (.inl (bitsN p (fun q => decide (n.getD q 0 ≤ sh.getD q 0 - nt.getD q 0)))), some (.inl (p : Int))], [.inl (p : Int), .inl (p : Int)], _)) rfl ?_
      refine b_ge (tgt := 40) okX3_contentBits rfl rfl ⟨by omega, by omega⟩ ⟨by omega, by omega⟩ (fun h9 => ?_) (fun h9 => absurd h9 (by omega))
      refine aGo okX3_contentBits 1 (f' := (41, [some (.inr 64), some (.inl (bitsN p (fun q => decide (n.getD q 0 ≤ sh.getD q 0 - nt.getD q 0)))), some (.inl (p : Int))], [.inl (bitsN p (fun q => decide (n.getD q 0 ≤ sh.getD q 0 - nt.getD q 0)))], _)) rfl ?_
      exact b_ret (v := (some (.inl (bitsN p (fun q => decide (n.getD q 0 ≤ sh.getD q 0 - nt.getD q 0)))))) ⟨rfl, Or.inl rfl⟩ ⟨rfl, rfl⟩ rfl
    | succ j ih =>
      intro i  hij 
      have q1 := hn i
      have q2 := h2 i (by omega)
      refine aGo okX3_contentBits 3 (f' := (9, [some (.inr 64), some (.inl (bitsN i (fun q => decide (n.getD q 0 ≤ sh.getD q 0 - nt.getD q 0)))), some (.inl (i : Int))], [.inl (p : Int), .inl (i : Int)], _)) rfl ?_
      refine b_ge (tgt := 40) okX3_contentBits rfl rfl ⟨by omega, by omega⟩ ⟨by omega, by omega⟩ (fun h9 => absurd h9 (by omega)) (fun h9 => ?_)
      refine aGo okX3_contentBits 2 (f' := (14, [some (.inr 64), some (.inl (bitsN i (fun q => decide (n.getD q 0 ≤ sh.getD q 0 - nt.getD q 0)))), some (.inl (i : Int))], [.inl (i : Int), .inr 64], _)) rfl ?_
      refine b_vV (as := [.inl (i : Int)]) (rest := []) (k := 64) (.inl ((sh.getD i 0) - (nt.getD i 0))) okX3_contentBits rfl lkX3_77 caX3_hasOf (Nat.le_of_ble_eq_true rfl) rfl (Nat.le_of_ble_eq_true rfl) rfl rfl rfl (c_hasOf_2 (i := i) (by first | omega | (simp only [List.length_set]; omega)) (by first | omega | (simp only [List.length_set]; omega)) (by omega)) ?_
      refine aGo okX3_contentBits 3 (f' := (22, [some (.inr 64), some (.inl (bitsN i (fun q => decide (n.getD q 0 ≤ sh.getD q 0 - nt.getD q 0)))), some (.inl (i : Int))], [.inl (i : Int), .inr 71, .inl ((sh.getD i 0) - (nt.getD i 0))], _)) rfl ?_
      refine b_vV (as := [.inl (i : Int)]) (rest := [.inl ((sh.getD i 0) - (nt.getD i 0))]) (k := 71) (.inl (n.getD i 0)) okX3_contentBits rfl lkX3_65 caX4_at (Nat.le_of_ble_eq_true rfl) rfl (Nat.le_of_ble_eq_true rfl) rfl rfl rfl (c_at (i := i) rfl rfl (by first | omega | (simp only [List.length_set]; omega)) (by omega)) ?_
      refine b_lt (tgt := 34) okX3_contentBits rfl rfl ⟨by omega, by omega⟩ ⟨by omega, by omega⟩ (fun h25 => ?_) (fun h25 => ?_)
      · refine aGo okX3_contentBits 2 (f' := (4, [some (.inr 64), some (.inl (bitsN i (fun q => decide (n.getD q 0 ≤ sh.getD q 0 - nt.getD q 0)))), some (.inl ((i : Int) + 1))], [], _)) rfl ?_
        refine b_cast (f' := (4, [some (.inr 64), some (.inl (bitsN (i + 1) (fun q => decide (n.getD q 0 ≤ sh.getD q 0 - nt.getD q 0)))), some (.inl ((i : Int) + 1))], [], [A0, B, (moSeg 64 k f c n kp l nt w sh (p : Int) t d wa), A3, B4, A5, C6])) (by rw [bitsN_f (P := (fun q => decide (n.getD q 0 ≤ sh.getD q 0 - nt.getD q 0))) (i := i) (decide_eq_false (by omega))]) ?_
        exact ih (i + 1) (by omega)
      · refine aGo okX3_contentBits 8 (f' := (4, [some (.inr 64), some (.inl (aOr (bitsN i (fun q => decide (n.getD q 0 ≤ sh.getD q 0 - nt.getD q 0))) (aShl 1 (i : Int)))), some (.inl ((i : Int) + 1))], [], _)) rfl ?_
        refine b_cast (f' := (4, [some (.inr 64), some (.inl (bitsN (i + 1) (fun q => decide (n.getD q 0 ≤ sh.getD q 0 - nt.getD q 0)))), some (.inl ((i : Int) + 1))], [], [A0, B, (moSeg 64 k f c n kp l nt w sh (p : Int) t d wa), A3, B4, A5, C6])) (by rw [bitsN_t (P := (fun q => decide (n.getD q 0 ≤ sh.getD q 0 - nt.getD q 0))) (i := i) (decide_eq_true (by omega))]) ?_
        exact ih (i + 1) (by omega)
  refine aGo okX3_contentBits 4 (f' := (4, [some (.inr 64), some (.inl 0), some (.inl 0)], [], _)) rfl ?_
  exact lp p 0 (by omega)
set_option maxHeartbeats 4000000 in
theorem c_passDays_2 {m : Nat} (hp : p ≤ 7) (hm : m ≤ 1000) (hkp : kp.length = 7) (hn0 : n.length = 7) (hs0 : sh.length = 7) (ht0 : nt.length = 7) (rkp : rng kp 9999) (hn : rng n 99) (h2 : ∀ q, q < p → -10000 ≤ sh.getD q 0 - nt.getD q 0 ∧ sh.getD q 0 - nt.getD q 0 ≤ 10000) : aEv mX3_passDays 2 0 0 N [.inr 64, .inl (m : Int)] [A0, B, (moSeg 64 k f c n kp l nt w sh (p : Int) t d wa), A3, B4, A5, C6] ((aQx (some (.inl (dayB p (hasL sh nt) n kp m))) [A0, B, (moSeg 64 k f c n (dayIt p (hasL sh nt) n m kp) l nt w sh (p : Int) t (d + (m : Int)) wa), A3, B4, A5, C6])) := by
  have hV : ∀ i q, q < p → -30000 ≤ dayV (dayIt p (hasL sh nt) n i kp) (hasL sh nt) n q ∧ dayV (dayIt p (hasL sh nt) n i kp) (hasL sh nt) n q ≤ 30000 := fun i q hq => by have r1 := dayIt_rng (p := p) (has := (hasL sh nt)) (n := n) (m := i) rkp q; have r2 := hn q; have r3 := h2 q hq; unfold dayV hasL; unfold hasL at r1; omega
  refine aEv_of okX3_passDays caX3_passDays (Nat.le_of_ble_eq_true rfl) ?_
  have lp : ∀ (j i : Nat), i + j = m → AW mX3_passDays 2 0 0 N none (aQx (some (.inl (dayB p (hasL sh nt) n kp m))) [A0, B, (moSeg 64 k f c n (dayIt p (hasL sh nt) n m kp) l nt w sh (p : Int) t (d + (m : Int)) wa), A3, B4, A5, C6]) (4, [some (.inr 64), some (.inl (m : Int)), some (.inl (dayB p (hasL sh nt) n kp i)), some (.inl (i : Int)), none, none], [], [A0, B, (moSeg 64 k f c n (dayIt p (hasL sh nt) n i kp) l nt w sh (p : Int) t (d + (i : Int)) wa), A3, B4, A5, C6]) := by
    intro j
    induction j with
    | zero =>
      intro i  hij 
      obtain rfl : m = i := by omega
      refine aGo okX3_passDays 2 (f' := (6, [some (.inr 64), some (.inl (m : Int)), some (.inl (dayB p (hasL sh nt) n kp m)), some (.inl (m : Int)), none, none], [.inl (m : Int), .inl (m : Int)], _)) rfl ?_
      refine b_ge (tgt := 106) okX3_passDays rfl rfl ⟨by omega, by omega⟩ ⟨by omega, by omega⟩ (fun h6 => ?_) (fun h6 => absurd h6 (by omega))
      refine aGo okX3_passDays 1 (f' := (107, [some (.inr 64), some (.inl (m : Int)), some (.inl (dayB p (hasL sh nt) n kp m)), some (.inl (m : Int)), none, none], [.inl (dayB p (hasL sh nt) n kp m)], _)) rfl ?_
      exact b_ret (v := (some (.inl (dayB p (hasL sh nt) n kp m)))) ⟨rfl, Or.inl rfl⟩ ⟨rfl, rfl⟩ rfl
    | succ j ih =>
      intro i  hij 
      have lq : ∀ (j2 q : Nat), q + j2 = p → AW mX3_passDays 2 0 0 N none (aQx (some (.inl (dayB p (hasL sh nt) n kp m))) [A0, B, (moSeg 64 k f c n (dayIt p (hasL sh nt) n m kp) l nt w sh (p : Int) t (d + (m : Int)) wa), A3, B4, A5, C6]) (24, [some (.inr 64), some (.inl (m : Int)), some (.inl (bitsN q (fun q => decide (dayV (dayIt p (hasL sh nt) n i kp) (hasL sh nt) n q < 0)))), some (.inl (i : Int)), some (.inl (q : Int)), none], [], [A0, B, (moSeg 64 k f c n (dayL q (dayIt p (hasL sh nt) n i kp) (hasL sh nt) n) l nt w sh (p : Int) t ((d + (i : Int)) + 1) wa), A3, B4, A5, C6]) := by
        intro j2
        induction j2 with
        | zero =>
          intro q  hij2 
          obtain rfl : p = q := by omega
          refine aGo okX3_passDays 3 (f' := (30, [some (.inr 64), some (.inl (m : Int)), some (.inl (bitsN p (fun q => decide (dayV (dayIt p (hasL sh nt) n i kp) (hasL sh nt) n q < 0)))), some (.inl (i : Int)), some (.inl (p : Int)), none], [.inl (p : Int), .inl (p : Int)], _)) rfl ?_
          refine b_ge (tgt := 100) okX3_passDays rfl rfl ⟨by omega, by omega⟩ ⟨by omega, by omega⟩ (fun h30 => ?_) (fun h30 => absurd h30 (by omega))
          refine aGo okX3_passDays 2 (f' := (4, [some (.inr 64), some (.inl (m : Int)), some (.inl (bitsN p (fun q => decide (dayV (dayIt p (hasL sh nt) n i kp) (hasL sh nt) n q < 0)))), some (.inl ((i : Int) + 1)), some (.inl (p : Int)), none], [], _)) rfl ?_
          refine b_cast (f' := (4, [some (.inr 64), some (.inl (m : Int)), some (.inl (bitsN p (fun q => decide (dayV (dayIt p (hasL sh nt) n i kp) (hasL sh nt) n q < 0)))), some (.inl ((i : Int) + 1)), some (.inl (p : Int)), none], [], [A0, B, (moSeg 64 k f c n (dayL p (dayIt p (hasL sh nt) n i kp) (hasL sh nt) n) l nt w sh (p : Int) t (d + (((i + 1) : Nat) : Int)) wa), A3, B4, A5, C6])) (by rw [show d + (i : Int) + 1 = d + ((i + 1 : Nat) : Int) by omega]) ?_
          refine b_lose (ls' := [some (.inr 64), some (.inl (m : Int)), some (.inl (bitsN p (fun q => decide (dayV (dayIt p (hasL sh nt) n i kp) (hasL sh nt) n q < 0)))), some (.inl ((i : Int) + 1)), none, none]) (lose4 _ _ _ _ _) ?_
          exact ih (i + 1) (by omega)
        | succ j2 ih2 =>
          intro q  hij2 
          have e0 : (dayL q (dayIt p (hasL sh nt) n i kp) (hasL sh nt) n).length = 7 := by rw [dayL_len, dayIt_len]; exact hkp
          refine aGo okX3_passDays 3 (f' := (30, [some (.inr 64), some (.inl (m : Int)), some (.inl (bitsN q (fun q => decide (dayV (dayIt p (hasL sh nt) n i kp) (hasL sh nt) n q < 0)))), some (.inl (i : Int)), some (.inl (q : Int)), none], [.inl (p : Int), .inl (q : Int)], _)) rfl ?_
          refine b_ge (tgt := 100) okX3_passDays rfl rfl ⟨by omega, by omega⟩ ⟨by omega, by omega⟩ (fun h30 => absurd h30 (by omega)) (fun h30 => ?_)
          refine aGo okX3_passDays 3 (f' := (39, [some (.inr 64), some (.inl (m : Int)), some (.inl (bitsN q (fun q => decide (dayV (dayIt p (hasL sh nt) n i kp) (hasL sh nt) n q < 0)))), some (.inl (i : Int)), some (.inl (q : Int)), none], [.inl (q : Int), .inr 73], _)) rfl ?_
          refine b_vV (as := [.inl (q : Int)]) (rest := []) (k := 73) (.inl ((dayL q (dayIt p (hasL sh nt) n i kp) (hasL sh nt) n).getD q 0)) okX3_passDays rfl lkX3_65 caX4_at (Nat.le_of_ble_eq_true rfl) rfl (Nat.le_of_ble_eq_true rfl) rfl rfl rfl (c_at (i := q) rfl rfl (by first | omega | (simp only [List.length_set]; omega)) (by omega)) ?_
          refine b_cast (f' := (42, [some (.inr 64), some (.inl (m : Int)), some (.inl (bitsN q (fun q => decide (dayV (dayIt p (hasL sh nt) n i kp) (hasL sh nt) n q < 0)))), some (.inl (i : Int)), some (.inl (q : Int)), none], [.inl ((dayIt p (hasL sh nt) n i kp).getD q 0)], [A0, B, (moSeg 64 k f c n (dayL q (dayIt p (hasL sh nt) n i kp) (hasL sh nt) n) l nt w sh (p : Int) t ((d + (i : Int)) + 1) wa), A3, B4, A5, C6])) (by rw [dayL_at (Nat.le_refl q)]) ?_
          refine aGo okX3_passDays 2 (f' := (45, [some (.inr 64), some (.inl (m : Int)), some (.inl (bitsN q (fun q => decide (dayV (dayIt p (hasL sh nt) n i kp) (hasL sh nt) n q < 0)))), some (.inl (i : Int)), some (.inl (q : Int)), none], [.inl (q : Int), .inr 64, .inl ((dayIt p (hasL sh nt) n i kp).getD q 0)], _)) rfl ?_
          refine b_vV (as := [.inl (q : Int)]) (rest := [.inl ((dayIt p (hasL sh nt) n i kp).getD q 0)]) (k := 64) (.inl ((sh.getD q 0) - (nt.getD q 0))) okX3_passDays rfl lkX3_77 caX3_hasOf (Nat.le_of_ble_eq_true rfl) rfl (Nat.le_of_ble_eq_true rfl) rfl rfl rfl (c_hasOf_2 (i := q) (by first | omega | (simp only [List.length_set]; omega)) (by first | omega | (simp only [List.length_set]; omega)) (by omega)) ?_
          refine aGo okX3_passDays 4 (f' := (55, [some (.inr 64), some (.inl (m : Int)), some (.inl (bitsN q (fun q => decide (dayV (dayIt p (hasL sh nt) n i kp) (hasL sh nt) n q < 0)))), some (.inl (i : Int)), some (.inl (q : Int)), none], [.inl (q : Int), .inr 71, .inl (((dayIt p (hasL sh nt) n i kp).getD q 0) + ((sh.getD q 0) - (nt.getD q 0)))], _)) rfl ?_
          refine b_vV (as := [.inl (q : Int)]) (rest := [.inl (((dayIt p (hasL sh nt) n i kp).getD q 0) + ((sh.getD q 0) - (nt.getD q 0)))]) (k := 71) (.inl (n.getD q 0)) okX3_passDays rfl lkX3_65 caX4_at (Nat.le_of_ble_eq_true rfl) rfl (Nat.le_of_ble_eq_true rfl) rfl rfl rfl (c_at (i := q) rfl rfl (by first | omega | (simp only [List.length_set]; omega)) (by omega)) ?_
          refine aGo okX3_passDays 2 (f' := (61, [some (.inr 64), some (.inl (m : Int)), some (.inl (bitsN q (fun q => decide (dayV (dayIt p (hasL sh nt) n i kp) (hasL sh nt) n q < 0)))), some (.inl (i : Int)), some (.inl (q : Int)), some (.inl ((((dayIt p (hasL sh nt) n i kp).getD q 0) + ((sh.getD q 0) - (nt.getD q 0))) - (n.getD q 0)))], [], _)) rfl ?_
          refine b_cast (f' := (61, [some (.inr 64), some (.inl (m : Int)), some (.inl (bitsN q (fun q => decide (dayV (dayIt p (hasL sh nt) n i kp) (hasL sh nt) n q < 0)))), some (.inl (i : Int)), some (.inl (q : Int)), some (.inl (dayV (dayIt p (hasL sh nt) n i kp) (hasL sh nt) n q))], [], [A0, B, (moSeg 64 k f c n (dayL q (dayIt p (hasL sh nt) n i kp) (hasL sh nt) n) l nt w sh (p : Int) t ((d + (i : Int)) + 1) wa), A3, B4, A5, C6])) (rfl) ?_
          have hv0 := hV i q (by omega)
          refine aGo okX3_passDays 1 (f' := (63, [some (.inr 64), some (.inl (m : Int)), some (.inl (bitsN q (fun q => decide (dayV (dayIt p (hasL sh nt) n i kp) (hasL sh nt) n q < 0)))), some (.inl (i : Int)), some (.inl (q : Int)), some (.inl (dayV (dayIt p (hasL sh nt) n i kp) (hasL sh nt) n q))], [.inl (dayV (dayIt p (hasL sh nt) n i kp) (hasL sh nt) n q)], _)) rfl ?_
          refine b0_ge (tgt := 73) okX3_passDays rfl rfl ⟨by omega, by omega⟩ (fun h63 => ?_) (fun h63 => ?_)
          · refine aGo okX3_passDays 6 (f' := (85, [some (.inr 64), some (.inl (m : Int)), some (.inl (bitsN q (fun q => decide (dayV (dayIt p (hasL sh nt) n i kp) (hasL sh nt) n q < 0)))), some (.inl (i : Int)), some (.inl (q : Int)), some (.inl (dayV (dayIt p (hasL sh nt) n i kp) (hasL sh nt) n q))], [.inl 9999, .inl (dayV (dayIt p (hasL sh nt) n i kp) (hasL sh nt) n q), .inl 0, .inl (q : Int), .inr 73], _)) rfl ?_
            refine b_min okX3_passDays rfl lkX3_112 ma_min_s ma_min_c (Nat.le_of_ble_eq_true rfl) (Nat.le_of_ble_eq_true rfl) ⟨by omega, by omega⟩ ⟨by omega, by omega⟩ ?_
            refine b_max okX3_passDays rfl lkX3_86 ma_max_s ma_max_c (Nat.le_of_ble_eq_true rfl) (Nat.le_of_ble_eq_true rfl) ⟨by omega, by omega⟩ ⟨by omega, by omega⟩ ?_
            refine b_vN (as := [.inl (q : Int), .inl (max 0 (min (dayV (dayIt p (hasL sh nt) n i kp) (hasL sh nt) n q) 9999))]) (rest := []) (k := 73) okX3_passDays rfl lkX3_98 caX4_put (Nat.le_of_ble_eq_true rfl) rfl (Nat.le_of_ble_eq_true rfl) rfl rfl rfl (c_put (i := q) rfl rfl (by first | omega | (simp only [List.length_set]; omega)) (by first | omega | (simp only [List.length_set]; omega)) (max 0 (min (dayV (dayIt p (hasL sh nt) n i kp) (hasL sh nt) n q) 9999))) ?_
            refine b_cast (f' := (94, [some (.inr 64), some (.inl (m : Int)), some (.inl (bitsN q (fun q => decide (dayV (dayIt p (hasL sh nt) n i kp) (hasL sh nt) n q < 0)))), some (.inl (i : Int)), some (.inl (q : Int)), some (.inl (dayV (dayIt p (hasL sh nt) n i kp) (hasL sh nt) n q))], [], [A0, B, (moSeg 64 k f c n ((dayL q (dayIt p (hasL sh nt) n i kp) (hasL sh nt) n).set q (max 0 (min (dayV (dayIt p (hasL sh nt) n i kp) (hasL sh nt) n q) 9999))) l nt w sh (p : Int) t ((d + (i : Int)) + 1) wa), A3, B4, A5, C6])) rfl ?_
            refine aGo okX3_passDays 2 (f' := (24, [some (.inr 64), some (.inl (m : Int)), some (.inl (bitsN q (fun q => decide (dayV (dayIt p (hasL sh nt) n i kp) (hasL sh nt) n q < 0)))), some (.inl (i : Int)), some (.inl ((q : Int) + 1)), some (.inl (dayV (dayIt p (hasL sh nt) n i kp) (hasL sh nt) n q))], [], _)) rfl ?_
            refine b_cast (f' := (24, [some (.inr 64), some (.inl (m : Int)), some (.inl (bitsN (q + 1) (fun q => decide (dayV (dayIt p (hasL sh nt) n i kp) (hasL sh nt) n q < 0)))), some (.inl (i : Int)), some (.inl ((q : Int) + 1)), some (.inl (dayV (dayIt p (hasL sh nt) n i kp) (hasL sh nt) n q))], [], [A0, B, (moSeg 64 k f c n ((dayL q (dayIt p (hasL sh nt) n i kp) (hasL sh nt) n).set q (max 0 (min (dayV (dayIt p (hasL sh nt) n i kp) (hasL sh nt) n q) 9999))) l nt w sh (p : Int) t ((d + (i : Int)) + 1) wa), A3, B4, A5, C6])) (by rw [bitsN_f (P := (fun q => decide (dayV (dayIt p (hasL sh nt) n i kp) (hasL sh nt) n q < 0))) (i := q) (decide_eq_false (by omega))]) ?_
            refine b_lose (ls' := [some (.inr 64), some (.inl (m : Int)), some (.inl (bitsN (q + 1) (fun q => decide (dayV (dayIt p (hasL sh nt) n i kp) (hasL sh nt) n q < 0)))), some (.inl (i : Int)), some (.inl ((q : Int) + 1)), none]) (lose5 _ _ _ _ _ _) ?_
            exact ih2 (q + 1) (by omega)
          · refine aGo okX3_passDays 12 (f' := (85, [some (.inr 64), some (.inl (m : Int)), some (.inl (aOr (bitsN q (fun q => decide (dayV (dayIt p (hasL sh nt) n i kp) (hasL sh nt) n q < 0))) (aShl 1 (q : Int)))), some (.inl (i : Int)), some (.inl (q : Int)), some (.inl (dayV (dayIt p (hasL sh nt) n i kp) (hasL sh nt) n q))], [.inl 9999, .inl (dayV (dayIt p (hasL sh nt) n i kp) (hasL sh nt) n q), .inl 0, .inl (q : Int), .inr 73], _)) rfl ?_
            refine b_min okX3_passDays rfl lkX3_112 ma_min_s ma_min_c (Nat.le_of_ble_eq_true rfl) (Nat.le_of_ble_eq_true rfl) ⟨by omega, by omega⟩ ⟨by omega, by omega⟩ ?_
            refine b_max okX3_passDays rfl lkX3_86 ma_max_s ma_max_c (Nat.le_of_ble_eq_true rfl) (Nat.le_of_ble_eq_true rfl) ⟨by omega, by omega⟩ ⟨by omega, by omega⟩ ?_
            refine b_vN (as := [.inl (q : Int), .inl (max 0 (min (dayV (dayIt p (hasL sh nt) n i kp) (hasL sh nt) n q) 9999))]) (rest := []) (k := 73) okX3_passDays rfl lkX3_98 caX4_put (Nat.le_of_ble_eq_true rfl) rfl (Nat.le_of_ble_eq_true rfl) rfl rfl rfl (c_put (i := q) rfl rfl (by first | omega | (simp only [List.length_set]; omega)) (by first | omega | (simp only [List.length_set]; omega)) (max 0 (min (dayV (dayIt p (hasL sh nt) n i kp) (hasL sh nt) n q) 9999))) ?_
            refine b_cast (f' := (94, [some (.inr 64), some (.inl (m : Int)), some (.inl (aOr (bitsN q (fun q => decide (dayV (dayIt p (hasL sh nt) n i kp) (hasL sh nt) n q < 0))) (aShl 1 (q : Int)))), some (.inl (i : Int)), some (.inl (q : Int)), some (.inl (dayV (dayIt p (hasL sh nt) n i kp) (hasL sh nt) n q))], [], [A0, B, (moSeg 64 k f c n ((dayL q (dayIt p (hasL sh nt) n i kp) (hasL sh nt) n).set q (max 0 (min (dayV (dayIt p (hasL sh nt) n i kp) (hasL sh nt) n q) 9999))) l nt w sh (p : Int) t ((d + (i : Int)) + 1) wa), A3, B4, A5, C6])) rfl ?_
            refine aGo okX3_passDays 2 (f' := (24, [some (.inr 64), some (.inl (m : Int)), some (.inl (aOr (bitsN q (fun q => decide (dayV (dayIt p (hasL sh nt) n i kp) (hasL sh nt) n q < 0))) (aShl 1 (q : Int)))), some (.inl (i : Int)), some (.inl ((q : Int) + 1)), some (.inl (dayV (dayIt p (hasL sh nt) n i kp) (hasL sh nt) n q))], [], _)) rfl ?_
            refine b_cast (f' := (24, [some (.inr 64), some (.inl (m : Int)), some (.inl (bitsN (q + 1) (fun q => decide (dayV (dayIt p (hasL sh nt) n i kp) (hasL sh nt) n q < 0)))), some (.inl (i : Int)), some (.inl ((q : Int) + 1)), some (.inl (dayV (dayIt p (hasL sh nt) n i kp) (hasL sh nt) n q))], [], [A0, B, (moSeg 64 k f c n ((dayL q (dayIt p (hasL sh nt) n i kp) (hasL sh nt) n).set q (max 0 (min (dayV (dayIt p (hasL sh nt) n i kp) (hasL sh nt) n q) 9999))) l nt w sh (p : Int) t ((d + (i : Int)) + 1) wa), A3, B4, A5, C6])) (by rw [bitsN_t (P := (fun q => decide (dayV (dayIt p (hasL sh nt) n i kp) (hasL sh nt) n q < 0))) (i := q) (decide_eq_true (by omega))]) ?_
            refine b_lose (ls' := [some (.inr 64), some (.inl (m : Int)), some (.inl (bitsN (q + 1) (fun q => decide (dayV (dayIt p (hasL sh nt) n i kp) (hasL sh nt) n q < 0)))), some (.inl (i : Int)), some (.inl ((q : Int) + 1)), none]) (lose5 _ _ _ _ _ _) ?_
            exact ih2 (q + 1) (by omega)
      refine aGo okX3_passDays 2 (f' := (6, [some (.inr 64), some (.inl (m : Int)), some (.inl (dayB p (hasL sh nt) n kp i)), some (.inl (i : Int)), none, none], [.inl (m : Int), .inl (i : Int)], _)) rfl ?_
      refine b_ge (tgt := 106) okX3_passDays rfl rfl ⟨by omega, by omega⟩ ⟨by omega, by omega⟩ (fun h6 => absurd h6 (by omega)) (fun h6 => ?_)
      refine aGo okX3_passDays 10 (f' := (24, [some (.inr 64), some (.inl (m : Int)), some (.inl 0), some (.inl (i : Int)), some (.inl 0), none], [], [A0, B, (moSeg 64 k f c n (dayIt p (hasL sh nt) n i kp) l nt w sh (p : Int) t ((d + (i : Int)) + 1) wa), A3, B4, A5, C6])) rfl ?_
      refine b_lose (ls' := [some (.inr 64), some (.inl (m : Int)), some (.inl 0), some (.inl (i : Int)), some (.inl 0), none]) (fun _ _ z => z) ?_
      exact lq p 0 (by omega)
  refine aGo okX3_passDays 4 (f' := (4, [some (.inr 64), some (.inl (m : Int)), some (.inl 0), some (.inl 0), none, none], [], _)) rfl ?_
  refine b_cast (f' := (4, [some (.inr 64), some (.inl (m : Int)), some (.inl 0), some (.inl 0), none, none], [], [A0, B, (moSeg 64 k f c n kp l nt w sh (p : Int) t (d + ((0 : Nat) : Int)) wa), A3, B4, A5, C6])) (by rw [show d + ((0 : Nat) : Int) = d by omega]) ?_
  exact lp m 0 (by omega)
end AMP
