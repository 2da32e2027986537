theorem lose23 (a0 a1 a2 a3 : Option aV) : ∀ (i : Nat) (v : aV), [a0, a1, none, none][i]? = some (some v) → [a0, a1, a2, a3][i]? = some (some v) := by
  intro i v h
  match i, h with
  | 0, h => exact h
  | 1, h => exact h
  | 2, h => cases h
  | 3, h => cases h
  | i + 4, h => exact h
theorem lose5g (a0 a1 a2 a3 a4 a5 a6 : Option aV) : ∀ (i : Nat) (v : aV), [a0, a1, a2, a3, a4, none, a6][i]? = some (some v) → [a0, a1, a2, a3, a4, a5, a6][i]? = some (some v) := by
  intro i v h
  match i, h with
  | 0, h => exact h
  | 1, h => exact h
  | 2, h => exact h
  | 3, h => exact h
  | 4, h => exact h
  | 5, h => cases h
  | 6, h => exact h
  | i + 7, h => exact h
theorem lose3 (a0 a1 a2 a3 : Option aV) : ∀ (i : Nat) (v : aV), [a0, a1, a2, none][i]? = some (some v) → [a0, a1, a2, a3][i]? = some (some v) := by
  intro i v h
  match i, h with
  | 0, h => exact h
  | 1, h => exact h
  | 2, h => exact h
  | 3, h => cases h
  | i + 4, h => exact h
theorem lose2 (a0 a1 a2 : Option aV) : ∀ (i : Nat) (v : aV), [a0, a1, none][i]? = some (some v) → [a0, a1, a2][i]? = some (some v) := by
  intro i v h
  match i, h with
  | 0, h => exact h
  | 1, h => exact h
  | 2, h => cases h
  | i + 3, h => exact h
/-! Nets, weights, shares, and the changes that bring them up to date; laid by gen_moor3.py -/
section AMQ
variable {A0 B A3 B4 A5 C6 : List (Option aE)} {k f c n kp l nt w sh : List Int} {p : Nat} {t d wa : Int} {N : Nat}
set_option maxHeartbeats 4000000 in
theorem c_netLoans_1 (hp : p ≤ 7) (hnt : nt.length = 7) (hl : l.length = 49) : aEv mX3_netLoans 2 0 0 N [.inr 32] [A0, (moSeg 32 k f c n kp l nt w sh (p : Int) t d wa), B, A3, B4, A5, C6] ((fun rv h => rv = none ∧ ∃ nt2 : List Int, nOK p l nt2 ∧ h = [A0, (moSeg 32 k f c n kp l nt2 w sh (p : Int) t d wa), B, A3, B4, A5, C6])) := by
  refine aEv_of okX3_netLoans caX3_netLoans (Nat.le_of_ble_eq_true rfl) ?_
  have lp : ∀ (j i : Nat) (m : List Int), i + j = p → (m.length = 7) → (∀ q, q < i → m.getD q 0 = net p l q) → AW mX3_netLoans 2 0 0 N none (fun rv h => rv = none ∧ ∃ nt2 : List Int, nOK p l nt2 ∧ h = [A0, (moSeg 32 k f c n kp l nt2 w sh (p : Int) t d wa), B, A3, B4, A5, C6]) (2, [some (.inr 32), some (.inl (i : Int)), none, none], [], [A0, (moSeg 32 k f c n kp l m w sh (p : Int) t d wa), B, A3, B4, A5, C6]) := by
    intro j
    induction j with
    | zero =>
      intro i m hij h1 h2
      obtain rfl : p = i := by omega
      refine aGo okX3_netLoans 3 (f' := (7, [some (.inr 32), some (.inl (p : Int)), none, none], [.inl (p : Int), .inl (p : Int)], _)) rfl ?_
      refine b_ge (tgt := 59) okX3_netLoans rfl rfl ⟨by omega, by omega⟩ ⟨by omega, by omega⟩ (fun h7 => ?_) (fun h7 => absurd h7 (by omega))
      exact b_ret (v := none) ⟨rfl, rfl⟩ ⟨rfl, m, ⟨h1, h2⟩, rfl⟩ rfl
    | succ j ih =>
      intro i m hij h1 h2
      have lq : ∀ (j2 q : Nat), q + j2 = p → AW mX3_netLoans 2 0 0 N none (fun rv h => rv = none ∧ ∃ nt2 : List Int, nOK p l nt2 ∧ h = [A0, (moSeg 32 k f c n kp l nt2 w sh (p : Int) t d wa), B, A3, B4, A5, C6]) (14, [some (.inr 32), some (.inl (i : Int)), some (.inl (sumN q (fun j => l.getD (7 * i + j) 0 - l.getD (7 * j + i) 0))), some (.inl (q : Int))], [], [A0, (moSeg 32 k f c n kp l m w sh (p : Int) t d wa), B, A3, B4, A5, C6]) := by
        intro j2
        induction j2 with
        | zero =>
          intro q  hij2 
          obtain rfl : p = q := by omega
          refine aGo okX3_netLoans 3 (f' := (19, [some (.inr 32), some (.inl (i : Int)), some (.inl (sumN p (fun j => l.getD (7 * i + j) 0 - l.getD (7 * j + i) 0))), some (.inl (p : Int))], [.inl (p : Int), .inl (p : Int)], _)) rfl ?_
          refine b_ge (tgt := 44) okX3_netLoans rfl rfl ⟨by omega, by omega⟩ ⟨by omega, by omega⟩ (fun h19 => ?_) (fun h19 => absurd h19 (by omega))
          refine b_cast (f' := (44, [some (.inr 32), some (.inl (i : Int)), some (.inl (net p l i)), some (.inl (p : Int))], [], [A0, (moSeg 32 k f c n kp l m w sh (p : Int) t d wa), B, A3, B4, A5, C6])) (rfl) ?_
          refine aGo okX3_netLoans 4 (f' := (50, [some (.inr 32), some (.inl (i : Int)), some (.inl (net p l i)), some (.inl (p : Int))], [.inl (net p l i), .inl (i : Int), .inr 45], _)) rfl ?_
          refine b_vN (as := [.inl (i : Int), .inl (net p l i)]) (rest := []) (k := 45) okX3_netLoans rfl lkX3_98 caX4_put (Nat.le_of_ble_eq_true rfl) rfl (Nat.le_of_ble_eq_true rfl) rfl rfl rfl (c_put (i := i) rfl rfl (by first | omega | (simp only [List.length_set]; omega)) (by first | omega | (simp only [List.length_set]; omega)) (net p l i)) ?_
          refine b_cast (f' := (53, [some (.inr 32), some (.inl (i : Int)), some (.inl (net p l i)), some (.inl (p : Int))], [], [A0, (moSeg 32 k f c n kp l (m.set i (net p l i)) w sh (p : Int) t d wa), B, A3, B4, A5, C6])) rfl ?_
          refine aGo okX3_netLoans 2 (f' := (2, [some (.inr 32), some (.inl ((i : Int) + 1)), some (.inl (net p l i)), some (.inl (p : Int))], [], _)) rfl ?_
          refine b_lose (ls' := [some (.inr 32), some (.inl ((i : Int) + 1)), none, none]) (lose23 _ _ _ _) ?_
          exact ih (i + 1) (m.set i (net p l i)) (by omega) (by rw [List.length_set]; exact h1) (set_upto (by omega) rfl h2)
        | succ j2 ih2 =>
          intro q  hij2 
          refine aGo okX3_netLoans 3 (f' := (19, [some (.inr 32), some (.inl (i : Int)), some (.inl (sumN q (fun j => l.getD (7 * i + j) 0 - l.getD (7 * j + i) 0))), some (.inl (q : Int))], [.inl (p : Int), .inl (q : Int)], _)) rfl ?_
          refine b_ge (tgt := 44) okX3_netLoans rfl rfl ⟨by omega, by omega⟩ ⟨by omega, by omega⟩ (fun h19 => absurd h19 (by omega)) (fun h19 => ?_)
          refine aGo okX3_netLoans 4 (f' := (26, [some (.inr 32), some (.inl (i : Int)), some (.inl (sumN q (fun j => l.getD (7 * i + j) 0 - l.getD (7 * j + i) 0))), some (.inl (q : Int))], [.inl (q : Int), .inl (i : Int), .inr 32, .inl (sumN q (fun j => l.getD (7 * i + j) 0 - l.getD (7 * j + i) 0))], _)) rfl ?_
          refine b_vV (as := [.inl (i : Int), .inl (q : Int)]) (rest := [.inl (sumN q (fun j => l.getD (7 * i + j) 0 - l.getD (7 * j + i) 0))]) (k := 32) (.inl (l.getD (7 * i + q) 0)) okX3_netLoans rfl lkX3_80 caX3_lentBy (Nat.le_of_ble_eq_true rfl) rfl (Nat.le_of_ble_eq_true rfl) rfl rfl rfl (c_lentBy_1 (i := i) (j := q) (by first | omega | (simp only [List.length_set]; omega)) (by omega) (by omega)) ?_
          refine aGo okX3_netLoans 3 (f' := (32, [some (.inr 32), some (.inl (i : Int)), some (.inl (sumN q (fun j => l.getD (7 * i + j) 0 - l.getD (7 * j + i) 0))), some (.inl (q : Int))], [.inl (i : Int), .inl (q : Int), .inr 32, .inl (l.getD (7 * i + q) 0), .inl (sumN q (fun j => l.getD (7 * i + j) 0 - l.getD (7 * j + i) 0))], _)) rfl ?_
          refine b_vV (as := [.inl (q : Int), .inl (i : Int)]) (rest := [.inl (l.getD (7 * i + q) 0), .inl (sumN q (fun j => l.getD (7 * i + j) 0 - l.getD (7 * j + i) 0))]) (k := 32) (.inl (l.getD (7 * q + i) 0)) okX3_netLoans rfl lkX3_80 caX3_lentBy (Nat.le_of_ble_eq_true rfl) rfl (Nat.le_of_ble_eq_true rfl) rfl rfl rfl (c_lentBy_1 (i := q) (j := i) (by first | omega | (simp only [List.length_set]; omega)) (by omega) (by omega)) ?_
          refine aGo okX3_netLoans 5 (f' := (14, [some (.inr 32), some (.inl (i : Int)), some (.inl ((sumN q (fun j => l.getD (7 * i + j) 0 - l.getD (7 * j + i) 0)) + ((l.getD (7 * i + q) 0) - (l.getD (7 * q + i) 0)))), some (.inl ((q : Int) + 1))], [], _)) rfl ?_
          exact ih2 (q + 1) (by omega)
      refine aGo okX3_netLoans 3 (f' := (7, [some (.inr 32), some (.inl (i : Int)), none, none], [.inl (p : Int), .inl (i : Int)], _)) rfl ?_
      refine b_ge (tgt := 59) okX3_netLoans rfl rfl ⟨by omega, by omega⟩ ⟨by omega, by omega⟩ (fun h7 => absurd h7 (by omega)) (fun h7 => ?_)
      refine aGo okX3_netLoans 4 (f' := (14, [some (.inr 32), some (.inl (i : Int)), some (.inl 0), some (.inl 0)], [], _)) rfl ?_
      exact lq p 0 (by omega)
  refine aGo okX3_netLoans 2 (f' := (2, [some (.inr 32), some (.inl 0), none, none], [], _)) rfl ?_
  exact lp p 0 nt (by omega) hnt (fun q hq => by omega)
set_option maxHeartbeats 4000000 in
theorem c_weightNow_1 (hb : wH p k f c w sh t) {i : Nat} (hi : i < p) : aEv mX3_weightNow 2 0 0 N [.inr 32, .inl (i : Int)] [A0, (moSeg 32 k f c n kp l nt w sh (p : Int) t d wa), B, A3, B4, A5, C6] ((aQx (some (.inl (wt p k f c i))) [A0, (moSeg 32 k f c n kp l nt w sh (p : Int) t d wa), B, A3, B4, A5, C6])) := by
  obtain ⟨hp7, hk, hf, hc, hw, hsh, rk, rf, rc, ht0, ht1⟩ := hb
  refine aEv_of okX3_weightNow caX3_weightNow (Nat.le_of_ble_eq_true rfl) ?_
  have lp : ∀ (j q : Nat), q + j = p → AW mX3_weightNow 2 0 0 N none (aQx (some (.inl (wt p k f c i))) [A0, (moSeg 32 k f c n kp l nt w sh (p : Int) t d wa), B, A3, B4, A5, C6]) (8, [some (.inr 32), some (.inl (i : Int)), some (.inl (sumN q (fun q => stp (c.getD i 0) (c.getD q 0)))), some (.inl (near q c i)), some (.inl (q : Int)), none, none], [], [A0, (moSeg 32 k f c n kp l nt w sh (p : Int) t d wa), B, A3, B4, A5, C6]) := by
    intro j
    induction j with
    | zero =>
      intro q  hij 
      obtain rfl : p = q := by omega
      refine aGo okX3_weightNow 3 (f' := (14, [some (.inr 32), some (.inl (i : Int)), some (.inl (sumN p (fun q => stp (c.getD i 0) (c.getD q 0)))), some (.inl (near p c i)), some (.inl (p : Int)), none, none], [.inl (p : Int), .inl (p : Int)], _)) rfl ?_
      refine b_ge (tgt := 63) okX3_weightNow rfl rfl ⟨by omega, by omega⟩ ⟨by omega, by omega⟩ (fun h14 => ?_) (fun h14 => absurd h14 (by omega))
      refine b_cast (f' := (63, [some (.inr 32), some (.inl (i : Int)), some (.inl (far p c i)), some (.inl (near p c i)), some (.inl (p : Int)), none, none], [], [A0, (moSeg 32 k f c n kp l nt w sh (p : Int) t d wa), B, A3, B4, A5, C6])) (rfl) ?_
      have q1 := far_le (p := p) rc i
      have q2 := rf i
      have q3 := rk i
      have q4 := near_le (p := p) rc i
      have q5 : (p : Int) ≤ 7 := by omega
      refine aGo okX3_weightNow 2 (f' := (65, [some (.inr 32), some (.inl (i : Int)), some (.inl (far p c i)), some (.inl (near p c i)), some (.inl (p : Int)), none, none], [.inl (far p c i), .inl 1], _)) rfl ?_
      refine b_max okX3_weightNow rfl lkX3_86 ma_max_s ma_max_c (Nat.le_of_ble_eq_true rfl) (Nat.le_of_ble_eq_true rfl) ⟨by omega, by omega⟩ ⟨by omega, by omega⟩ ?_
      refine aGo okX3_weightNow 5 (f' := (77, [some (.inr 32), some (.inl (i : Int)), some (.inl (far p c i)), some (.inl (near p c i)), some (.inl (max 1 (far p c i))), none, none], [.inl (i : Int), .inr 35, .inl (max 1 (far p c i))], _)) rfl ?_
      refine b_vV (as := [.inl (i : Int)]) (rest := [.inl (max 1 (far p c i))]) (k := 35) (.inl (f.getD i 0)) okX3_weightNow rfl lkX3_65 caX4_at (Nat.le_of_ble_eq_true rfl) rfl (Nat.le_of_ble_eq_true rfl) rfl rfl rfl (c_at (i := i) rfl rfl (by first | omega | (simp only [List.length_set]; omega)) (by omega)) ?_
      refine aGo okX3_weightNow 5 (f' := (87, [some (.inr 32), some (.inl (i : Int)), some (.inl (far p c i)), some (.inl (near p c i)), some (.inl (max 1 (far p c i))), some (.inl ((max 1 (far p c i)) + (f.getD i 0))), none], [.inl 2, .inl (max 1 (far p c i)), .inl 1], _)) rfl ?_
      refine b_div okX3_weightNow rfl ⟨by omega, by omega⟩ ⟨by omega, by omega⟩ ?_
      refine b_max okX3_weightNow rfl lkX3_86 ma_max_s ma_max_c (Nat.le_of_ble_eq_true rfl) (Nat.le_of_ble_eq_true rfl) ⟨by omega, by omega⟩ ⟨by omega, by omega⟩ ?_
      refine aGo okX3_weightNow 4 (f' := (98, [some (.inr 32), some (.inl (i : Int)), some (.inl (far p c i)), some (.inl (near p c i)), some (.inl (max 1 (far p c i))), some (.inl ((max 1 (far p c i)) + (f.getD i 0))), some (.inl (max 1 ((max 1 (far p c i)) / 2)))], [.inl (i : Int), .inr 33], _)) rfl ?_
      refine b_vV (as := [.inl (i : Int)]) (rest := []) (k := 33) (.inl (k.getD i 0)) okX3_weightNow rfl lkX3_65 caX4_at (Nat.le_of_ble_eq_true rfl) rfl (Nat.le_of_ble_eq_true rfl) rfl rfl rfl (c_at (i := i) rfl rfl (by first | omega | (simp only [List.length_set]; omega)) (by omega)) ?_
      have hsx := (six (rk i))
      rcases hsx with hsw | hsw | hsw | hsw | hsw | hsw
      · refine b_cast (f' := (101, [some (.inr 32), some (.inl (i : Int)), some (.inl (far p c i)), some (.inl (near p c i)), some (.inl (max 1 (far p c i))), some (.inl ((max 1 (far p c i)) + (f.getD i 0))), some (.inl (max 1 ((max 1 (far p c i)) / 2)))], [.inl 0], [A0, (moSeg 32 k f c n kp l nt w sh (p : Int) t d wa), B, A3, B4, A5, C6])) (congrArg (fun z : Int => ((101, [some (.inr 32), some (.inl (i : Int)), some (.inl (far p c i)), some (.inl (near p c i)), some (.inl (max 1 (far p c i))), some (.inl ((max 1 (far p c i)) + (f.getD i 0))), some (.inl (max 1 ((max 1 (far p c i)) / 2)))], .inl z :: [], [A0, (moSeg 32 k f c n kp l nt w sh (p : Int) t d wa), B, A3, B4, A5, C6]) : aF)) hsw) ?_
        refine b_swOut (tgt := 178) okX3_weightNow rfl ⟨by decide, by decide⟩ (by decide) rfl ?_
        refine aGo okX3_weightNow 1 (f' := (180, [some (.inr 32), some (.inl (i : Int)), some (.inl (far p c i)), some (.inl (near p c i)), some (.inl (max 1 (far p c i))), some (.inl ((max 1 (far p c i)) + (f.getD i 0))), some (.inl (max 1 ((max 1 (far p c i)) / 2)))], [.inl (max 1 (far p c i))], _)) rfl ?_
        exact b_ret (v := (some (.inl (max 1 (far p c i))))) ⟨rfl, Or.inl rfl⟩ ⟨by rw [wt_0 hsw], rfl⟩ rfl
      · refine b_cast (f' := (101, [some (.inr 32), some (.inl (i : Int)), some (.inl (far p c i)), some (.inl (near p c i)), some (.inl (max 1 (far p c i))), some (.inl ((max 1 (far p c i)) + (f.getD i 0))), some (.inl (max 1 ((max 1 (far p c i)) / 2)))], [.inl 1], [A0, (moSeg 32 k f c n kp l nt w sh (p : Int) t d wa), B, A3, B4, A5, C6])) (congrArg (fun z : Int => ((101, [some (.inr 32), some (.inl (i : Int)), some (.inl (far p c i)), some (.inl (near p c i)), some (.inl (max 1 (far p c i))), some (.inl ((max 1 (far p c i)) + (f.getD i 0))), some (.inl (max 1 ((max 1 (far p c i)) / 2)))], .inl z :: [], [A0, (moSeg 32 k f c n kp l nt w sh (p : Int) t d wa), B, A3, B4, A5, C6]) : aF)) hsw) ?_
        refine b_swIn (tgt := 136) okX3_weightNow rfl ⟨by decide, by decide⟩ (by decide) (by decide) rfl rfl ?_
        refine aGo okX3_weightNow 1 (f' := (138, [some (.inr 32), some (.inl (i : Int)), some (.inl (far p c i)), some (.inl (near p c i)), some (.inl (max 1 (far p c i))), some (.inl ((max 1 (far p c i)) + (f.getD i 0))), some (.inl (max 1 ((max 1 (far p c i)) / 2)))], [.inl ((max 1 (far p c i)) + (f.getD i 0))], _)) rfl ?_
        exact b_ret (v := (some (.inl ((max 1 (far p c i)) + (f.getD i 0))))) ⟨rfl, Or.inl rfl⟩ ⟨by rw [wt_1 hsw], rfl⟩ rfl
      · refine b_cast (f' := (101, [some (.inr 32), some (.inl (i : Int)), some (.inl (far p c i)), some (.inl (near p c i)), some (.inl (max 1 (far p c i))), some (.inl ((max 1 (far p c i)) + (f.getD i 0))), some (.inl (max 1 ((max 1 (far p c i)) / 2)))], [.inl 2], [A0, (moSeg 32 k f c n kp l nt w sh (p : Int) t d wa), B, A3, B4, A5, C6])) (congrArg (fun z : Int => ((101, [some (.inr 32), some (.inl (i : Int)), some (.inl (far p c i)), some (.inl (near p c i)), some (.inl (max 1 (far p c i))), some (.inl ((max 1 (far p c i)) + (f.getD i 0))), some (.inl (max 1 ((max 1 (far p c i)) / 2)))], .inl z :: [], [A0, (moSeg 32 k f c n kp l nt w sh (p : Int) t d wa), B, A3, B4, A5, C6]) : aF)) hsw) ?_
        refine b_swIn (tgt := 139) okX3_weightNow rfl ⟨by decide, by decide⟩ (by decide) (by decide) rfl rfl ?_
        refine aGo okX3_weightNow 3 (f' := (143, [some (.inr 32), some (.inl (i : Int)), some (.inl (far p c i)), some (.inl (near p c i)), some (.inl (max 1 (far p c i))), some (.inl ((max 1 (far p c i)) + (f.getD i 0))), some (.inl (max 1 ((max 1 (far p c i)) / 2)))], [.inl (2 * (max 1 (far p c i)))], _)) rfl ?_
        exact b_ret (v := (some (.inl (2 * (max 1 (far p c i)))))) ⟨rfl, Or.inl rfl⟩ ⟨by rw [wt_2 hsw], rfl⟩ rfl
      · refine b_cast (f' := (101, [some (.inr 32), some (.inl (i : Int)), some (.inl (far p c i)), some (.inl (near p c i)), some (.inl (max 1 (far p c i))), some (.inl ((max 1 (far p c i)) + (f.getD i 0))), some (.inl (max 1 ((max 1 (far p c i)) / 2)))], [.inl 3], [A0, (moSeg 32 k f c n kp l nt w sh (p : Int) t d wa), B, A3, B4, A5, C6])) (congrArg (fun z : Int => ((101, [some (.inr 32), some (.inl (i : Int)), some (.inl (far p c i)), some (.inl (near p c i)), some (.inl (max 1 (far p c i))), some (.inl ((max 1 (far p c i)) + (f.getD i 0))), some (.inl (max 1 ((max 1 (far p c i)) / 2)))], .inl z :: [], [A0, (moSeg 32 k f c n kp l nt w sh (p : Int) t d wa), B, A3, B4, A5, C6]) : aF)) hsw) ?_
        refine b_swIn (tgt := 144) okX3_weightNow rfl ⟨by decide, by decide⟩ (by decide) (by decide) rfl rfl ?_
        refine aGo okX3_weightNow 1 (f' := (146, [some (.inr 32), some (.inl (i : Int)), some (.inl (far p c i)), some (.inl (near p c i)), some (.inl (max 1 (far p c i))), some (.inl ((max 1 (far p c i)) + (f.getD i 0))), some (.inl (max 1 ((max 1 (far p c i)) / 2)))], [.inl (max 1 ((max 1 (far p c i)) / 2))], _)) rfl ?_
        exact b_ret (v := (some (.inl (max 1 ((max 1 (far p c i)) / 2))))) ⟨rfl, Or.inl rfl⟩ ⟨by rw [wt_3 hsw], rfl⟩ rfl
      · refine b_cast (f' := (101, [some (.inr 32), some (.inl (i : Int)), some (.inl (far p c i)), some (.inl (near p c i)), some (.inl (max 1 (far p c i))), some (.inl ((max 1 (far p c i)) + (f.getD i 0))), some (.inl (max 1 ((max 1 (far p c i)) / 2)))], [.inl 4], [A0, (moSeg 32 k f c n kp l nt w sh (p : Int) t d wa), B, A3, B4, A5, C6])) (congrArg (fun z : Int => ((101, [some (.inr 32), some (.inl (i : Int)), some (.inl (far p c i)), some (.inl (near p c i)), some (.inl (max 1 (far p c i))), some (.inl ((max 1 (far p c i)) + (f.getD i 0))), some (.inl (max 1 ((max 1 (far p c i)) / 2)))], .inl z :: [], [A0, (moSeg 32 k f c n kp l nt w sh (p : Int) t d wa), B, A3, B4, A5, C6]) : aF)) hsw) ?_
        refine b_swIn (tgt := 147) okX3_weightNow rfl ⟨by decide, by decide⟩ (by decide) (by decide) rfl rfl ?_
        refine aGo okX3_weightNow 2 (f' := (149, [some (.inr 32), some (.inl (i : Int)), some (.inl (far p c i)), some (.inl (near p c i)), some (.inl (max 1 (far p c i))), some (.inl ((max 1 (far p c i)) + (f.getD i 0))), some (.inl (max 1 ((max 1 (far p c i)) / 2)))], [.inl 3, .inl (near p c i)], _)) rfl ?_
        refine b_ge (tgt := 157) okX3_weightNow rfl rfl ⟨by omega, by omega⟩ ⟨by omega, by omega⟩ (fun h149 => ?_) (fun h149 => ?_)
        · refine aGo okX3_weightNow 3 (f' := (161, [some (.inr 32), some (.inl (i : Int)), some (.inl (far p c i)), some (.inl (near p c i)), some (.inl (max 1 (far p c i))), some (.inl ((max 1 (far p c i)) + (f.getD i 0))), some (.inl (max 1 ((max 1 (far p c i)) / 2)))], [.inl (((max 1 (far p c i)) + (f.getD i 0)) + 5)], _)) rfl ?_
          exact b_ret (v := (some (.inl (((max 1 (far p c i)) + (f.getD i 0)) + 5)))) ⟨rfl, Or.inl rfl⟩ ⟨by rw [wt_4f hsw (by omega)], rfl⟩ rfl
        · refine aGo okX3_weightNow 2 (f' := (161, [some (.inr 32), some (.inl (i : Int)), some (.inl (far p c i)), some (.inl (near p c i)), some (.inl (max 1 (far p c i))), some (.inl ((max 1 (far p c i)) + (f.getD i 0))), some (.inl (max 1 ((max 1 (far p c i)) / 2)))], [.inl ((max 1 (far p c i)) + (f.getD i 0))], _)) rfl ?_
          exact b_ret (v := (some (.inl ((max 1 (far p c i)) + (f.getD i 0))))) ⟨rfl, Or.inl rfl⟩ ⟨by rw [wt_4t hsw (by omega)], rfl⟩ rfl
      · refine b_cast (f' := (101, [some (.inr 32), some (.inl (i : Int)), some (.inl (far p c i)), some (.inl (near p c i)), some (.inl (max 1 (far p c i))), some (.inl ((max 1 (far p c i)) + (f.getD i 0))), some (.inl (max 1 ((max 1 (far p c i)) / 2)))], [.inl 5], [A0, (moSeg 32 k f c n kp l nt w sh (p : Int) t d wa), B, A3, B4, A5, C6])) (congrArg (fun z : Int => ((101, [some (.inr 32), some (.inl (i : Int)), some (.inl (far p c i)), some (.inl (near p c i)), some (.inl (max 1 (far p c i))), some (.inl ((max 1 (far p c i)) + (f.getD i 0))), some (.inl (max 1 ((max 1 (far p c i)) / 2)))], .inl z :: [], [A0, (moSeg 32 k f c n kp l nt w sh (p : Int) t d wa), B, A3, B4, A5, C6]) : aF)) hsw) ?_
        refine b_swIn (tgt := 162) okX3_weightNow rfl ⟨by decide, by decide⟩ (by decide) (by decide) rfl rfl ?_
        refine aGo okX3_weightNow 5 (f' := (170, [some (.inr 32), some (.inl (i : Int)), some (.inl (far p c i)), some (.inl (near p c i)), some (.inl (max 1 (far p c i))), some (.inl ((max 1 (far p c i)) + (f.getD i 0))), some (.inl (max 1 ((max 1 (far p c i)) / 2)))], [.inl (i : Int), .inr 35, .inl (max 1 ((max 1 (far p c i)) / 2)), .inl 1], _)) rfl ?_
        refine b_vV (as := [.inl (i : Int)]) (rest := [.inl (max 1 ((max 1 (far p c i)) / 2)), .inl 1]) (k := 35) (.inl (f.getD i 0)) okX3_weightNow rfl lkX3_65 caX4_at (Nat.le_of_ble_eq_true rfl) rfl (Nat.le_of_ble_eq_true rfl) rfl rfl rfl (c_at (i := i) rfl rfl (by first | omega | (simp only [List.length_set]; omega)) (by omega)) ?_
        refine aGo okX3_weightNow 1 (f' := (174, [some (.inr 32), some (.inl (i : Int)), some (.inl (far p c i)), some (.inl (near p c i)), some (.inl (max 1 (far p c i))), some (.inl ((max 1 (far p c i)) + (f.getD i 0))), some (.inl (max 1 ((max 1 (far p c i)) / 2)))], [.inl ((max 1 ((max 1 (far p c i)) / 2)) - (f.getD i 0)), .inl 1], _)) rfl ?_
        refine b_max okX3_weightNow rfl lkX3_86 ma_max_s ma_max_c (Nat.le_of_ble_eq_true rfl) (Nat.le_of_ble_eq_true rfl) ⟨by omega, by omega⟩ ⟨by omega, by omega⟩ ?_
        exact b_ret (v := (some (.inl (max 1 ((max 1 ((max 1 (far p c i)) / 2)) - (f.getD i 0)))))) ⟨rfl, Or.inl rfl⟩ ⟨by rw [wt_5 hsw], rfl⟩ rfl
    | succ j ih =>
      intro q  hij 
      have q1 := rc i
      have q2 := rc q
      have q3 := far_le (p := q) rc i
      have q4 := near_le (p := q) rc i
      have q5 := stp_le (rc i) (rc q)
      unfold far at q3
      refine aGo okX3_weightNow 3 (f' := (14, [some (.inr 32), some (.inl (i : Int)), some (.inl (sumN q (fun q => stp (c.getD i 0) (c.getD q 0)))), some (.inl (near q c i)), some (.inl (q : Int)), none, none], [.inl (p : Int), .inl (q : Int)], _)) rfl ?_
      refine b_ge (tgt := 63) okX3_weightNow rfl rfl ⟨by omega, by omega⟩ ⟨by omega, by omega⟩ (fun h14 => absurd h14 (by omega)) (fun h14 => ?_)
      refine aGo okX3_weightNow 2 (f' := (20, [some (.inr 32), some (.inl (i : Int)), some (.inl (sumN q (fun q => stp (c.getD i 0) (c.getD q 0)))), some (.inl (near q c i)), some (.inl (q : Int)), none, none], [.inl (i : Int), .inl (q : Int)], _)) rfl ?_
      refine b_eq (tgt := 57) okX3_weightNow rfl rfl ⟨by omega, by omega⟩ ⟨by omega, by omega⟩ (fun h20 => ?_) (fun h20 => ?_)
      · have hqi : q = i := by omega
        refine aGo okX3_weightNow 2 (f' := (8, [some (.inr 32), some (.inl (i : Int)), some (.inl (sumN q (fun q => stp (c.getD i 0) (c.getD q 0)))), some (.inl (near q c i)), some (.inl ((q : Int) + 1)), none, none], [], _)) rfl ?_
        refine b_cast (f' := (8, [some (.inr 32), some (.inl (i : Int)), some (.inl (sumN (q + 1) (fun q => stp (c.getD i 0) (c.getD q 0)))), some (.inl (near (q + 1) c i)), some (.inl ((q : Int) + 1)), none, none], [], [A0, (moSeg 32 k f c n kp l nt w sh (p : Int) t d wa), B, A3, B4, A5, C6])) (by simp only [sumN, near]; rw [if_pos hqi, hqi, stp_self, Int.add_zero]) ?_
        exact ih (q + 1) (by omega)
      · refine aGo okX3_weightNow 3 (f' := (28, [some (.inr 32), some (.inl (i : Int)), some (.inl (sumN q (fun q => stp (c.getD i 0) (c.getD q 0)))), some (.inl (near q c i)), some (.inl (q : Int)), none, none], [.inl (i : Int), .inr 37], _)) rfl ?_
        refine b_vV (as := [.inl (i : Int)]) (rest := []) (k := 37) (.inl (c.getD i 0)) okX3_weightNow rfl lkX3_65 caX4_at (Nat.le_of_ble_eq_true rfl) rfl (Nat.le_of_ble_eq_true rfl) rfl rfl rfl (c_at (i := i) rfl rfl (by first | omega | (simp only [List.length_set]; omega)) (by omega)) ?_
        refine aGo okX3_weightNow 3 (f' := (37, [some (.inr 32), some (.inl (i : Int)), some (.inl (sumN q (fun q => stp (c.getD i 0) (c.getD q 0)))), some (.inl (near q c i)), some (.inl (q : Int)), none, none], [.inl (q : Int), .inr 37, .inl (c.getD i 0)], _)) rfl ?_
        refine b_vV (as := [.inl (q : Int)]) (rest := [.inl (c.getD i 0)]) (k := 37) (.inl (c.getD q 0)) okX3_weightNow rfl lkX3_65 caX4_at (Nat.le_of_ble_eq_true rfl) rfl (Nat.le_of_ble_eq_true rfl) rfl rfl rfl (c_at (i := q) rfl rfl (by first | omega | (simp only [List.length_set]; omega)) (by omega)) ?_
        refine b_vT (as := [.inl (c.getD i 0), .inl (c.getD q 0)]) (rest := []) (.inl (stp (c.getD i 0) (c.getD q 0))) okX3_weightNow rfl lkX3_69 caX7_steps (Nat.le_of_ble_eq_true rfl) rfl (Nat.le_of_ble_eq_true rfl) rfl (c_steps ⟨by omega, by omega⟩ ⟨by omega, by omega⟩) ?_
        refine aGo okX3_weightNow 7 (f' := (53, [some (.inr 32), some (.inl (i : Int)), some (.inl ((sumN q (fun q => stp (c.getD i 0) (c.getD q 0))) + (stp (c.getD i 0) (c.getD q 0)))), some (.inl (near q c i)), some (.inl (q : Int)), some (.inl (stp (c.getD i 0) (c.getD q 0))), none], [.inl (stp (c.getD i 0) (c.getD q 0)), .inl (near q c i)], _)) rfl ?_
        refine b_min okX3_weightNow rfl lkX3_112 ma_min_s ma_min_c (Nat.le_of_ble_eq_true rfl) (Nat.le_of_ble_eq_true rfl) ⟨by omega, by omega⟩ ⟨by omega, by omega⟩ ?_
        refine aGo okX3_weightNow 1 (f' := (57, [some (.inr 32), some (.inl (i : Int)), some (.inl ((sumN q (fun q => stp (c.getD i 0) (c.getD q 0))) + (stp (c.getD i 0) (c.getD q 0)))), some (.inl (min (near q c i) (stp (c.getD i 0) (c.getD q 0)))), some (.inl (q : Int)), some (.inl (stp (c.getD i 0) (c.getD q 0))), none], [], _)) rfl ?_
        have hqi : ¬ q = i := by omega
        refine aGo okX3_weightNow 2 (f' := (8, [some (.inr 32), some (.inl (i : Int)), some (.inl ((sumN q (fun q => stp (c.getD i 0) (c.getD q 0))) + (stp (c.getD i 0) (c.getD q 0)))), some (.inl (min (near q c i) (stp (c.getD i 0) (c.getD q 0)))), some (.inl ((q : Int) + 1)), some (.inl (stp (c.getD i 0) (c.getD q 0))), none], [], _)) rfl ?_
        refine b_cast (f' := (8, [some (.inr 32), some (.inl (i : Int)), some (.inl (sumN (q + 1) (fun q => stp (c.getD i 0) (c.getD q 0)))), some (.inl (near (q + 1) c i)), some (.inl ((q : Int) + 1)), some (.inl (stp (c.getD i 0) (c.getD q 0))), none], [], [A0, (moSeg 32 k f c n kp l nt w sh (p : Int) t d wa), B, A3, B4, A5, C6])) (by simp only [sumN, near]; rw [if_neg hqi]) ?_
        refine b_lose (ls' := [some (.inr 32), some (.inl (i : Int)), some (.inl (sumN (q + 1) (fun q => stp (c.getD i 0) (c.getD q 0)))), some (.inl (near (q + 1) c i)), some (.inl ((q : Int) + 1)), none, none]) (lose5g _ _ _ _ _ _ _) ?_
        exact ih (q + 1) (by omega)
  refine aGo okX3_weightNow 6 (f' := (8, [some (.inr 32), some (.inl (i : Int)), some (.inl 0), some (.inl 10), some (.inl 0), none, none], [], _)) rfl ?_
  exact lp p 0 (by omega)
set_option maxHeartbeats 4000000 in
theorem c_shareOut_1 {W : Nat → Int} (hp : p ≤ 7) (hsh : sh.length = 7) (hwl : w.length = 7) (ht : 0 ≤ t ∧ t ≤ 999) (hw : ∀ q, q < p → w.getD q 0 = W q) (hW : ∀ q, q < p → 1 ≤ W q ∧ W q ≤ 200) (hwa : wa = sumN p W) : aEv mX3_shareOut 1 0 0 N [.inr 32] [A0, (moSeg 32 k f c n kp l nt w sh (p : Int) t d wa), B, A3, B4, A5, C6] ((fun rv h => rv = none ∧ ∃ sh2 : List Int, sh2.length = 7 ∧ (∀ q, q < p → sh2.getD q 0 = shrS p W t q) ∧ h = [A0, (moSeg 32 k f c n kp l nt w sh2 (p : Int) t d wa), B, A3, B4, A5, C6])) := by
  have hlef : 0 < p → 0 ≤ lefS p W t ∧ lefS p W t < p := fun z => lefS_le z (fun q hq => (hW q hq).1)
  refine aEv_of okX3_shareOut caX3_shareOut (Nat.le_of_ble_eq_true rfl) ?_
  have l2 : ∀ (j i : Nat) (m : List Int), i + j = p → (m.length = 7) → (∀ q, q < i → m.getD q 0 = shrS p W t q) → (∀ q, i ≤ q → q < p → m.getD q 0 = cutS p W t q) → AW mX3_shareOut 1 0 0 N none (fun rv h => rv = none ∧ ∃ sh2 : List Int, sh2.length = 7 ∧ (∀ q, q < p → sh2.getD q 0 = shrS p W t q) ∧ h = [A0, (moSeg 32 k f c n kp l nt w sh2 (p : Int) t d wa), B, A3, B4, A5, C6]) (66, [some (.inr 32), some (.inl (lefS p W t)), some (.inl (i : Int)), none], [], [A0, (moSeg 32 k f c n kp l nt w m (p : Int) t d wa), B, A3, B4, A5, C6]) := by
    intro j
    induction j with
    | zero =>
      intro i m hij h1 h2 h3
      obtain rfl : p = i := by omega
      refine aGo okX3_shareOut 3 (f' := (71, [some (.inr 32), some (.inl (lefS p W t)), some (.inl (p : Int)), none], [.inl (p : Int), .inl (p : Int)], _)) rfl ?_
      refine b_ge (tgt := 103) okX3_shareOut rfl rfl ⟨by omega, by omega⟩ ⟨by omega, by omega⟩ (fun h71 => ?_) (fun h71 => absurd h71 (by omega))
      exact b_ret (v := none) ⟨rfl, rfl⟩ ⟨rfl, m, h1, fun q hq => h2 q hq, rfl⟩ rfl
    | succ j ih =>
      intro i m hij h1 h2 h3
      have q1 := hlef (by omega)
      have q2 := h3 i (Nat.le_refl i) (by omega)
      have q3 := cutS_le ht.1 (fun q hq => (hW q hq).1) (show i < p by omega)
      refine aGo okX3_shareOut 3 (f' := (71, [some (.inr 32), some (.inl (lefS p W t)), some (.inl (i : Int)), none], [.inl (p : Int), .inl (i : Int)], _)) rfl ?_
      refine b_ge (tgt := 103) okX3_shareOut rfl rfl ⟨by omega, by omega⟩ ⟨by omega, by omega⟩ (fun h71 => absurd h71 (by omega)) (fun h71 => ?_)
      refine aGo okX3_shareOut 2 (f' := (76, [some (.inr 32), some (.inl (lefS p W t)), some (.inl (i : Int)), none], [.inl (lefS p W t), .inl (i : Int)], _)) rfl ?_
      refine b_ge (tgt := 103) okX3_shareOut rfl rfl ⟨by omega, by omega⟩ ⟨by omega, by omega⟩ (fun h76 => ?_) (fun h76 => ?_)
      · exact b_ret (v := none) ⟨rfl, rfl⟩ ⟨rfl, m, h1, shrS_end (by omega) h2 h3, rfl⟩ rfl
      · refine aGo okX3_shareOut 6 (f' := (89, [some (.inr 32), some (.inl (lefS p W t)), some (.inl (i : Int)), none], [.inl (i : Int), .inr 49, .inl (i : Int), .inr 49], _)) rfl ?_
        refine b_vV (as := [.inl (i : Int)]) (rest := [.inl (i : Int), .inr 49]) (k := 49) (.inl (m.getD i 0)) okX3_shareOut rfl lkX3_65 caX4_at (Nat.le_of_ble_eq_true rfl) rfl (Nat.le_of_ble_eq_true rfl) rfl rfl rfl (c_at (i := i) rfl rfl (by first | omega | (simp only [List.length_set]; omega)) (by omega)) ?_
        refine aGo okX3_shareOut 2 (f' := (94, [some (.inr 32), some (.inl (lefS p W t)), some (.inl (i : Int)), none], [.inl ((m.getD i 0) + 1), .inl (i : Int), .inr 49], _)) rfl ?_
        refine b_vN (as := [.inl (i : Int), .inl ((m.getD i 0) + 1)]) (rest := []) (k := 49) okX3_shareOut rfl lkX3_98 caX4_put (Nat.le_of_ble_eq_true rfl) rfl (Nat.le_of_ble_eq_true rfl) rfl rfl rfl (c_put (i := i) rfl rfl (by first | omega | (simp only [List.length_set]; omega)) (by first | omega | (simp only [List.length_set]; omega)) ((m.getD i 0) + 1)) ?_
        refine b_cast (f' := (97, [some (.inr 32), some (.inl (lefS p W t)), some (.inl (i : Int)), none], [], [A0, (moSeg 32 k f c n kp l nt w (m.set i ((m.getD i 0) + 1)) (p : Int) t d wa), B, A3, B4, A5, C6])) rfl ?_
        refine aGo okX3_shareOut 2 (f' := (66, [some (.inr 32), some (.inl (lefS p W t)), some (.inl ((i : Int) + 1)), none], [], _)) rfl ?_
        exact ih (i + 1) (m.set i (m.getD i 0 + 1)) (by omega) (by rw [List.length_set]; exact h1) (set_upto (by omega) (by rw [q2, shrS_in (by omega)]) h2) (fun q hq1 hq2 => by rw [getD_set_ne (by omega)]; exact h3 q (by omega) hq2)
  have l1 : ∀ (j i : Nat) (m : List Int), i + j = p → (m.length = 7) → (∀ q, q < i → m.getD q 0 = cutS p W t q) → AW mX3_shareOut 1 0 0 N none (fun rv h => rv = none ∧ ∃ sh2 : List Int, sh2.length = 7 ∧ (∀ q, q < p → sh2.getD q 0 = shrS p W t q) ∧ h = [A0, (moSeg 32 k f c n kp l nt w sh2 (p : Int) t d wa), B, A3, B4, A5, C6]) (7, [some (.inr 32), some (.inl (t - sumN i (cutS p W t))), some (.inl (i : Int)), none], [], [A0, (moSeg 32 k f c n kp l nt w m (p : Int) t d wa), B, A3, B4, A5, C6]) := by
    intro j
    induction j with
    | zero =>
      intro i m hij h1 h2
      obtain rfl : p = i := by omega
      refine aGo okX3_shareOut 3 (f' := (12, [some (.inr 32), some (.inl (t - sumN p (cutS p W t))), some (.inl (p : Int)), none], [.inl (p : Int), .inl (p : Int)], _)) rfl ?_
      refine b_ge (tgt := 64) okX3_shareOut rfl rfl ⟨by omega, by omega⟩ ⟨by omega, by omega⟩ (fun h12 => ?_) (fun h12 => absurd h12 (by omega))
      refine b_cast (f' := (64, [some (.inr 32), some (.inl (lefS p W t)), some (.inl (p : Int)), none], [], [A0, (moSeg 32 k f c n kp l nt w m (p : Int) t d wa), B, A3, B4, A5, C6])) (rfl) ?_
      refine aGo okX3_shareOut 2 (f' := (66, [some (.inr 32), some (.inl (lefS p W t)), some (.inl 0), none], [], _)) rfl ?_
      exact l2 p 0 m (by omega) h1 (fun q hq => by omega) (fun q _ hq => h2 q hq)
    | succ j ih =>
      intro i m hij h1 h2
      have q1 := hw i (by omega)
      have q2 := hW i (by omega)
      have q3 := sum_pos (p := p) (w := W) (by omega) (fun q hq => (hW q hq).1)
      have q4 := mulB ht q2
      rw [← q1] at q4
      have q5 := sumN_le (n := p) (F := W) (b := 200) (fun q hq => (hW q hq).2)
      refine aGo okX3_shareOut 3 (f' := (12, [some (.inr 32), some (.inl (t - sumN i (cutS p W t))), some (.inl (i : Int)), none], [.inl (p : Int), .inl (i : Int)], _)) rfl ?_
      refine b_ge (tgt := 64) okX3_shareOut rfl rfl ⟨by omega, by omega⟩ ⟨by omega, by omega⟩ (fun h12 => absurd h12 (by omega)) (fun h12 => ?_)
      refine aGo okX3_shareOut 2 (f' := (19, [some (.inr 32), some (.inl (t - sumN i (cutS p W t))), some (.inl (i : Int)), none], [.inl wa], _)) rfl ?_
      refine b0_le (tgt := 43) okX3_shareOut rfl rfl ⟨by omega, by omega⟩ (fun h19 => absurd h19 (by omega)) (fun h19 => ?_)
      refine aGo okX3_shareOut 5 (f' := (31, [some (.inr 32), some (.inl (t - sumN i (cutS p W t))), some (.inl (i : Int)), none], [.inl (i : Int), .inr 47, .inl t], _)) rfl ?_
      refine b_vV (as := [.inl (i : Int)]) (rest := [.inl t]) (k := 47) (.inl (w.getD i 0)) okX3_shareOut rfl lkX3_65 caX4_at (Nat.le_of_ble_eq_true rfl) rfl (Nat.le_of_ble_eq_true rfl) rfl rfl rfl (c_at (i := i) rfl rfl (by first | omega | (simp only [List.length_set]; omega)) (by omega)) ?_
      refine aGo okX3_shareOut 3 (f' := (39, [some (.inr 32), some (.inl (t - sumN i (cutS p W t))), some (.inl (i : Int)), none], [.inl wa, .inl (t * (w.getD i 0))], _)) rfl ?_
      refine b_div okX3_shareOut rfl ⟨by omega, by omega⟩ ⟨by omega, by omega⟩ ?_
      refine aGo okX3_shareOut 1 (f' := (44, [some (.inr 32), some (.inl (t - sumN i (cutS p W t))), some (.inl (i : Int)), none], [.inl ((t * (w.getD i 0)) / wa)], _)) rfl ?_
      refine b_cast (f' := (44, [some (.inr 32), some (.inl (t - sumN i (cutS p W t))), some (.inl (i : Int)), none], [.inl (cutS p W t i)], [A0, (moSeg 32 k f c n kp l nt w m (p : Int) t d wa), B, A3, B4, A5, C6])) (by unfold cutS; rw [q1, hwa]) ?_
      refine aGo okX3_shareOut 5 (f' := (51, [some (.inr 32), some (.inl (t - sumN i (cutS p W t))), some (.inl (i : Int)), some (.inl (cutS p W t i))], [.inl (cutS p W t i), .inl (i : Int), .inr 49], _)) rfl ?_
      refine b_vN (as := [.inl (i : Int), .inl (cutS p W t i)]) (rest := []) (k := 49) okX3_shareOut rfl lkX3_98 caX4_put (Nat.le_of_ble_eq_true rfl) rfl (Nat.le_of_ble_eq_true rfl) rfl rfl rfl (c_put (i := i) rfl rfl (by first | omega | (simp only [List.length_set]; omega)) (by first | omega | (simp only [List.length_set]; omega)) (cutS p W t i)) ?_
      refine b_cast (f' := (54, [some (.inr 32), some (.inl (t - sumN i (cutS p W t))), some (.inl (i : Int)), some (.inl (cutS p W t i))], [], [A0, (moSeg 32 k f c n kp l nt w (m.set i (cutS p W t i)) (p : Int) t d wa), B, A3, B4, A5, C6])) rfl ?_
      refine aGo okX3_shareOut 6 (f' := (7, [some (.inr 32), some (.inl ((t - sumN i (cutS p W t)) - (cutS p W t i))), some (.inl ((i : Int) + 1)), some (.inl (cutS p W t i))], [], _)) rfl ?_
      refine b_cast (f' := (7, [some (.inr 32), some (.inl (t - sumN (i + 1) (cutS p W t))), some (.inl ((i : Int) + 1)), some (.inl (cutS p W t i))], [], [A0, (moSeg 32 k f c n kp l nt w (m.set i (cutS p W t i)) (p : Int) t d wa), B, A3, B4, A5, C6])) (by simp only [sumN]; rw [show t - sumN i (cutS p W t) - cutS p W t i = t - (sumN i (cutS p W t) + cutS p W t i) by omega]) ?_
      refine b_lose (ls' := [some (.inr 32), some (.inl (t - sumN (i + 1) (cutS p W t))), some (.inl ((i : Int) + 1)), none]) (lose3 _ _ _ _) ?_
      exact ih (i + 1) (m.set i (cutS p W t i)) (by omega) (by rw [List.length_set]; exact h1) (set_upto (by omega) rfl h2)
  refine aGo okX3_shareOut 5 (f' := (7, [some (.inr 32), some (.inl t), some (.inl 0), none], [], _)) rfl ?_
  refine b_cast (f' := (7, [some (.inr 32), some (.inl (t - sumN 0 (cutS p W t))), some (.inl 0), none], [], [A0, (moSeg 32 k f c n kp l nt w sh (p : Int) t d wa), B, A3, B4, A5, C6])) (by simp only [sumN]; rw [Int.sub_zero]) ?_
  exact l1 p 0 sh (by omega) hsh (fun q hq => by omega)
set_option maxHeartbeats 4000000 in
theorem c_weigh_1 (hb : wH p k f c w sh t) : aEv mX3_weigh 3 0 0 N [.inr 32] [A0, (moSeg 32 k f c n kp l nt w sh (p : Int) t d wa), B, A3, B4, A5, C6] ((fun rv h => rv = none ∧ ∃ w2 sh2 : List Int, wOK p k f c w2 (wAll p k f c) ∧ sOK p k f c sh2 t ∧ h = [A0, (moSeg 32 k f c n kp l nt w2 sh2 (p : Int) t d (wAll p k f c)), B, A3, B4, A5, C6])) := by
  obtain ⟨hp7, hk, hf, hc, hw, hsh, rk, rf, rc, ht0, ht1⟩ := hb
  refine aEv_of okX3_weigh caX3_weigh (Nat.le_of_ble_eq_true rfl) ?_
  have lp : ∀ (j i : Nat) (m : List Int), i + j = p → (m.length = 7) → (∀ q, q < i → m.getD q 0 = wt p k f c q) → AW mX3_weigh 3 0 0 N none (fun rv h => rv = none ∧ ∃ w2 sh2 : List Int, wOK p k f c w2 (wAll p k f c) ∧ sOK p k f c sh2 t ∧ h = [A0, (moSeg 32 k f c n kp l nt w2 sh2 (p : Int) t d (wAll p k f c)), B, A3, B4, A5, C6]) (7, [some (.inr 32), some (.inl (i : Int)), none], [], [A0, (moSeg 32 k f c n kp l nt m sh (p : Int) t d (sumN i (wt p k f c))), B, A3, B4, A5, C6]) := by
    intro j
    induction j with
    | zero =>
      intro i m hij h1 h2
      obtain rfl : p = i := by omega
      refine aGo okX3_weigh 3 (f' := (12, [some (.inr 32), some (.inl (p : Int)), none], [.inl (p : Int), .inl (p : Int)], _)) rfl ?_
      refine b_ge (tgt := 46) okX3_weigh rfl rfl ⟨by omega, by omega⟩ ⟨by omega, by omega⟩ (fun h12 => ?_) (fun h12 => absurd h12 (by omega))
      refine aGo okX3_weigh 1 (f' := (47, [some (.inr 32), some (.inl (p : Int)), none], [.inr 32], _)) rfl ?_
      refine b_vE (as := []) (rest := []) (k := 32) okX3_weigh rfl lkX3_95 caX3_shareOut (Nat.le_of_ble_eq_true rfl) rfl (Nat.le_of_ble_eq_true rfl) rfl rfl rfl (c_shareOut_1 (W := wt p k f c) hp7 hsh h1 ⟨ht0, ht1⟩ h2 (fun q hq => wt_le hp7 rf rc q) rfl) ?_
      rintro _ _ ⟨rfl, sh2, z1, z2, rfl⟩
      exact b_ret (v := none) ⟨rfl, rfl⟩ ⟨rfl, m, sh2, ⟨h1, h2, rfl⟩, ⟨z1, z2⟩, rfl⟩ rfl
    | succ j ih =>
      intro i m hij h1 h2
      refine aGo okX3_weigh 3 (f' := (12, [some (.inr 32), some (.inl (i : Int)), none], [.inl (p : Int), .inl (i : Int)], _)) rfl ?_
      refine b_ge (tgt := 46) okX3_weigh rfl rfl ⟨by omega, by omega⟩ ⟨by omega, by omega⟩ (fun h12 => absurd h12 (by omega)) (fun h12 => ?_)
      refine aGo okX3_weigh 2 (f' := (17, [some (.inr 32), some (.inl (i : Int)), none], [.inl (i : Int), .inr 32], _)) rfl ?_
      refine b_vV (as := [.inl (i : Int)]) (rest := []) (k := 32) (.inl (wt p k f c i)) okX3_weigh rfl lkX3_115 caX3_weightNow (Nat.le_of_ble_eq_true rfl) rfl (Nat.le_of_ble_eq_true rfl) rfl rfl rfl (c_weightNow_1 ⟨hp7, hk, hf, hc, h1, hsh, rk, rf, rc, ht0, ht1⟩ (i := i) (by omega)) ?_
      refine aGo okX3_weigh 5 (f' := (27, [some (.inr 32), some (.inl (i : Int)), some (.inl (wt p k f c i))], [.inl (wt p k f c i), .inl (i : Int), .inr 47], _)) rfl ?_
      refine b_vN (as := [.inl (i : Int), .inl (wt p k f c i)]) (rest := []) (k := 47) okX3_weigh rfl lkX3_98 caX4_put (Nat.le_of_ble_eq_true rfl) rfl (Nat.le_of_ble_eq_true rfl) rfl rfl rfl (c_put (i := i) rfl rfl (by first | omega | (simp only [List.length_set]; omega)) (by first | omega | (simp only [List.length_set]; omega)) (wt p k f c i)) ?_
      refine b_cast (f' := (30, [some (.inr 32), some (.inl (i : Int)), some (.inl (wt p k f c i))], [], [A0, (moSeg 32 k f c n kp l nt (m.set i (wt p k f c i)) sh (p : Int) t d (sumN i (wt p k f c))), B, A3, B4, A5, C6])) rfl ?_
      refine aGo okX3_weigh 8 (f' := (7, [some (.inr 32), some (.inl ((i : Int) + 1)), some (.inl (wt p k f c i))], [], [A0, (moSeg 32 k f c n kp l nt (m.set i (wt p k f c i)) sh (p : Int) t d ((sumN i (wt p k f c)) + (wt p k f c i))), B, A3, B4, A5, C6])) rfl ?_
      refine b_cast (f' := (7, [some (.inr 32), some (.inl ((i : Int) + 1)), some (.inl (wt p k f c i))], [], [A0, (moSeg 32 k f c n kp l nt (m.set i (wt p k f c i)) sh (p : Int) t d (sumN (i + 1) (wt p k f c))), B, A3, B4, A5, C6])) rfl ?_
      refine b_lose (ls' := [some (.inr 32), some (.inl ((i : Int) + 1)), none]) (lose2 _ _ _) ?_
      exact ih (i + 1) (m.set i (wt p k f c i)) (by omega) (by rw [List.length_set]; exact h1) (set_upto (by omega) rfl h2)
  refine aGo okX3_weigh 5 (f' := (7, [some (.inr 32), some (.inl 0), none], [], [A0, (moSeg 32 k f c n kp l nt w sh (p : Int) t d 0), B, A3, B4, A5, C6])) rfl ?_
  exact lp p 0 w (by omega) hw (fun q hq => by omega)
set_option maxHeartbeats 4000000 in
theorem c_netLoans_2 (hp : p ≤ 7) (hnt : nt.length = 7) (hl : l.length = 49) : aEv mX3_netLoans 2 0 0 N [.inr 64] [A0, B, (moSeg 64 k f c n kp l nt w sh (p : Int) t d wa), A3, B4, A5, C6] ((fun rv h => rv = none ∧ ∃ nt2 : List Int, nOK p l nt2 ∧ h = [A0, B, (moSeg 64 k f c n kp l nt2 w sh (p : Int) t d wa), A3, B4, A5, C6])) := by
  refine aEv_of okX3_netLoans caX3_netLoans (Nat.le_of_ble_eq_true rfl) ?_
  have lp : ∀ (j i : Nat) (m : List Int), i + j = p → (m.length = 7) → (∀ q, q < i → m.getD q 0 = net p l q) → AW mX3_netLoans 2 0 0 N none (fun rv h => rv = none ∧ ∃ nt2 : List Int, nOK p l nt2 ∧ h = [A0, B, (moSeg 64 k f c n kp l nt2 w sh (p : Int) t d wa), A3, B4, A5, C6]) (2, [some (.inr 64), some (.inl (i : Int)), none, none], [], [A0, B, (moSeg 64 k f c n kp l m w sh (p : Int) t d wa), A3, B4, A5, C6]) := by
    intro j
    induction j with
    | zero =>
      intro i m hij h1 h2
      obtain rfl : p = i := by omega
      refine aGo okX3_netLoans 3 (f' := (7, [some (.inr 64), some (.inl (p : Int)), none, none], [.inl (p : Int), .inl (p : Int)], _)) rfl ?_
      refine b_ge (tgt := 59) okX3_netLoans rfl rfl ⟨by omega, by omega⟩ ⟨by omega, by omega⟩ (fun h7 => ?_) (fun h7 => absurd h7 (by omega))
      exact b_ret (v := none) ⟨rfl, rfl⟩ ⟨rfl, m, ⟨h1, h2⟩, rfl⟩ rfl
    | succ j ih =>
      intro i m hij h1 h2
      have lq : ∀ (j2 q : Nat), q + j2 = p → AW mX3_netLoans 2 0 0 N none (fun rv h => rv = none ∧ ∃ nt2 : List Int, nOK p l nt2 ∧ h = [A0, B, (moSeg 64 k f c n kp l nt2 w sh (p : Int) t d wa), A3, B4, A5, C6]) (14, [some (.inr 64), some (.inl (i : Int)), some (.inl (sumN q (fun j => l.getD (7 * i + j) 0 - l.getD (7 * j + i) 0))), some (.inl (q : Int))], [], [A0, B, (moSeg 64 k f c n kp l m w sh (p : Int) t d wa), A3, B4, A5, C6]) := by
        intro j2
        induction j2 with
        | zero =>
          intro q  hij2 
          obtain rfl : p = q := by omega
          refine aGo okX3_netLoans 3 (f' := (19, [some (.inr 64), some (.inl (i : Int)), some (.inl (sumN p (fun j => l.getD (7 * i + j) 0 - l.getD (7 * j + i) 0))), some (.inl (p : Int))], [.inl (p : Int), .inl (p : Int)], _)) rfl ?_
          refine b_ge (tgt := 44) okX3_netLoans rfl rfl ⟨by omega, by omega⟩ ⟨by omega, by omega⟩ (fun h19 => ?_) (fun h19 => absurd h19 (by omega))
          refine b_cast (f' := (44, [some (.inr 64), some (.inl (i : Int)), some (.inl (net p l i)), some (.inl (p : Int))], [], [A0, B, (moSeg 64 k f c n kp l m w sh (p : Int) t d wa), A3, B4, A5, C6])) (rfl) ?_
          refine aGo okX3_netLoans 4 (f' := (50, [some (.inr 64), some (.inl (i : Int)), some (.inl (net p l i)), some (.inl (p : Int))], [.inl (net p l i), .inl (i : Int), .inr 77], _)) rfl ?_
          refine b_vN (as := [.inl (i : Int), .inl (net p l i)]) (rest := []) (k := 77) okX3_netLoans rfl lkX3_98 caX4_put (Nat.le_of_ble_eq_true rfl) rfl (Nat.le_of_ble_eq_true rfl) rfl rfl rfl (c_put (i := i) rfl rfl (by first | omega | (simp only [List.length_set]; omega)) (by first | omega | (simp only [List.length_set]; omega)) (net p l i)) ?_
          refine b_cast (f' := (53, [some (.inr 64), some (.inl (i : Int)), some (.inl (net p l i)), some (.inl (p : Int))], [], [A0, B, (moSeg 64 k f c n kp l (m.set i (net p l i)) w sh (p : Int) t d wa), A3, B4, A5, C6])) rfl ?_
          refine aGo okX3_netLoans 2 (f' := (2, [some (.inr 64), some (.inl ((i : Int) + 1)), some (.inl (net p l i)), some (.inl (p : Int))], [], _)) rfl ?_
          refine b_lose (ls' := [some (.inr 64), some (.inl ((i : Int) + 1)), none, none]) (lose23 _ _ _ _) ?_
          exact ih (i + 1) (m.set i (net p l i)) (by omega) (by rw [List.length_set]; exact h1) (set_upto (by omega) rfl h2)
        | succ j2 ih2 =>
          intro q  hij2 
          refine aGo okX3_netLoans 3 (f' := (19, [some (.inr 64), some (.inl (i : Int)), some (.inl (sumN q (fun j => l.getD (7 * i + j) 0 - l.getD (7 * j + i) 0))), some (.inl (q : Int))], [.inl (p : Int), .inl (q : Int)], _)) rfl ?_
          refine b_ge (tgt := 44) okX3_netLoans rfl rfl ⟨by omega, by omega⟩ ⟨by omega, by omega⟩ (fun h19 => absurd h19 (by omega)) (fun h19 => ?_)
          refine aGo okX3_netLoans 4 (f' := (26, [some (.inr 64), some (.inl (i : Int)), some (.inl (sumN q (fun j => l.getD (7 * i + j) 0 - l.getD (7 * j + i) 0))), some (.inl (q : Int))], [.inl (q : Int), .inl (i : Int), .inr 64, .inl (sumN q (fun j => l.getD (7 * i + j) 0 - l.getD (7 * j + i) 0))], _)) rfl ?_
          refine b_vV (as := [.inl (i : Int), .inl (q : Int)]) (rest := [.inl (sumN q (fun j => l.getD (7 * i + j) 0 - l.getD (7 * j + i) 0))]) (k := 64) (.inl (l.getD (7 * i + q) 0)) okX3_netLoans rfl lkX3_80 caX3_lentBy (Nat.le_of_ble_eq_true rfl) rfl (Nat.le_of_ble_eq_true rfl) rfl rfl rfl (c_lentBy_2 (i := i) (j := q) (by first | omega | (simp only [List.length_set]; omega)) (by omega) (by omega)) ?_
          refine aGo okX3_netLoans 3 (f' := (32, [some (.inr 64), some (.inl (i : Int)), some (.inl (sumN q (fun j => l.getD (7 * i + j) 0 - l.getD (7 * j + i) 0))), some (.inl (q : Int))], [.inl (i : Int), .inl (q : Int), .inr 64, .inl (l.getD (7 * i + q) 0), .inl (sumN q (fun j => l.getD (7 * i + j) 0 - l.getD (7 * j + i) 0))], _)) rfl ?_
          refine b_vV (as := [.inl (q : Int), .inl (i : Int)]) (rest := [.inl (l.getD (7 * i + q) 0), .inl (sumN q (fun j => l.getD (7 * i + j) 0 - l.getD (7 * j + i) 0))]) (k := 64) (.inl (l.getD (7 * q + i) 0)) okX3_netLoans rfl lkX3_80 caX3_lentBy (Nat.le_of_ble_eq_true rfl) rfl (Nat.le_of_ble_eq_true rfl) rfl rfl rfl (c_lentBy_2 (i := q) (j := i) (by first | omega | (simp only [List.length_set]; omega)) (by omega) (by omega)) ?_
          refine aGo okX3_netLoans 5 (f' := (14, [some (.inr 64), some (.inl (i : Int)), some (.inl ((sumN q (fun j => l.getD (7 * i + j) 0 - l.getD (7 * j + i) 0)) + ((l.getD (7 * i + q) 0) - (l.getD (7 * q + i) 0)))), some (.inl ((q : Int) + 1))], [], _)) rfl ?_
          exact ih2 (q + 1) (by omega)
      refine aGo okX3_netLoans 3 (f' := (7, [some (.inr 64), some (.inl (i : Int)), none, none], [.inl (p : Int), .inl (i : Int)], _)) rfl ?_
      refine b_ge (tgt := 59) okX3_netLoans rfl rfl ⟨by omega, by omega⟩ ⟨by omega, by omega⟩ (fun h7 => absurd h7 (by omega)) (fun h7 => ?_)
      refine aGo okX3_netLoans 4 (f' := (14, [some (.inr 64), some (.inl (i : Int)), some (.inl 0), some (.inl 0)], [], _)) rfl ?_
      exact lq p 0 (by omega)
  refine aGo okX3_netLoans 2 (f' := (2, [some (.inr 64), some (.inl 0), none, none], [], _)) rfl ?_
  exact lp p 0 nt (by omega) hnt (fun q hq => by omega)
set_option maxHeartbeats 4000000 in
theorem c_weightNow_2 (hb : wH p k f c w sh t) {i : Nat} (hi : i < p) : aEv mX3_weightNow 2 0 0 N [.inr 64, .inl (i : Int)] [A0, B, (moSeg 64 k f c n kp l nt w sh (p : Int) t d wa), A3, B4, A5, C6] ((aQx (some (.inl (wt p k f c i))) [A0, B, (moSeg 64 k f c n kp l nt w sh (p : Int) t d wa), A3, B4, A5, C6])) := by
  obtain ⟨hp7, hk, hf, hc, hw, hsh, rk, rf, rc, ht0, ht1⟩ := hb
  refine aEv_of okX3_weightNow caX3_weightNow (Nat.le_of_ble_eq_true rfl) ?_
  have lp : ∀ (j q : Nat), q + j = p → AW mX3_weightNow 2 0 0 N none (aQx (some (.inl (wt p k f c i))) [A0, B, (moSeg 64 k f c n kp l nt w sh (p : Int) t d wa), A3, B4, A5, C6]) (8, [some (.inr 64), some (.inl (i : Int)), some (.inl (sumN q (fun q => stp (c.getD i 0) (c.getD q 0)))), some (.inl (near q c i)), some (.inl (q : Int)), none, none], [], [A0, B, (moSeg 64 k f c n kp l nt w sh (p : Int) t d wa), A3, B4, A5, C6]) := by
    intro j
    induction j with
    | zero =>
      intro q  hij 
      obtain rfl : p = q := by omega
      refine aGo okX3_weightNow 3 (f' := (14, [some (.inr 64), some (.inl (i : Int)), some (.inl (sumN p (fun q => stp (c.getD i 0) (c.getD q 0)))), some (.inl (near p c i)), some (.inl (p : Int)), none, none], [.inl (p : Int), .inl (p : Int)], _)) rfl ?_
      refine b_ge (tgt := 63) okX3_weightNow rfl rfl ⟨by omega, by omega⟩ ⟨by omega, by omega⟩ (fun h14 => ?_) (fun h14 => absurd h14 (by omega))
      refine b_cast (f' := (63, [some (.inr 64), some (.inl (i : Int)), some (.inl (far p c i)), some (.inl (near p c i)), some (.inl (p : Int)), none, none], [], [A0, B, (moSeg 64 k f c n kp l nt w sh (p : Int) t d wa), A3, B4, A5, C6])) (rfl) ?_
      have q1 := far_le (p := p) rc i
      have q2 := rf i
      have q3 := rk i
      have q4 := near_le (p := p) rc i
      have q5 : (p : Int) ≤ 7 := by omega
      refine aGo okX3_weightNow 2 (f' := (65, [some (.inr 64), some (.inl (i : Int)), some (.inl (far p c i)), some (.inl (near p c i)), some (.inl (p : Int)), none, none], [.inl (far p c i), .inl 1], _)) rfl ?_
      refine b_max okX3_weightNow rfl lkX3_86 ma_max_s ma_max_c (Nat.le_of_ble_eq_true rfl) (Nat.le_of_ble_eq_true rfl) ⟨by omega, by omega⟩ ⟨by omega, by omega⟩ ?_
      refine aGo okX3_weightNow 5 (f' := (77, [some (.inr 64), some (.inl (i : Int)), some (.inl (far p c i)), some (.inl (near p c i)), some (.inl (max 1 (far p c i))), none, none], [.inl (i : Int), .inr 67, .inl (max 1 (far p c i))], _)) rfl ?_
      refine b_vV (as := [.inl (i : Int)]) (rest := [.inl (max 1 (far p c i))]) (k := 67) (.inl (f.getD i 0)) okX3_weightNow rfl lkX3_65 caX4_at (Nat.le_of_ble_eq_true rfl) rfl (Nat.le_of_ble_eq_true rfl) rfl rfl rfl (c_at (i := i) rfl rfl (by first | omega | (simp only [List.length_set]; omega)) (by omega)) ?_
      refine aGo okX3_weightNow 5 (f' := (87, [some (.inr 64), some (.inl (i : Int)), some (.inl (far p c i)), some (.inl (near p c i)), some (.inl (max 1 (far p c i))), some (.inl ((max 1 (far p c i)) + (f.getD i 0))), none], [.inl 2, .inl (max 1 (far p c i)), .inl 1], _)) rfl ?_
      refine b_div okX3_weightNow rfl ⟨by omega, by omega⟩ ⟨by omega, by omega⟩ ?_
      refine b_max okX3_weightNow rfl lkX3_86 ma_max_s ma_max_c (Nat.le_of_ble_eq_true rfl) (Nat.le_of_ble_eq_true rfl) ⟨by omega, by omega⟩ ⟨by omega, by omega⟩ ?_
      refine aGo okX3_weightNow 4 (f' := (98, [some (.inr 64), some (.inl (i : Int)), some (.inl (far p c i)), some (.inl (near p c i)), some (.inl (max 1 (far p c i))), some (.inl ((max 1 (far p c i)) + (f.getD i 0))), some (.inl (max 1 ((max 1 (far p c i)) / 2)))], [.inl (i : Int), .inr 65], _)) rfl ?_
      refine b_vV (as := [.inl (i : Int)]) (rest := []) (k := 65) (.inl (k.getD i 0)) okX3_weightNow rfl lkX3_65 caX4_at (Nat.le_of_ble_eq_true rfl) rfl (Nat.le_of_ble_eq_true rfl) rfl rfl rfl (c_at (i := i) rfl rfl (by first | omega | (simp only [List.length_set]; omega)) (by omega)) ?_
      have hsx := (six (rk i))
      rcases hsx with hsw | hsw | hsw | hsw | hsw | hsw
      · refine b_cast (f' := (101, [some (.inr 64), some (.inl (i : Int)), some (.inl (far p c i)), some (.inl (near p c i)), some (.inl (max 1 (far p c i))), some (.inl ((max 1 (far p c i)) + (f.getD i 0))), some (.inl (max 1 ((max 1 (far p c i)) / 2)))], [.inl 0], [A0, B, (moSeg 64 k f c n kp l nt w sh (p : Int) t d wa), A3, B4, A5, C6])) (congrArg (fun z : Int => ((101, [some (.inr 64), some (.inl (i : Int)), some (.inl (far p c i)), some (.inl (near p c i)), some (.inl (max 1 (far p c i))), some (.inl ((max 1 (far p c i)) + (f.getD i 0))), some (.inl (max 1 ((max 1 (far p c i)) / 2)))], .inl z :: [], [A0, B, (moSeg 64 k f c n kp l nt w sh (p : Int) t d wa), A3, B4, A5, C6]) : aF)) hsw) ?_
        refine b_swOut (tgt := 178) okX3_weightNow rfl ⟨by decide, by decide⟩ (by decide) rfl ?_
        refine aGo okX3_weightNow 1 (f' := (180, [some (.inr 64), some (.inl (i : Int)), some (.inl (far p c i)), some (.inl (near p c i)), some (.inl (max 1 (far p c i))), some (.inl ((max 1 (far p c i)) + (f.getD i 0))), some (.inl (max 1 ((max 1 (far p c i)) / 2)))], [.inl (max 1 (far p c i))], _)) rfl ?_
        exact b_ret (v := (some (.inl (max 1 (far p c i))))) ⟨rfl, Or.inl rfl⟩ ⟨by rw [wt_0 hsw], rfl⟩ rfl
      · refine b_cast (f' := (101, [some (.inr 64), some (.inl (i : Int)), some (.inl (far p c i)), some (.inl (near p c i)), some (.inl (max 1 (far p c i))), some (.inl ((max 1 (far p c i)) + (f.getD i 0))), some (.inl (max 1 ((max 1 (far p c i)) / 2)))], [.inl 1], [A0, B, (moSeg 64 k f c n kp l nt w sh (p : Int) t d wa), A3, B4, A5, C6])) (congrArg (fun z : Int => ((101, [some (.inr 64), some (.inl (i : Int)), some (.inl (far p c i)), some (.inl (near p c i)), some (.inl (max 1 (far p c i))), some (.inl ((max 1 (far p c i)) + (f.getD i 0))), some (.inl (max 1 ((max 1 (far p c i)) / 2)))], .inl z :: [], [A0, B, (moSeg 64 k f c n kp l nt w sh (p : Int) t d wa), A3, B4, A5, C6]) : aF)) hsw) ?_
        refine b_swIn (tgt := 136) okX3_weightNow rfl ⟨by decide, by decide⟩ (by decide) (by decide) rfl rfl ?_
        refine aGo okX3_weightNow 1 (f' := (138, [some (.inr 64), some (.inl (i : Int)), some (.inl (far p c i)), some (.inl (near p c i)), some (.inl (max 1 (far p c i))), some (.inl ((max 1 (far p c i)) + (f.getD i 0))), some (.inl (max 1 ((max 1 (far p c i)) / 2)))], [.inl ((max 1 (far p c i)) + (f.getD i 0))], _)) rfl ?_
        exact b_ret (v := (some (.inl ((max 1 (far p c i)) + (f.getD i 0))))) ⟨rfl, Or.inl rfl⟩ ⟨by rw [wt_1 hsw], rfl⟩ rfl
      · refine b_cast (f' := (101, [some (.inr 64), some (.inl (i : Int)), some (.inl (far p c i)), some (.inl (near p c i)), some (.inl (max 1 (far p c i))), some (.inl ((max 1 (far p c i)) + (f.getD i 0))), some (.inl (max 1 ((max 1 (far p c i)) / 2)))], [.inl 2], [A0, B, (moSeg 64 k f c n kp l nt w sh (p : Int) t d wa), A3, B4, A5, C6])) (congrArg (fun z : Int => ((101, [some (.inr 64), some (.inl (i : Int)), some (.inl (far p c i)), some (.inl (near p c i)), some (.inl (max 1 (far p c i))), some (.inl ((max 1 (far p c i)) + (f.getD i 0))), some (.inl (max 1 ((max 1 (far p c i)) / 2)))], .inl z :: [], [A0, B, (moSeg 64 k f c n kp l nt w sh (p : Int) t d wa), A3, B4, A5, C6]) : aF)) hsw) ?_
        refine b_swIn (tgt := 139) okX3_weightNow rfl ⟨by decide, by decide⟩ (by decide) (by decide) rfl rfl ?_
        refine aGo okX3_weightNow 3 (f' := (143, [some (.inr 64), some (.inl (i : Int)), some (.inl (far p c i)), some (.inl (near p c i)), some (.inl (max 1 (far p c i))), some (.inl ((max 1 (far p c i)) + (f.getD i 0))), some (.inl (max 1 ((max 1 (far p c i)) / 2)))], [.inl (2 * (max 1 (far p c i)))], _)) rfl ?_
        exact b_ret (v := (some (.inl (2 * (max 1 (far p c i)))))) ⟨rfl, Or.inl rfl⟩ ⟨by rw [wt_2 hsw], rfl⟩ rfl
      · refine b_cast (f' := (101, [some (.inr 64), some (.inl (i : Int)), some (.inl (far p c i)), some (.inl (near p c i)), some (.inl (max 1 (far p c i))), some (.inl ((max 1 (far p c i)) + (f.getD i 0))), some (.inl (max 1 ((max 1 (far p c i)) / 2)))], [.inl 3], [A0, B, (moSeg 64 k f c n kp l nt w sh (p : Int) t d wa), A3, B4, A5, C6])) (congrArg (fun z : Int => ((101, [some (.inr 64), some (.inl (i : Int)), some (.inl (far p c i)), some (.inl (near p c i)), some (.inl (max 1 (far p c i))), some (.inl ((max 1 (far p c i)) + (f.getD i 0))), some (.inl (max 1 ((max 1 (far p c i)) / 2)))], .inl z :: [], [A0, B, (moSeg 64 k f c n kp l nt w sh (p : Int) t d wa), A3, B4, A5, C6]) : aF)) hsw) ?_
        refine b_swIn (tgt := 144) okX3_weightNow rfl ⟨by decide, by decide⟩ (by decide) (by decide) rfl rfl ?_
        refine aGo okX3_weightNow 1 (f' := (146, [some (.inr 64), some (.inl (i : Int)), some (.inl (far p c i)), some (.inl (near p c i)), some (.inl (max 1 (far p c i))), some (.inl ((max 1 (far p c i)) + (f.getD i 0))), some (.inl (max 1 ((max 1 (far p c i)) / 2)))], [.inl (max 1 ((max 1 (far p c i)) / 2))], _)) rfl ?_
        exact b_ret (v := (some (.inl (max 1 ((max 1 (far p c i)) / 2))))) ⟨rfl, Or.inl rfl⟩ ⟨by rw [wt_3 hsw], rfl⟩ rfl
      · refine b_cast (f' := (101, [some (.inr 64), some (.inl (i : Int)), some (.inl (far p c i)), some (.inl (near p c i)), some (.inl (max 1 (far p c i))), some (.inl ((max 1 (far p c i)) + (f.getD i 0))), some (.inl (max 1 ((max 1 (far p c i)) / 2)))], [.inl 4], [A0, B, (moSeg 64 k f c n kp l nt w sh (p : Int) t d wa), A3, B4, A5, C6])) (congrArg (fun z : Int => ((101, [some (.inr 64), some (.inl (i : Int)), some (.inl (far p c i)), some (.inl (near p c i)), some (.inl (max 1 (far p c i))), some (.inl ((max 1 (far p c i)) + (f.getD i 0))), some (.inl (max 1 ((max 1 (far p c i)) / 2)))], .inl z :: [], [A0, B, (moSeg 64 k f c n kp l nt w sh (p : Int) t d wa), A3, B4, A5, C6]) : aF)) hsw) ?_
        refine b_swIn (tgt := 147) okX3_weightNow rfl ⟨by decide, by decide⟩ (by decide) (by decide) rfl rfl ?_
        refine aGo okX3_weightNow 2 (f' := (149, [some (.inr 64), some (.inl (i : Int)), some (.inl (far p c i)), some (.inl (near p c i)), some (.inl (max 1 (far p c i))), some (.inl ((max 1 (far p c i)) + (f.getD i 0))), some (.inl (max 1 ((max 1 (far p c i)) / 2)))], [.inl 3, .inl (near p c i)], _)) rfl ?_
        refine b_ge (tgt := 157) okX3_weightNow rfl rfl ⟨by omega, by omega⟩ ⟨by omega, by omega⟩ (fun h149 => ?_) (fun h149 => ?_)
        · refine aGo okX3_weightNow 3 (f' := (161, [some (.inr 64), some (.inl (i : Int)), some (.inl (far p c i)), some (.inl (near p c i)), some (.inl (max 1 (far p c i))), some (.inl ((max 1 (far p c i)) + (f.getD i 0))), some (.inl (max 1 ((max 1 (far p c i)) / 2)))], [.inl (((max 1 (far p c i)) + (f.getD i 0)) + 5)], _)) rfl ?_
          exact b_ret (v := (some (.inl (((max 1 (far p c i)) + (f.getD i 0)) + 5)))) ⟨rfl, Or.inl rfl⟩ ⟨by rw [wt_4f hsw (by omega)], rfl⟩ rfl
        · refine aGo okX3_weightNow 2 (f' := (161, [some (.inr 64), some (.inl (i : Int)), some (.inl (far p c i)), some (.inl (near p c i)), some (.inl (max 1 (far p c i))), some (.inl ((max 1 (far p c i)) + (f.getD i 0))), some (.inl (max 1 ((max 1 (far p c i)) / 2)))], [.inl ((max 1 (far p c i)) + (f.getD i 0))], _)) rfl ?_
          exact b_ret (v := (some (.inl ((max 1 (far p c i)) + (f.getD i 0))))) ⟨rfl, Or.inl rfl⟩ ⟨by rw [wt_4t hsw (by omega)], rfl⟩ rfl
      · refine b_cast (f' := (101, [some (.inr 64), some (.inl (i : Int)), some (.inl (far p c i)), some (.inl (near p c i)), some (.inl (max 1 (far p c i))), some (.inl ((max 1 (far p c i)) + (f.getD i 0))), some (.inl (max 1 ((max 1 (far p c i)) / 2)))], [.inl 5], [A0, B, (moSeg 64 k f c n kp l nt w sh (p : Int) t d wa), A3, B4, A5, C6])) (congrArg (fun z : Int => ((101, [some (.inr 64), some (.inl (i : Int)), some (.inl (far p c i)), some (.inl (near p c i)), some (.inl (max 1 (far p c i))), some (.inl ((max 1 (far p c i)) + (f.getD i 0))), some (.inl (max 1 ((max 1 (far p c i)) / 2)))], .inl z :: [], [A0, B, (moSeg 64 k f c n kp l nt w sh (p : Int) t d wa), A3, B4, A5, C6]) : aF)) hsw) ?_
        refine b_swIn (tgt := 162) okX3_weightNow rfl ⟨by decide, by decide⟩ (by decide) (by decide) rfl rfl ?_
        refine aGo okX3_weightNow 5 (f' := (170, [some (.inr 64), some (.inl (i : Int)), some (.inl (far p c i)), some (.inl (near p c i)), some (.inl (max 1 (far p c i))), some (.inl ((max 1 (far p c i)) + (f.getD i 0))), some (.inl (max 1 ((max 1 (far p c i)) / 2)))], [.inl (i : Int), .inr 67, .inl (max 1 ((max 1 (far p c i)) / 2)), .inl 1], _)) rfl ?_
        refine b_vV (as := [.inl (i : Int)]) (rest := [.inl (max 1 ((max 1 (far p c i)) / 2)), .inl 1]) (k := 67) (.inl (f.getD i 0)) okX3_weightNow rfl lkX3_65 caX4_at (Nat.le_of_ble_eq_true rfl) rfl (Nat.le_of_ble_eq_true rfl) rfl rfl rfl (c_at (i := i) rfl rfl (by first | omega | (simp only [List.length_set]; omega)) (by omega)) ?_
        refine aGo okX3_weightNow 1 (f' := (174, [some (.inr 64), some (.inl (i : Int)), some (.inl (far p c i)), some (.inl (near p c i)), some (.inl (max 1 (far p c i))), some (.inl ((max 1 (far p c i)) + (f.getD i 0))), some (.inl (max 1 ((max 1 (far p c i)) / 2)))], [.inl ((max 1 ((max 1 (far p c i)) / 2)) - (f.getD i 0)), .inl 1], _)) rfl ?_
        refine b_max okX3_weightNow rfl lkX3_86 ma_max_s ma_max_c (Nat.le_of_ble_eq_true rfl) (Nat.le_of_ble_eq_true rfl) ⟨by omega, by omega⟩ ⟨by omega, by omega⟩ ?_
        exact b_ret (v := (some (.inl (max 1 ((max 1 ((max 1 (far p c i)) / 2)) - (f.getD i 0)))))) ⟨rfl, Or.inl rfl⟩ ⟨by rw [wt_5 hsw], rfl⟩ rfl
    | succ j ih =>
      intro q  hij 
      have q1 := rc i
      have q2 := rc q
      have q3 := far_le (p := q) rc i
      have q4 := near_le (p := q) rc i
      have q5 := stp_le (rc i) (rc q)
      unfold far at q3
      refine aGo okX3_weightNow 3 (f' := (14, [some (.inr 64), some (.inl (i : Int)), some (.inl (sumN q (fun q => stp (c.getD i 0) (c.getD q 0)))), some (.inl (near q c i)), some (.inl (q : Int)), none, none], [.inl (p : Int), .inl (q : Int)], _)) rfl ?_
      refine b_ge (tgt := 63) okX3_weightNow rfl rfl ⟨by omega, by omega⟩ ⟨by omega, by omega⟩ (fun h14 => absurd h14 (by omega)) (fun h14 => ?_)
      refine aGo okX3_weightNow 2 (f' := (20, [some (.inr 64), some (.inl (i : Int)), some (.inl (sumN q (fun q => stp (c.getD i 0) (c.getD q 0)))), some (.inl (near q c i)), some (.inl (q : Int)), none, none], [.inl (i : Int), .inl (q : Int)], _)) rfl ?_
      refine b_eq (tgt := 57) okX3_weightNow rfl rfl ⟨by omega, by omega⟩ ⟨by omega, by omega⟩ (fun h20 => ?_) (fun h20 => ?_)
      · have hqi : q = i := by omega
        refine aGo okX3_weightNow 2 (f' := (8, [some (.inr 64), some (.inl (i : Int)), some (.inl (sumN q (fun q => stp (c.getD i 0) (c.getD q 0)))), some (.inl (near q c i)), some (.inl ((q : Int) + 1)), none, none], [], _)) rfl ?_
        refine b_cast (f' := (8, [some (.inr 64), some (.inl (i : Int)), some (.inl (sumN (q + 1) (fun q => stp (c.getD i 0) (c.getD q 0)))), some (.inl (near (q + 1) c i)), some (.inl ((q : Int) + 1)), none, none], [], [A0, B, (moSeg 64 k f c n kp l nt w sh (p : Int) t d wa), A3, B4, A5, C6])) (by simp only [sumN, near]; rw [if_pos hqi, hqi, stp_self, Int.add_zero]) ?_
        exact ih (q + 1) (by omega)
      · refine aGo okX3_weightNow 3 (f' := (28, [some (.inr 64), some (.inl (i : Int)), some (.inl (sumN q (fun q => stp (c.getD i 0) (c.getD q 0)))), some (.inl (near q c i)), some (.inl (q : Int)), none, none], [.inl (i : Int), .inr 69], _)) rfl ?_
        refine b_vV (as := [.inl (i : Int)]) (rest := []) (k := 69) (.inl (c.getD i 0)) okX3_weightNow rfl lkX3_65 caX4_at (Nat.le_of_ble_eq_true rfl) rfl (Nat.le_of_ble_eq_true rfl) rfl rfl rfl (c_at (i := i) rfl rfl (by first | omega | (simp only [List.length_set]; omega)) (by omega)) ?_
        refine aGo okX3_weightNow 3 (f' := (37, [some (.inr 64), some (.inl (i : Int)), some (.inl (sumN q (fun q => stp (c.getD i 0) (c.getD q 0)))), some (.inl (near q c i)), some (.inl (q : Int)), none, none], [.inl (q : Int), .inr 69, .inl (c.getD i 0)], _)) rfl ?_
        refine b_vV (as := [.inl (q : Int)]) (rest := [.inl (c.getD i 0)]) (k := 69) (.inl (c.getD q 0)) okX3_weightNow rfl lkX3_65 caX4_at (Nat.le_of_ble_eq_true rfl) rfl (Nat.le_of_ble_eq_true rfl) rfl rfl rfl (c_at (i := q) rfl rfl (by first | omega | (simp only [List.length_set]; omega)) (by omega)) ?_
        refine b_vT (as := [.inl (c.getD i 0), .inl (c.getD q 0)]) (rest := []) (.inl (stp (c.getD i 0) (c.getD q 0))) okX3_weightNow rfl lkX3_69 caX7_steps (Nat.le_of_ble_eq_true rfl) rfl (Nat.le_of_ble_eq_true rfl) rfl (c_steps ⟨by omega, by omega⟩ ⟨by omega, by omega⟩) ?_
        refine aGo okX3_weightNow 7 (f' := (53, [some (.inr 64), some (.inl (i : Int)), some (.inl ((sumN q (fun q => stp (c.getD i 0) (c.getD q 0))) + (stp (c.getD i 0) (c.getD q 0)))), some (.inl (near q c i)), some (.inl (q : Int)), some (.inl (stp (c.getD i 0) (c.getD q 0))), none], [.inl (stp (c.getD i 0) (c.getD q 0)), .inl (near q c i)], _)) rfl ?_
        refine b_min okX3_weightNow rfl lkX3_112 ma_min_s ma_min_c (Nat.le_of_ble_eq_true rfl) (Nat.le_of_ble_eq_true rfl) ⟨by omega, by omega⟩ ⟨by omega, by omega⟩ ?_
        refine aGo okX3_weightNow 1 (f' := (57, [some (.inr 64), some (.inl (i : Int)), some (.inl ((sumN q (fun q => stp (c.getD i 0) (c.getD q 0))) + (stp (c.getD i 0) (c.getD q 0)))), some (.inl (min (near q c i) (stp (c.getD i 0) (c.getD q 0)))), some (.inl (q : Int)), some (.inl (stp (c.getD i 0) (c.getD q 0))), none], [], _)) rfl ?_
        have hqi : ¬ q = i := by omega
        refine aGo okX3_weightNow 2 (f' := (8, [some (.inr 64), some (.inl (i : Int)), some (.inl ((sumN q (fun q => stp (c.getD i 0) (c.getD q 0))) + (stp (c.getD i 0) (c.getD q 0)))), some (.inl (min (near q c i) (stp (c.getD i 0) (c.getD q 0)))), some (.inl ((q : Int) + 1)), some (.inl (stp (c.getD i 0) (c.getD q 0))), none], [], _)) rfl ?_
        refine b_cast (f' := (8, [some (.inr 64), some (.inl (i : Int)), some (.inl (sumN (q + 1) (fun q => stp (c.getD i 0) (c.getD q 0)))), some (.inl (near (q + 1) c i)), some (.inl ((q : Int) + 1)), some (.inl (stp (c.getD i 0) (c.getD q 0))), none], [], [A0, B, (moSeg 64 k f c n kp l nt w sh (p : Int) t d wa), A3, B4, A5, C6])) (by simp only [sumN, near]; rw [if_neg hqi]) ?_
        refine b_lose (ls' := [some (.inr 64), some (.inl (i : Int)), some (.inl (sumN (q + 1) (fun q => stp (c.getD i 0) (c.getD q 0)))), some (.inl (near (q + 1) c i)), some (.inl ((q : Int) + 1)), none, none]) (lose5g _ _ _ _ _ _ _) ?_
        exact ih (q + 1) (by omega)
  refine aGo okX3_weightNow 6 (f' := (8, [some (.inr 64), some (.inl (i : Int)), some (.inl 0), some (.inl 10), some (.inl 0), none, none], [], _)) rfl ?_
  exact lp p 0 (by omega)
set_option maxHeartbeats 4000000 in
theorem c_shareOut_2 {W : Nat → Int} (hp : p ≤ 7) (hsh : sh.length = 7) (hwl : w.length = 7) (ht : 0 ≤ t ∧ t ≤ 999) (hw : ∀ q, q < p → w.getD q 0 = W q) (hW : ∀ q, q < p → 1 ≤ W q ∧ W q ≤ 200) (hwa : wa = sumN p W) : aEv mX3_shareOut 1 0 0 N [.inr 64] [A0, B, (moSeg 64 k f c n kp l nt w sh (p : Int) t d wa), A3, B4, A5, C6] ((fun rv h => rv = none ∧ ∃ sh2 : List Int, sh2.length = 7 ∧ (∀ q, q < p → sh2.getD q 0 = shrS p W t q) ∧ h = [A0, B, (moSeg 64 k f c n kp l nt w sh2 (p : Int) t d wa), A3, B4, A5, C6])) := by
  have hlef : 0 < p → 0 ≤ lefS p W t ∧ lefS p W t < p := fun z => lefS_le z (fun q hq => (hW q hq).1)
  refine aEv_of okX3_shareOut caX3_shareOut (Nat.le_of_ble_eq_true rfl) ?_
  have l2 : ∀ (j i : Nat) (m : List Int), i + j = p → (m.length = 7) → (∀ q, q < i → m.getD q 0 = shrS p W t q) → (∀ q, i ≤ q → q < p → m.getD q 0 = cutS p W t q) → AW mX3_shareOut 1 0 0 N none (fun rv h => rv = none ∧ ∃ sh2 : List Int, sh2.length = 7 ∧ (∀ q, q < p → sh2.getD q 0 = shrS p W t q) ∧ h = [A0, B, (moSeg 64 k f c n kp l nt w sh2 (p : Int) t d wa), A3, B4, A5, C6]) (66, [some (.inr 64), some (.inl (lefS p W t)), some (.inl (i : Int)), none], [], [A0, B, (moSeg 64 k f c n kp l nt w m (p : Int) t d wa), A3, B4, A5, C6]) := by
    intro j
    induction j with
    | zero =>
      intro i m hij h1 h2 h3
      obtain rfl : p = i := by omega
      refine aGo okX3_shareOut 3 (f' := (71, [some (.inr 64), some (.inl (lefS p W t)), some (.inl (p : Int)), none], [.inl (p : Int), .inl (p : Int)], _)) rfl ?_
      refine b_ge (tgt := 103) okX3_shareOut rfl rfl ⟨by omega, by omega⟩ ⟨by omega, by omega⟩ (fun h71 => ?_) (fun h71 => absurd h71 (by omega))
      exact b_ret (v := none) ⟨rfl, rfl⟩ ⟨rfl, m, h1, fun q hq => h2 q hq, rfl⟩ rfl
    | succ j ih =>
      intro i m hij h1 h2 h3
      have q1 := hlef (by omega)
      have q2 := h3 i (Nat.le_refl i) (by omega)
      have q3 := cutS_le ht.1 (fun q hq => (hW q hq).1) (show i < p by omega)
      refine aGo okX3_shareOut 3 (f' := (71, [some (.inr 64), some (.inl (lefS p W t)), some (.inl (i : Int)), none], [.inl (p : Int), .inl (i : Int)], _)) rfl ?_
      refine b_ge (tgt := 103) okX3_shareOut rfl rfl ⟨by omega, by omega⟩ ⟨by omega, by omega⟩ (fun h71 => absurd h71 (by omega)) (fun h71 => ?_)
      refine aGo okX3_shareOut 2 (f' := (76, [some (.inr 64), some (.inl (lefS p W t)), some (.inl (i : Int)), none], [.inl (lefS p W t), .inl (i : Int)], _)) rfl ?_
      refine b_ge (tgt := 103) okX3_shareOut rfl rfl ⟨by omega, by omega⟩ ⟨by omega, by omega⟩ (fun h76 => ?_) (fun h76 => ?_)
      · exact b_ret (v := none) ⟨rfl, rfl⟩ ⟨rfl, m, h1, shrS_end (by omega) h2 h3, rfl⟩ rfl
      · refine aGo okX3_shareOut 6 (f' := (89, [some (.inr 64), some (.inl (lefS p W t)), some (.inl (i : Int)), none], [.inl (i : Int), .inr 81, .inl (i : Int), .inr 81], _)) rfl ?_
        refine b_vV (as := [.inl (i : Int)]) (rest := [.inl (i : Int), .inr 81]) (k := 81) (.inl (m.getD i 0)) okX3_shareOut rfl lkX3_65 caX4_at (Nat.le_of_ble_eq_true rfl) rfl (Nat.le_of_ble_eq_true rfl) rfl rfl rfl (c_at (i := i) rfl rfl (by first | omega | (simp only [List.length_set]; omega)) (by omega)) ?_
        refine aGo okX3_shareOut 2 (f' := (94, [some (.inr 64), some (.inl (lefS p W t)), some (.inl (i : Int)), none], [.inl ((m.getD i 0) + 1), .inl (i : Int), .inr 81], _)) rfl ?_
        refine b_vN (as := [.inl (i : Int), .inl ((m.getD i 0) + 1)]) (rest := []) (k := 81) okX3_shareOut rfl lkX3_98 caX4_put (Nat.le_of_ble_eq_true rfl) rfl (Nat.le_of_ble_eq_true rfl) rfl rfl rfl (c_put (i := i) rfl rfl (by first | omega | (simp only [List.length_set]; omega)) (by first | omega | (simp only [List.length_set]; omega)) ((m.getD i 0) + 1)) ?_
        refine b_cast (f' := (97, [some (.inr 64), some (.inl (lefS p W t)), some (.inl (i : Int)), none], [], [A0, B, (moSeg 64 k f c n kp l nt w (m.set i ((m.getD i 0) + 1)) (p : Int) t d wa), A3, B4, A5, C6])) rfl ?_
        refine aGo okX3_shareOut 2 (f' := (66, [some (.inr 64), some (.inl (lefS p W t)), some (.inl ((i : Int) + 1)), none], [], _)) rfl ?_
        exact ih (i + 1) (m.set i (m.getD i 0 + 1)) (by omega) (by rw [List.length_set]; exact h1) (set_upto (by omega) (by rw [q2, shrS_in (by omega)]) h2) (fun q hq1 hq2 => by rw [getD_set_ne (by omega)]; exact h3 q (by omega) hq2)
  have l1 : ∀ (j i : Nat) (m : List Int), i + j = p → (m.length = 7) → (∀ q, q < i → m.getD q 0 = cutS p W t q) → AW mX3_shareOut 1 0 0 N none (fun rv h => rv = none ∧ ∃ sh2 : List Int, sh2.length = 7 ∧ (∀ q, q < p → sh2.getD q 0 = shrS p W t q) ∧ h = [A0, B, (moSeg 64 k f c n kp l nt w sh2 (p : Int) t d wa), A3, B4, A5, C6]) (7, [some (.inr 64), some (.inl (t - sumN i (cutS p W t))), some (.inl (i : Int)), none], [], [A0, B, (moSeg 64 k f c n kp l nt w m (p : Int) t d wa), A3, B4, A5, C6]) := by
    intro j
    induction j with
    | zero =>
      intro i m hij h1 h2
      obtain rfl : p = i := by omega
      refine aGo okX3_shareOut 3 (f' := (12, [some (.inr 64), some (.inl (t - sumN p (cutS p W t))), some (.inl (p : Int)), none], [.inl (p : Int), .inl (p : Int)], _)) rfl ?_
      refine b_ge (tgt := 64) okX3_shareOut rfl rfl ⟨by omega, by omega⟩ ⟨by omega, by omega⟩ (fun h12 => ?_) (fun h12 => absurd h12 (by omega))
      refine b_cast (f' := (64, [some (.inr 64), some (.inl (lefS p W t)), some (.inl (p : Int)), none], [], [A0, B, (moSeg 64 k f c n kp l nt w m (p : Int) t d wa), A3, B4, A5, C6])) (rfl) ?_
      refine aGo okX3_shareOut 2 (f' := (66, [some (.inr 64), some (.inl (lefS p W t)), some (.inl 0), none], [], _)) rfl ?_
      exact l2 p 0 m (by omega) h1 (fun q hq => by omega) (fun q _ hq => h2 q hq)
    | succ j ih =>
      intro i m hij h1 h2
      have q1 := hw i (by omega)
      have q2 := hW i (by omega)
      have q3 := sum_pos (p := p) (w := W) (by omega) (fun q hq => (hW q hq).1)
      have q4 := mulB ht q2
      rw [← q1] at q4
      have q5 := sumN_le (n := p) (F := W) (b := 200) (fun q hq => (hW q hq).2)
      refine aGo okX3_shareOut 3 (f' := (12, [some (.inr 64), some (.inl (t - sumN i (cutS p W t))), some (.inl (i : Int)), none], [.inl (p : Int), .inl (i : Int)], _)) rfl ?_
      refine b_ge (tgt := 64) okX3_shareOut rfl rfl ⟨by omega, by omega⟩ ⟨by omega, by omega⟩ (fun h12 => absurd h12 (by omega)) (fun h12 => ?_)
      refine aGo okX3_shareOut 2 (f' := (19, [some (.inr 64), some (.inl (t - sumN i (cutS p W t))), some (.inl (i : Int)), none], [.inl wa], _)) rfl ?_
      refine b0_le (tgt := 43) okX3_shareOut rfl rfl ⟨by omega, by omega⟩ (fun h19 => absurd h19 (by omega)) (fun h19 => ?_)
      refine aGo okX3_shareOut 5 (f' := (31, [some (.inr 64), some (.inl (t - sumN i (cutS p W t))), some (.inl (i : Int)), none], [.inl (i : Int), .inr 79, .inl t], _)) rfl ?_
      refine b_vV (as := [.inl (i : Int)]) (rest := [.inl t]) (k := 79) (.inl (w.getD i 0)) okX3_shareOut rfl lkX3_65 caX4_at (Nat.le_of_ble_eq_true rfl) rfl (Nat.le_of_ble_eq_true rfl) rfl rfl rfl (c_at (i := i) rfl rfl (by first | omega | (simp only [List.length_set]; omega)) (by omega)) ?_
      refine aGo okX3_shareOut 3 (f' := (39, [some (.inr 64), some (.inl (t - sumN i (cutS p W t))), some (.inl (i : Int)), none], [.inl wa, .inl (t * (w.getD i 0))], _)) rfl ?_
      refine b_div okX3_shareOut rfl ⟨by omega, by omega⟩ ⟨by omega, by omega⟩ ?_
      refine aGo okX3_shareOut 1 (f' := (44, [some (.inr 64), some (.inl (t - sumN i (cutS p W t))), some (.inl (i : Int)), none], [.inl ((t * (w.getD i 0)) / wa)], _)) rfl ?_
      refine b_cast (f' := (44, [some (.inr 64), some (.inl (t - sumN i (cutS p W t))), some (.inl (i : Int)), none], [.inl (cutS p W t i)], [A0, B, (moSeg 64 k f c n kp l nt w m (p : Int) t d wa), A3, B4, A5, C6])) (by unfold cutS; rw [q1, hwa]) ?_
      refine aGo okX3_shareOut 5 (f' := (51, [some (.inr 64), some (.inl (t - sumN i (cutS p W t))), some (.inl (i : Int)), some (.inl (cutS p W t i))], [.inl (cutS p W t i), .inl (i : Int), .inr 81], _)) rfl ?_
      refine b_vN (as := [.inl (i : Int), .inl (cutS p W t i)]) (rest := []) (k := 81) okX3_shareOut rfl lkX3_98 caX4_put (Nat.le_of_ble_eq_true rfl) rfl (Nat.le_of_ble_eq_true rfl) rfl rfl rfl (c_put (i := i) rfl rfl (by first | omega | (simp only [List.length_set]; omega)) (by first | omega | (simp only [List.length_set]; omega)) (cutS p W t i)) ?_
      refine b_cast (f' := (54, [some (.inr 64), some (.inl (t - sumN i (cutS p W t))), some (.inl (i : Int)), some (.inl (cutS p W t i))], [], [A0, B, (moSeg 64 k f c n kp l nt w (m.set i (cutS p W t i)) (p : Int) t d wa), A3, B4, A5, C6])) rfl ?_
      refine aGo okX3_shareOut 6 (f' := (7, [some (.inr 64), some (.inl ((t - sumN i (cutS p W t)) - (cutS p W t i))), some (.inl ((i : Int) + 1)), some (.inl (cutS p W t i))], [], _)) rfl ?_
      refine b_cast (f' := (7, [some (.inr 64), some (.inl (t - sumN (i + 1) (cutS p W t))), some (.inl ((i : Int) + 1)), some (.inl (cutS p W t i))], [], [A0, B, (moSeg 64 k f c n kp l nt w (m.set i (cutS p W t i)) (p : Int) t d wa), A3, B4, A5, C6])) (by simp only [sumN]; rw [show t - sumN i (cutS p W t) - cutS p W t i = t - (sumN i (cutS p W t) + cutS p W t i) by omega]) ?_
      refine b_lose (ls' := [some (.inr 64), some (.inl (t - sumN (i + 1) (cutS p W t))), some (.inl ((i : Int) + 1)), none]) (lose3 _ _ _ _) ?_
      exact ih (i + 1) (m.set i (cutS p W t i)) (by omega) (by rw [List.length_set]; exact h1) (set_upto (by omega) rfl h2)
  refine aGo okX3_shareOut 5 (f' := (7, [some (.inr 64), some (.inl t), some (.inl 0), none], [], _)) rfl ?_
  refine b_cast (f' := (7, [some (.inr 64), some (.inl (t - sumN 0 (cutS p W t))), some (.inl 0), none], [], [A0, B, (moSeg 64 k f c n kp l nt w sh (p : Int) t d wa), A3, B4, A5, C6])) (by simp only [sumN]; rw [Int.sub_zero]) ?_
  exact l1 p 0 sh (by omega) hsh (fun q hq => by omega)
set_option maxHeartbeats 4000000 in
theorem c_weigh_2 (hb : wH p k f c w sh t) : aEv mX3_weigh 3 0 0 N [.inr 64] [A0, B, (moSeg 64 k f c n kp l nt w sh (p : Int) t d wa), A3, B4, A5, C6] ((fun rv h => rv = none ∧ ∃ w2 sh2 : List Int, wOK p k f c w2 (wAll p k f c) ∧ sOK p k f c sh2 t ∧ h = [A0, B, (moSeg 64 k f c n kp l nt w2 sh2 (p : Int) t d (wAll p k f c)), A3, B4, A5, C6])) := by
  obtain ⟨hp7, hk, hf, hc, hw, hsh, rk, rf, rc, ht0, ht1⟩ := hb
  refine aEv_of okX3_weigh caX3_weigh (Nat.le_of_ble_eq_true rfl) ?_
  have lp : ∀ (j i : Nat) (m : List Int), i + j = p → (m.length = 7) → (∀ q, q < i → m.getD q 0 = wt p k f c q) → AW mX3_weigh 3 0 0 N none (fun rv h => rv = none ∧ ∃ w2 sh2 : List Int, wOK p k f c w2 (wAll p k f c) ∧ sOK p k f c sh2 t ∧ h = [A0, B, (moSeg 64 k f c n kp l nt w2 sh2 (p : Int) t d (wAll p k f c)), A3, B4, A5, C6]) (7, [some (.inr 64), some (.inl (i : Int)), none], [], [A0, B, (moSeg 64 k f c n kp l nt m sh (p : Int) t d (sumN i (wt p k f c))), A3, B4, A5, C6]) := by
    intro j
    induction j with
    | zero =>
      intro i m hij h1 h2
      obtain rfl : p = i := by omega
      refine aGo okX3_weigh 3 (f' := (12, [some (.inr 64), some (.inl (p : Int)), none], [.inl (p : Int), .inl (p : Int)], _)) rfl ?_
      refine b_ge (tgt := 46) okX3_weigh rfl rfl ⟨by omega, by omega⟩ ⟨by omega, by omega⟩ (fun h12 => ?_) (fun h12 => absurd h12 (by omega))
      refine aGo okX3_weigh 1 (f' := (47, [some (.inr 64), some (.inl (p : Int)), none], [.inr 64], _)) rfl ?_
      refine b_vE (as := []) (rest := []) (k := 64) okX3_weigh rfl lkX3_95 caX3_shareOut (Nat.le_of_ble_eq_true rfl) rfl (Nat.le_of_ble_eq_true rfl) rfl rfl rfl (c_shareOut_2 (W := wt p k f c) hp7 hsh h1 ⟨ht0, ht1⟩ h2 (fun q hq => wt_le hp7 rf rc q) rfl) ?_
      rintro _ _ ⟨rfl, sh2, z1, z2, rfl⟩
      exact b_ret (v := none) ⟨rfl, rfl⟩ ⟨rfl, m, sh2, ⟨h1, h2, rfl⟩, ⟨z1, z2⟩, rfl⟩ rfl
    | succ j ih =>
      intro i m hij h1 h2
      refine aGo okX3_weigh 3 (f' := (12, [some (.inr 64), some (.inl (i : Int)), none], [.inl (p : Int), .inl (i : Int)], _)) rfl ?_
      refine b_ge (tgt := 46) okX3_weigh rfl rfl ⟨by omega, by omega⟩ ⟨by omega, by omega⟩ (fun h12 => absurd h12 (by omega)) (fun h12 => ?_)
      refine aGo okX3_weigh 2 (f' := (17, [some (.inr 64), some (.inl (i : Int)), none], [.inl (i : Int), .inr 64], _)) rfl ?_
      refine b_vV (as := [.inl (i : Int)]) (rest := []) (k := 64) (.inl (wt p k f c i)) okX3_weigh rfl lkX3_115 caX3_weightNow (Nat.le_of_ble_eq_true rfl) rfl (Nat.le_of_ble_eq_true rfl) rfl rfl rfl (c_weightNow_2 ⟨hp7, hk, hf, hc, h1, hsh, rk, rf, rc, ht0, ht1⟩ (i := i) (by omega)) ?_
      refine aGo okX3_weigh 5 (f' := (27, [some (.inr 64), some (.inl (i : Int)), some (.inl (wt p k f c i))], [.inl (wt p k f c i), .inl (i : Int), .inr 79], _)) rfl ?_
      refine b_vN (as := [.inl (i : Int), .inl (wt p k f c i)]) (rest := []) (k := 79) okX3_weigh rfl lkX3_98 caX4_put (Nat.le_of_ble_eq_true rfl) rfl (Nat.le_of_ble_eq_true rfl) rfl rfl rfl (c_put (i := i) rfl rfl (by first | omega | (simp only [List.length_set]; omega)) (by first | omega | (simp only [List.length_set]; omega)) (wt p k f c i)) ?_
      refine b_cast (f' := (30, [some (.inr 64), some (.inl (i : Int)), some (.inl (wt p k f c i))], [], [A0, B, (moSeg 64 k f c n kp l nt (m.set i (wt p k f c i)) sh (p : Int) t d (sumN i (wt p k f c))), A3, B4, A5, C6])) rfl ?_
      refine aGo okX3_weigh 8 (f' := (7, [some (.inr 64), some (.inl ((i : Int) + 1)), some (.inl (wt p k f c i))], [], [A0, B, (moSeg 64 k f c n kp l nt (m.set i (wt p k f c i)) sh (p : Int) t d ((sumN i (wt p k f c)) + (wt p k f c i))), A3, B4, A5, C6])) rfl ?_
      refine b_cast (f' := (7, [some (.inr 64), some (.inl ((i : Int) + 1)), some (.inl (wt p k f c i))], [], [A0, B, (moSeg 64 k f c n kp l nt (m.set i (wt p k f c i)) sh (p : Int) t d (sumN (i + 1) (wt p k f c))), A3, B4, A5, C6])) rfl ?_
      refine b_lose (ls' := [some (.inr 64), some (.inl ((i : Int) + 1)), none]) (lose2 _ _ _) ?_
      exact ih (i + 1) (m.set i (wt p k f c i)) (by omega) (by rw [List.length_set]; exact h1) (set_upto (by omega) rfl h2)
  refine aGo okX3_weigh 5 (f' := (7, [some (.inr 64), some (.inl 0), none], [], [A0, B, (moSeg 64 k f c n kp l nt w sh (p : Int) t d 0), A3, B4, A5, C6])) rfl ?_
  exact lp p 0 w (by omega) hw (fun q hq => by omega)
end AMQ
