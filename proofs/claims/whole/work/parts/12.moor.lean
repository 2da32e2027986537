/-! The contracts of the class's Moor; laid by gen_moor.py -/
theorem c_steps {N : Nat} {h : aH} {x y : Int} (hx : 0 ≤ x ∧ x ≤ 35) (hy : 0 ≤ y ∧ y ≤ 35) : aEx mX7_steps 1 N [.inl x, .inl y] h (some (.inl (stp x y))) h := by
  refine aEv_of okX7_steps caX7_steps (Nat.le_of_ble_eq_true rfl) ?_
  refine aGo okX7_steps 2 (f' := (3, [some (.inl x), some (.inl y)], [.inl 6, .inl x], _)) rfl ?_
  refine b_div okX7_steps rfl ⟨by omega, by omega⟩ ⟨by omega, by omega⟩ ?_
  refine aGo okX7_steps 2 (f' := (7, [some (.inl x), some (.inl y)], [.inl 6, .inl y, .inl (x / 6)], _)) rfl ?_
  refine b_div okX7_steps rfl ⟨by omega, by omega⟩ ⟨by omega, by omega⟩ ?_
  refine aGo okX7_steps 1 (f' := (9, [some (.inl x), some (.inl y)], [.inl ((x / 6) - (y / 6))], _)) rfl ?_
  refine b_abs okX7_steps rfl lkX7_293 ma_abs_s ma_abs_c (Nat.le_of_ble_eq_true rfl) (Nat.le_of_ble_eq_true rfl) ⟨by omega, by omega⟩ ?_
  refine aGo okX7_steps 2 (f' := (15, [some (.inl x), some (.inl y)], [.inl 6, .inl x, .inl (aAbs ((x / 6) - (y / 6)))], _)) rfl ?_
  refine b_rem okX7_steps rfl ⟨by omega, by omega⟩ ⟨by omega, by omega⟩ ?_
  refine aGo okX7_steps 2 (f' := (19, [some (.inl x), some (.inl y)], [.inl 6, .inl y, .inl (x % 6), .inl (aAbs ((x / 6) - (y / 6)))], _)) rfl ?_
  refine b_rem okX7_steps rfl ⟨by omega, by omega⟩ ⟨by omega, by omega⟩ ?_
  refine aGo okX7_steps 1 (f' := (21, [some (.inl x), some (.inl y)], [.inl ((x % 6) - (y % 6)), .inl (aAbs ((x / 6) - (y / 6)))], _)) rfl ?_
  refine b_abs okX7_steps rfl lkX7_293 ma_abs_s ma_abs_c (Nat.le_of_ble_eq_true rfl) (Nat.le_of_ble_eq_true rfl) ⟨by omega, by omega⟩ ?_
  refine aGo okX7_steps 1 (f' := (25, [some (.inl x), some (.inl y)], [.inl ((aAbs ((x / 6) - (y / 6))) + (aAbs ((x % 6) - (y % 6))))], _)) rfl ?_
  exact b_ret (v := (some (.inl ((aAbs ((x / 6) - (y / 6))) + (aAbs ((x % 6) - (y % 6))))))) ⟨rfl, Or.inl rfl⟩ ⟨rfl, rfl⟩ rfl
section AMO
variable {A0 B A3 B4 A5 C6 : List (Option aE)} {k f c n kp l nt w sh : List Int} {p : Nat} {t d wa : Int} {N : Nat}
set_option maxHeartbeats 4000000 in
theorem c_kindOf_1 (hl : k.length < 65536) {i : Nat} (hi : i < 65536) : aEx mX3_kindOf 1 N [.inr 32, .inl (i : Int)] [A0, (moSeg 32 k f c n kp l nt w sh (p : Int) t d wa), B, A3, B4, A5, C6] (some (.inl (k.getD i 0))) [A0, (moSeg 32 k f c n kp l nt w sh (p : Int) t d wa), B, A3, B4, A5, C6] := by
  refine aEv_of okX3_kindOf caX3_kindOf (Nat.le_of_ble_eq_true rfl) ?_
  refine aGo okX3_kindOf 3 (f' := (5, [some (.inr 32), some (.inl (i : Int))], [.inl (i : Int), .inr 33], _)) rfl ?_
  refine b_vV (as := [.inl (i : Int)]) (rest := []) (k := 33) (.inl (k.getD i 0)) okX3_kindOf rfl lkX3_65 caX4_at (Nat.le_of_ble_eq_true rfl) rfl (Nat.le_of_ble_eq_true rfl) rfl rfl rfl (c_at (i := i) rfl rfl (by first | omega | (simp only [List.length_set]; omega)) (by omega)) ?_
  exact b_ret (v := (some (.inl (k.getD i 0)))) ⟨rfl, Or.inl rfl⟩ ⟨rfl, rfl⟩ rfl
set_option maxHeartbeats 4000000 in
theorem c_figureOf_1 (hl : f.length < 65536) {i : Nat} (hi : i < 65536) : aEx mX3_figureOf 1 N [.inr 32, .inl (i : Int)] [A0, (moSeg 32 k f c n kp l nt w sh (p : Int) t d wa), B, A3, B4, A5, C6] (some (.inl (f.getD i 0))) [A0, (moSeg 32 k f c n kp l nt w sh (p : Int) t d wa), B, A3, B4, A5, C6] := by
  refine aEv_of okX3_figureOf caX3_figureOf (Nat.le_of_ble_eq_true rfl) ?_
  refine aGo okX3_figureOf 3 (f' := (5, [some (.inr 32), some (.inl (i : Int))], [.inl (i : Int), .inr 35], _)) rfl ?_
  refine b_vV (as := [.inl (i : Int)]) (rest := []) (k := 35) (.inl (f.getD i 0)) okX3_figureOf rfl lkX3_65 caX4_at (Nat.le_of_ble_eq_true rfl) rfl (Nat.le_of_ble_eq_true rfl) rfl rfl rfl (c_at (i := i) rfl rfl (by first | omega | (simp only [List.length_set]; omega)) (by omega)) ?_
  exact b_ret (v := (some (.inl (f.getD i 0)))) ⟨rfl, Or.inl rfl⟩ ⟨rfl, rfl⟩ rfl
set_option maxHeartbeats 4000000 in
theorem c_cellOf_1 (hl : c.length < 65536) {i : Nat} (hi : i < 65536) : aEx mX3_cellOf 1 N [.inr 32, .inl (i : Int)] [A0, (moSeg 32 k f c n kp l nt w sh (p : Int) t d wa), B, A3, B4, A5, C6] (some (.inl (c.getD i 0))) [A0, (moSeg 32 k f c n kp l nt w sh (p : Int) t d wa), B, A3, B4, A5, C6] := by
  refine aEv_of okX3_cellOf caX3_cellOf (Nat.le_of_ble_eq_true rfl) ?_
  refine aGo okX3_cellOf 3 (f' := (5, [some (.inr 32), some (.inl (i : Int))], [.inl (i : Int), .inr 37], _)) rfl ?_
  refine b_vV (as := [.inl (i : Int)]) (rest := []) (k := 37) (.inl (c.getD i 0)) okX3_cellOf rfl lkX3_65 caX4_at (Nat.le_of_ble_eq_true rfl) rfl (Nat.le_of_ble_eq_true rfl) rfl rfl rfl (c_at (i := i) rfl rfl (by first | omega | (simp only [List.length_set]; omega)) (by omega)) ?_
  exact b_ret (v := (some (.inl (c.getD i 0)))) ⟨rfl, Or.inl rfl⟩ ⟨rfl, rfl⟩ rfl
set_option maxHeartbeats 4000000 in
theorem c_needOf_1 (hl : n.length < 65536) {i : Nat} (hi : i < 65536) : aEx mX3_needOf 1 N [.inr 32, .inl (i : Int)] [A0, (moSeg 32 k f c n kp l nt w sh (p : Int) t d wa), B, A3, B4, A5, C6] (some (.inl (n.getD i 0))) [A0, (moSeg 32 k f c n kp l nt w sh (p : Int) t d wa), B, A3, B4, A5, C6] := by
  refine aEv_of okX3_needOf caX3_needOf (Nat.le_of_ble_eq_true rfl) ?_
  refine aGo okX3_needOf 3 (f' := (5, [some (.inr 32), some (.inl (i : Int))], [.inl (i : Int), .inr 39], _)) rfl ?_
  refine b_vV (as := [.inl (i : Int)]) (rest := []) (k := 39) (.inl (n.getD i 0)) okX3_needOf rfl lkX3_65 caX4_at (Nat.le_of_ble_eq_true rfl) rfl (Nat.le_of_ble_eq_true rfl) rfl rfl rfl (c_at (i := i) rfl rfl (by first | omega | (simp only [List.length_set]; omega)) (by omega)) ?_
  exact b_ret (v := (some (.inl (n.getD i 0)))) ⟨rfl, Or.inl rfl⟩ ⟨rfl, rfl⟩ rfl
set_option maxHeartbeats 4000000 in
theorem c_keptOf_1 (hl : kp.length < 65536) {i : Nat} (hi : i < 65536) : aEx mX3_keptOf 1 N [.inr 32, .inl (i : Int)] [A0, (moSeg 32 k f c n kp l nt w sh (p : Int) t d wa), B, A3, B4, A5, C6] (some (.inl (kp.getD i 0))) [A0, (moSeg 32 k f c n kp l nt w sh (p : Int) t d wa), B, A3, B4, A5, C6] := by
  refine aEv_of okX3_keptOf caX3_keptOf (Nat.le_of_ble_eq_true rfl) ?_
  refine aGo okX3_keptOf 3 (f' := (5, [some (.inr 32), some (.inl (i : Int))], [.inl (i : Int), .inr 41], _)) rfl ?_
  refine b_vV (as := [.inl (i : Int)]) (rest := []) (k := 41) (.inl (kp.getD i 0)) okX3_keptOf rfl lkX3_65 caX4_at (Nat.le_of_ble_eq_true rfl) rfl (Nat.le_of_ble_eq_true rfl) rfl rfl rfl (c_at (i := i) rfl rfl (by first | omega | (simp only [List.length_set]; omega)) (by omega)) ?_
  exact b_ret (v := (some (.inl (kp.getD i 0)))) ⟨rfl, Or.inl rfl⟩ ⟨rfl, rfl⟩ rfl
set_option maxHeartbeats 4000000 in
theorem c_weightOf_1 (hl : w.length < 65536) {i : Nat} (hi : i < 65536) : aEx mX3_weightOf 1 N [.inr 32, .inl (i : Int)] [A0, (moSeg 32 k f c n kp l nt w sh (p : Int) t d wa), B, A3, B4, A5, C6] (some (.inl (w.getD i 0))) [A0, (moSeg 32 k f c n kp l nt w sh (p : Int) t d wa), B, A3, B4, A5, C6] := by
  refine aEv_of okX3_weightOf caX3_weightOf (Nat.le_of_ble_eq_true rfl) ?_
  refine aGo okX3_weightOf 3 (f' := (5, [some (.inr 32), some (.inl (i : Int))], [.inl (i : Int), .inr 47], _)) rfl ?_
  refine b_vV (as := [.inl (i : Int)]) (rest := []) (k := 47) (.inl (w.getD i 0)) okX3_weightOf rfl lkX3_65 caX4_at (Nat.le_of_ble_eq_true rfl) rfl (Nat.le_of_ble_eq_true rfl) rfl rfl rfl (c_at (i := i) rfl rfl (by first | omega | (simp only [List.length_set]; omega)) (by omega)) ?_
  exact b_ret (v := (some (.inl (w.getD i 0)))) ⟨rfl, Or.inl rfl⟩ ⟨rfl, rfl⟩ rfl
set_option maxHeartbeats 4000000 in
theorem c_shareOf_1 (hl : sh.length < 65536) {i : Nat} (hi : i < 65536) : aEx mX3_shareOf 1 N [.inr 32, .inl (i : Int)] [A0, (moSeg 32 k f c n kp l nt w sh (p : Int) t d wa), B, A3, B4, A5, C6] (some (.inl (sh.getD i 0))) [A0, (moSeg 32 k f c n kp l nt w sh (p : Int) t d wa), B, A3, B4, A5, C6] := by
  refine aEv_of okX3_shareOf caX3_shareOf (Nat.le_of_ble_eq_true rfl) ?_
  refine aGo okX3_shareOf 3 (f' := (5, [some (.inr 32), some (.inl (i : Int))], [.inl (i : Int), .inr 49], _)) rfl ?_
  refine b_vV (as := [.inl (i : Int)]) (rest := []) (k := 49) (.inl (sh.getD i 0)) okX3_shareOf rfl lkX3_65 caX4_at (Nat.le_of_ble_eq_true rfl) rfl (Nat.le_of_ble_eq_true rfl) rfl rfl rfl (c_at (i := i) rfl rfl (by first | omega | (simp only [List.length_set]; omega)) (by omega)) ?_
  exact b_ret (v := (some (.inl (sh.getD i 0)))) ⟨rfl, Or.inl rfl⟩ ⟨rfl, rfl⟩ rfl
set_option maxHeartbeats 4000000 in
theorem c_netOf_1 (hl : nt.length < 65536) {i : Nat} (hi : i < 65536) : aEx mX3_netOf 1 N [.inr 32, .inl (i : Int)] [A0, (moSeg 32 k f c n kp l nt w sh (p : Int) t d wa), B, A3, B4, A5, C6] (some (.inl (nt.getD i 0))) [A0, (moSeg 32 k f c n kp l nt w sh (p : Int) t d wa), B, A3, B4, A5, C6] := by
  refine aEv_of okX3_netOf caX3_netOf (Nat.le_of_ble_eq_true rfl) ?_
  refine aGo okX3_netOf 3 (f' := (5, [some (.inr 32), some (.inl (i : Int))], [.inl (i : Int), .inr 45], _)) rfl ?_
  refine b_vV (as := [.inl (i : Int)]) (rest := []) (k := 45) (.inl (nt.getD i 0)) okX3_netOf rfl lkX3_65 caX4_at (Nat.le_of_ble_eq_true rfl) rfl (Nat.le_of_ble_eq_true rfl) rfl rfl rfl (c_at (i := i) rfl rfl (by first | omega | (simp only [List.length_set]; omega)) (by omega)) ?_
  exact b_ret (v := (some (.inl (nt.getD i 0)))) ⟨rfl, Or.inl rfl⟩ ⟨rfl, rfl⟩ rfl
set_option maxHeartbeats 4000000 in
theorem c_people_1  : aEx mX3_people 0 N [.inr 32] [A0, (moSeg 32 k f c n kp l nt w sh (p : Int) t d wa), B, A3, B4, A5, C6] (some (.inl (p : Int))) [A0, (moSeg 32 k f c n kp l nt w sh (p : Int) t d wa), B, A3, B4, A5, C6] := by
  refine aEv_of okX3_people caX3_people (Nat.le_of_ble_eq_true rfl) ?_
  refine aGo okX3_people 2 (f' := (4, [some (.inr 32)], [.inl (p : Int)], _)) rfl ?_
  exact b_ret (v := (some (.inl (p : Int)))) ⟨rfl, Or.inl rfl⟩ ⟨rfl, rfl⟩ rfl
set_option maxHeartbeats 4000000 in
theorem c_total_1  : aEx mX3_total 0 N [.inr 32] [A0, (moSeg 32 k f c n kp l nt w sh (p : Int) t d wa), B, A3, B4, A5, C6] (some (.inl t)) [A0, (moSeg 32 k f c n kp l nt w sh (p : Int) t d wa), B, A3, B4, A5, C6] := by
  refine aEv_of okX3_total caX3_total (Nat.le_of_ble_eq_true rfl) ?_
  refine aGo okX3_total 2 (f' := (4, [some (.inr 32)], [.inl t], _)) rfl ?_
  exact b_ret (v := (some (.inl t))) ⟨rfl, Or.inl rfl⟩ ⟨rfl, rfl⟩ rfl
set_option maxHeartbeats 4000000 in
theorem c_day_1  : aEx mX3_day 0 N [.inr 32] [A0, (moSeg 32 k f c n kp l nt w sh (p : Int) t d wa), B, A3, B4, A5, C6] (some (.inl d)) [A0, (moSeg 32 k f c n kp l nt w sh (p : Int) t d wa), B, A3, B4, A5, C6] := by
  refine aEv_of okX3_day caX3_day (Nat.le_of_ble_eq_true rfl) ?_
  refine aGo okX3_day 2 (f' := (4, [some (.inr 32)], [.inl d], _)) rfl ?_
  exact b_ret (v := (some (.inl d))) ⟨rfl, Or.inl rfl⟩ ⟨rfl, rfl⟩ rfl
set_option maxHeartbeats 4000000 in
theorem c_allWeights_1  : aEx mX3_allWeights 0 N [.inr 32] [A0, (moSeg 32 k f c n kp l nt w sh (p : Int) t d wa), B, A3, B4, A5, C6] (some (.inl wa)) [A0, (moSeg 32 k f c n kp l nt w sh (p : Int) t d wa), B, A3, B4, A5, C6] := by
  refine aEv_of okX3_allWeights caX3_allWeights (Nat.le_of_ble_eq_true rfl) ?_
  refine aGo okX3_allWeights 2 (f' := (4, [some (.inr 32)], [.inl wa], _)) rfl ?_
  exact b_ret (v := (some (.inl wa))) ⟨rfl, Or.inl rfl⟩ ⟨rfl, rfl⟩ rfl
set_option maxHeartbeats 4000000 in
theorem c_hasOf_1 (h1 : sh.length < 65536) (h2 : nt.length < 65536) {i : Nat} (hi : i < 65536) : aEx mX3_hasOf 1 N [.inr 32, .inl (i : Int)] [A0, (moSeg 32 k f c n kp l nt w sh (p : Int) t d wa), B, A3, B4, A5, C6] (some (.inl (sh.getD i 0 - nt.getD i 0))) [A0, (moSeg 32 k f c n kp l nt w sh (p : Int) t d wa), B, A3, B4, A5, C6] := by
  refine aEv_of okX3_hasOf caX3_hasOf (Nat.le_of_ble_eq_true rfl) ?_
  refine aGo okX3_hasOf 3 (f' := (5, [some (.inr 32), some (.inl (i : Int))], [.inl (i : Int), .inr 49], _)) rfl ?_
  refine b_vV (as := [.inl (i : Int)]) (rest := []) (k := 49) (.inl (sh.getD i 0)) okX3_hasOf rfl lkX3_65 caX4_at (Nat.le_of_ble_eq_true rfl) rfl (Nat.le_of_ble_eq_true rfl) rfl rfl rfl (c_at (i := i) rfl rfl (by first | omega | (simp only [List.length_set]; omega)) (by omega)) ?_
  refine aGo okX3_hasOf 3 (f' := (13, [some (.inr 32), some (.inl (i : Int))], [.inl (i : Int), .inr 45, .inl (sh.getD i 0)], _)) rfl ?_
  refine b_vV (as := [.inl (i : Int)]) (rest := [.inl (sh.getD i 0)]) (k := 45) (.inl (nt.getD i 0)) okX3_hasOf rfl lkX3_65 caX4_at (Nat.le_of_ble_eq_true rfl) rfl (Nat.le_of_ble_eq_true rfl) rfl rfl rfl (c_at (i := i) rfl rfl (by first | omega | (simp only [List.length_set]; omega)) (by omega)) ?_
  refine aGo okX3_hasOf 1 (f' := (17, [some (.inr 32), some (.inl (i : Int))], [.inl ((sh.getD i 0) - (nt.getD i 0))], _)) rfl ?_
  exact b_ret (v := (some (.inl ((sh.getD i 0) - (nt.getD i 0))))) ⟨rfl, Or.inl rfl⟩ ⟨rfl, rfl⟩ rfl
set_option maxHeartbeats 4000000 in
theorem c_lentBy_1 (h1 : l.length < 65536) {i j : Nat} (hi : i < 100) (hj : j < 100) : aEx mX3_lentBy 1 N [.inr 32, .inl (i : Int), .inl (j : Int)] [A0, (moSeg 32 k f c n kp l nt w sh (p : Int) t d wa), B, A3, B4, A5, C6] (some (.inl (l.getD (7 * i + j) 0))) [A0, (moSeg 32 k f c n kp l nt w sh (p : Int) t d wa), B, A3, B4, A5, C6] := by
  refine aEv_of okX3_lentBy caX3_lentBy (Nat.le_of_ble_eq_true rfl) ?_
  refine aGo okX3_lentBy 7 (f' := (10, [some (.inr 32), some (.inl (i : Int)), some (.inl (j : Int))], [.inl (((i : Int) * 7) + (j : Int)), .inr 43], _)) rfl ?_
  refine b_vV (as := [.inl (((i : Int) * 7) + (j : Int))]) (rest := []) (k := 43) (.inl (l.getD ((i * 7) + j) 0)) okX3_lentBy rfl lkX3_65 caX4_at (Nat.le_of_ble_eq_true rfl) rfl (Nat.le_of_ble_eq_true rfl) rfl rfl rfl (c_at (i := ((i * 7) + j)) rfl rfl (by first | omega | (simp only [List.length_set]; omega)) (by omega)) ?_
  exact b_ret (v := (some (.inl (l.getD ((i * 7) + j) 0)))) ⟨rfl, Or.inl rfl⟩ ⟨by rw [show 7 * i + j = i * 7 + j by omega], rfl⟩ rfl
set_option maxHeartbeats 4000000 in
theorem c_putLent_1 (h1 : l.length = 49) {i j : Nat} (hi : i < 7) (hj : j < 7) (v : Int) : aEx mX3_putLent 1 N [.inr 32, .inl (i : Int), .inl (j : Int), .inl v] [A0, (moSeg 32 k f c n kp l nt w sh (p : Int) t d wa), B, A3, B4, A5, C6] (none) [A0, (moSeg 32 k f c n kp (l.set (7 * i + j) v) nt w sh (p : Int) t d wa), B, A3, B4, A5, C6] := by
  refine aEv_of okX3_putLent caX3_putLent (Nat.le_of_ble_eq_true rfl) ?_
  refine aGo okX3_putLent 8 (f' := (11, [some (.inr 32), some (.inl (i : Int)), some (.inl (j : Int)), some (.inl v)], [.inl v, .inl (((i : Int) * 7) + (j : Int)), .inr 43], _)) rfl ?_
  refine b_vN (as := [.inl (((i : Int) * 7) + (j : Int)), .inl v]) (rest := []) (k := 43) okX3_putLent rfl lkX3_98 caX4_put (Nat.le_of_ble_eq_true rfl) rfl (Nat.le_of_ble_eq_true rfl) rfl rfl rfl (c_put (i := ((i * 7) + j)) rfl rfl (by first | omega | (simp only [List.length_set]; omega)) (by first | omega | (simp only [List.length_set]; omega)) v) ?_
  refine b_cast (f' := (14, [some (.inr 32), some (.inl (i : Int)), some (.inl (j : Int)), some (.inl v)], [], [A0, (moSeg 32 k f c n kp (l.set ((i * 7) + j) v) nt w sh (p : Int) t d wa), B, A3, B4, A5, C6])) rfl ?_
  exact b_ret (v := none) ⟨rfl, rfl⟩ ⟨rfl, by rw [show 7 * i + j = i * 7 + j by omega]⟩ rfl
set_option maxHeartbeats 4000000 in
theorem c_isThere_1_t {x : Int} (hp : p ≤ 7) (h0 : 0 ≤ x) (h1 : x < p) : aEx mX3_isThere 0 N [.inr 32, .inl x] [A0, (moSeg 32 k f c n kp l nt w sh (p : Int) t d wa), B, A3, B4, A5, C6] (some (.inl 1)) [A0, (moSeg 32 k f c n kp l nt w sh (p : Int) t d wa), B, A3, B4, A5, C6] := by
  refine aEv_of okX3_isThere caX3_isThere (Nat.le_of_ble_eq_true rfl) ?_
  refine aGo okX3_isThere 1 (f' := (1, [some (.inr 32), some (.inl x)], [.inl x], _)) rfl ?_
  refine b0_lt (tgt := 16) okX3_isThere rfl rfl ⟨by omega, by omega⟩ (fun h1 => absurd h1 (by omega)) (fun h1 => ?_)
  refine aGo okX3_isThere 3 (f' := (9, [some (.inr 32), some (.inl x)], [.inl (p : Int), .inl x], _)) rfl ?_
  refine b_ge (tgt := 16) okX3_isThere rfl rfl ⟨by omega, by omega⟩ ⟨by omega, by omega⟩ (fun h9 => absurd h9 (by omega)) (fun h9 => ?_)
  refine aGo okX3_isThere 2 (f' := (17, [some (.inr 32), some (.inl x)], [.inl 1], _)) rfl ?_
  exact b_ret (v := (some (.inl 1))) ⟨rfl, Or.inr ⟨rfl, Or.inr rfl⟩⟩ ⟨rfl, rfl⟩ rfl
set_option maxHeartbeats 4000000 in
theorem c_isThere_1_f {x : Int} (hp : p ≤ 7) (hx : aI x) (h0 : ¬ (0 ≤ x ∧ x < p)) : aEx mX3_isThere 0 N [.inr 32, .inl x] [A0, (moSeg 32 k f c n kp l nt w sh (p : Int) t d wa), B, A3, B4, A5, C6] (some (.inl 0)) [A0, (moSeg 32 k f c n kp l nt w sh (p : Int) t d wa), B, A3, B4, A5, C6] := by
  refine aEv_of okX3_isThere caX3_isThere (Nat.le_of_ble_eq_true rfl) ?_
  obtain ⟨hx1, hx2⟩ := hx
  refine aGo okX3_isThere 1 (f' := (1, [some (.inr 32), some (.inl x)], [.inl x], _)) rfl ?_
  refine b0_lt (tgt := 16) okX3_isThere rfl rfl ⟨by omega, by omega⟩ (fun h1 => ?_) (fun h1 => ?_)
  · refine aGo okX3_isThere 1 (f' := (17, [some (.inr 32), some (.inl x)], [.inl 0], _)) rfl ?_
    exact b_ret (v := (some (.inl 0))) ⟨rfl, Or.inr ⟨rfl, Or.inl rfl⟩⟩ ⟨rfl, rfl⟩ rfl
  · refine aGo okX3_isThere 3 (f' := (9, [some (.inr 32), some (.inl x)], [.inl (p : Int), .inl x], _)) rfl ?_
    refine b_ge (tgt := 16) okX3_isThere rfl rfl ⟨by omega, by omega⟩ ⟨by omega, by omega⟩ (fun h9 => ?_) (fun h9 => absurd h9 (by omega))
    refine aGo okX3_isThere 1 (f' := (17, [some (.inr 32), some (.inl x)], [.inl 0], _)) rfl ?_
    exact b_ret (v := (some (.inl 0))) ⟨rfl, Or.inr ⟨rfl, Or.inl rfl⟩⟩ ⟨rfl, rfl⟩ rfl
set_option maxHeartbeats 4000000 in
theorem c_areTwo_1_t {x y : Int} (hp : p ≤ 7) (h0 : 0 ≤ x ∧ x < p) (h1 : 0 ≤ y ∧ y < p) (h2 : x ≠ y) : aEx mX3_areTwo 1 N [.inr 32, .inl x, .inl y] [A0, (moSeg 32 k f c n kp l nt w sh (p : Int) t d wa), B, A3, B4, A5, C6] (some (.inl 1)) [A0, (moSeg 32 k f c n kp l nt w sh (p : Int) t d wa), B, A3, B4, A5, C6] := by
  refine aEv_of okX3_areTwo caX3_areTwo (Nat.le_of_ble_eq_true rfl) ?_
  refine aGo okX3_areTwo 2 (f' := (2, [some (.inr 32), some (.inl x), some (.inl y)], [.inl x, .inr 32], _)) rfl ?_
  refine b_vV (as := [.inl x]) (rest := []) (k := 32) (.inl 1) okX3_areTwo rfl lkX3_61 caX3_isThere (Nat.le_of_ble_eq_true rfl) rfl (Nat.le_of_ble_eq_true rfl) rfl rfl rfl (c_isThere_1_t (x := x) hp h0.1 h0.2) ?_
  refine b0_eq (tgt := 25) okX3_areTwo rfl rfl ⟨by omega, by omega⟩ (fun h5 => absurd h5 (by omega)) (fun h5 => ?_)
  refine aGo okX3_areTwo 2 (f' := (10, [some (.inr 32), some (.inl x), some (.inl y)], [.inl y, .inr 32], _)) rfl ?_
  refine b_vV (as := [.inl y]) (rest := []) (k := 32) (.inl 1) okX3_areTwo rfl lkX3_61 caX3_isThere (Nat.le_of_ble_eq_true rfl) rfl (Nat.le_of_ble_eq_true rfl) rfl rfl rfl (c_isThere_1_t (x := y) hp h1.1 h1.2) ?_
  refine b0_eq (tgt := 25) okX3_areTwo rfl rfl ⟨by omega, by omega⟩ (fun h13 => absurd h13 (by omega)) (fun h13 => ?_)
  refine aGo okX3_areTwo 2 (f' := (18, [some (.inr 32), some (.inl x), some (.inl y)], [.inl y, .inl x], _)) rfl ?_
  refine b_eq (tgt := 25) okX3_areTwo rfl rfl ⟨by omega, by omega⟩ ⟨by omega, by omega⟩ (fun h18 => absurd h18 (h2)) (fun h18 => ?_)
  refine aGo okX3_areTwo 2 (f' := (26, [some (.inr 32), some (.inl x), some (.inl y)], [.inl 1], _)) rfl ?_
  exact b_ret (v := (some (.inl 1))) ⟨rfl, Or.inr ⟨rfl, Or.inr rfl⟩⟩ ⟨rfl, rfl⟩ rfl
set_option maxHeartbeats 4000000 in
theorem c_areTwo_1_f {x y : Int} (hp : p ≤ 7) (hx : aI x) (hy : aI y) (h0 : ¬ (0 ≤ x ∧ x < p ∧ 0 ≤ y ∧ y < p ∧ x ≠ y)) : aEx mX3_areTwo 1 N [.inr 32, .inl x, .inl y] [A0, (moSeg 32 k f c n kp l nt w sh (p : Int) t d wa), B, A3, B4, A5, C6] (some (.inl 0)) [A0, (moSeg 32 k f c n kp l nt w sh (p : Int) t d wa), B, A3, B4, A5, C6] := by
  refine aEv_of okX3_areTwo caX3_areTwo (Nat.le_of_ble_eq_true rfl) ?_
  obtain ⟨hx1, hx2⟩ := hx
  obtain ⟨hy1, hy2⟩ := hy
  refine aGo okX3_areTwo 2 (f' := (2, [some (.inr 32), some (.inl x), some (.inl y)], [.inl x, .inr 32], _)) rfl ?_
  by_cases hc2 : 0 ≤ x ∧ x < (p : Int)
  · refine b_vV (as := [.inl x]) (rest := []) (k := 32) (.inl 1) okX3_areTwo rfl lkX3_61 caX3_isThere (Nat.le_of_ble_eq_true rfl) rfl (Nat.le_of_ble_eq_true rfl) rfl rfl rfl (c_isThere_1_t (x := x) (by omega) hc2.1 hc2.2) ?_
    refine b0_eq (tgt := 25) okX3_areTwo rfl rfl ⟨by omega, by omega⟩ (fun h5 => absurd h5 (by omega)) (fun h5 => ?_)
    refine aGo okX3_areTwo 2 (f' := (10, [some (.inr 32), some (.inl x), some (.inl y)], [.inl y, .inr 32], _)) rfl ?_
    by_cases hc10 : 0 ≤ y ∧ y < (p : Int)
    · refine b_vV (as := [.inl y]) (rest := []) (k := 32) (.inl 1) okX3_areTwo rfl lkX3_61 caX3_isThere (Nat.le_of_ble_eq_true rfl) rfl (Nat.le_of_ble_eq_true rfl) rfl rfl rfl (c_isThere_1_t (x := y) (by omega) hc10.1 hc10.2) ?_
      refine b0_eq (tgt := 25) okX3_areTwo rfl rfl ⟨by omega, by omega⟩ (fun h13 => absurd h13 (by omega)) (fun h13 => ?_)
      refine aGo okX3_areTwo 2 (f' := (18, [some (.inr 32), some (.inl x), some (.inl y)], [.inl y, .inl x], _)) rfl ?_
      refine b_eq (tgt := 25) okX3_areTwo rfl rfl ⟨by omega, by omega⟩ ⟨by omega, by omega⟩ (fun h18 => ?_) (fun h18 => absurd h18 (by omega))
      refine aGo okX3_areTwo 1 (f' := (26, [some (.inr 32), some (.inl x), some (.inl y)], [.inl 0], _)) rfl ?_
      exact b_ret (v := (some (.inl 0))) ⟨rfl, Or.inr ⟨rfl, Or.inl rfl⟩⟩ ⟨rfl, rfl⟩ rfl
    · refine b_vV (as := [.inl y]) (rest := []) (k := 32) (.inl 0) okX3_areTwo rfl lkX3_61 caX3_isThere (Nat.le_of_ble_eq_true rfl) rfl (Nat.le_of_ble_eq_true rfl) rfl rfl rfl (c_isThere_1_f (x := y) (by omega) ⟨by omega, by omega⟩ hc10) ?_
      refine b0_eq (tgt := 25) okX3_areTwo rfl rfl ⟨by omega, by omega⟩ (fun h13 => ?_) (fun h13 => absurd h13 (by omega))
      refine aGo okX3_areTwo 1 (f' := (26, [some (.inr 32), some (.inl x), some (.inl y)], [.inl 0], _)) rfl ?_
      exact b_ret (v := (some (.inl 0))) ⟨rfl, Or.inr ⟨rfl, Or.inl rfl⟩⟩ ⟨rfl, rfl⟩ rfl
  · refine b_vV (as := [.inl x]) (rest := []) (k := 32) (.inl 0) okX3_areTwo rfl lkX3_61 caX3_isThere (Nat.le_of_ble_eq_true rfl) rfl (Nat.le_of_ble_eq_true rfl) rfl rfl rfl (c_isThere_1_f (x := x) (by omega) ⟨by omega, by omega⟩ hc2) ?_
    refine b0_eq (tgt := 25) okX3_areTwo rfl rfl ⟨by omega, by omega⟩ (fun h5 => ?_) (fun h5 => absurd h5 (by omega))
    refine aGo okX3_areTwo 1 (f' := (26, [some (.inr 32), some (.inl x), some (.inl y)], [.inl 0], _)) rfl ?_
    exact b_ret (v := (some (.inl 0))) ⟨rfl, Or.inr ⟨rfl, Or.inl rfl⟩⟩ ⟨rfl, rfl⟩ rfl
set_option maxHeartbeats 4000000 in
theorem c_stepsOf_1 (h1 : c.length < 65536) (rc : rng c 35) {i j : Nat} (hi : i < 65536) (hj : j < 65536) : aEx mX3_stepsOf 2 N [.inr 32, .inl (i : Int), .inl (j : Int)] [A0, (moSeg 32 k f c n kp l nt w sh (p : Int) t d wa), B, A3, B4, A5, C6] (some (.inl (stp (c.getD i 0) (c.getD j 0)))) [A0, (moSeg 32 k f c n kp l nt w sh (p : Int) t d wa), B, A3, B4, A5, C6] := by
  refine aEv_of okX3_stepsOf caX3_stepsOf (Nat.le_of_ble_eq_true rfl) ?_
  have r1 := rc i
  have r2 := rc j
  refine aGo okX3_stepsOf 3 (f' := (5, [some (.inr 32), some (.inl (i : Int)), some (.inl (j : Int))], [.inl (i : Int), .inr 37], _)) rfl ?_
  refine b_vV (as := [.inl (i : Int)]) (rest := []) (k := 37) (.inl (c.getD i 0)) okX3_stepsOf rfl lkX3_65 caX4_at (Nat.le_of_ble_eq_true rfl) rfl (Nat.le_of_ble_eq_true rfl) rfl rfl rfl (c_at (i := i) rfl rfl (by first | omega | (simp only [List.length_set]; omega)) (by omega)) ?_
  refine aGo okX3_stepsOf 3 (f' := (13, [some (.inr 32), some (.inl (i : Int)), some (.inl (j : Int))], [.inl (j : Int), .inr 37, .inl (c.getD i 0)], _)) rfl ?_
  refine b_vV (as := [.inl (j : Int)]) (rest := [.inl (c.getD i 0)]) (k := 37) (.inl (c.getD j 0)) okX3_stepsOf rfl lkX3_65 caX4_at (Nat.le_of_ble_eq_true rfl) rfl (Nat.le_of_ble_eq_true rfl) rfl rfl rfl (c_at (i := j) rfl rfl (by first | omega | (simp only [List.length_set]; omega)) (by omega)) ?_
  refine b_vT (as := [.inl (c.getD i 0), .inl (c.getD j 0)]) (rest := []) (.inl (stp (c.getD i 0) (c.getD j 0))) okX3_stepsOf rfl lkX3_69 caX7_steps (Nat.le_of_ble_eq_true rfl) rfl (Nat.le_of_ble_eq_true rfl) rfl (c_steps ⟨by omega, by omega⟩ ⟨by omega, by omega⟩) ?_
  exact b_ret (v := (some (.inl (stp (c.getD i 0) (c.getD j 0))))) ⟨rfl, Or.inl rfl⟩ ⟨rfl, rfl⟩ rfl
set_option maxHeartbeats 4000000 in
theorem c_setKept_1 (h1 : kp.length = 7) {i : Nat} (hi : i < 7) (v : Int) : aEx mX3_setKept 1 N [.inr 32, .inl (i : Int), .inl v] [A0, (moSeg 32 k f c n kp l nt w sh (p : Int) t d wa), B, A3, B4, A5, C6] (none) [A0, (moSeg 32 k f c n (kp.set i v) l nt w sh (p : Int) t d wa), B, A3, B4, A5, C6] := by
  refine aEv_of okX3_setKept caX3_setKept (Nat.le_of_ble_eq_true rfl) ?_
  refine aGo okX3_setKept 4 (f' := (6, [some (.inr 32), some (.inl (i : Int)), some (.inl v)], [.inl v, .inl (i : Int), .inr 41], _)) rfl ?_
  refine b_vN (as := [.inl (i : Int), .inl v]) (rest := []) (k := 41) okX3_setKept rfl lkX3_98 caX4_put (Nat.le_of_ble_eq_true rfl) rfl (Nat.le_of_ble_eq_true rfl) rfl rfl rfl (c_put (i := i) rfl rfl (by first | omega | (simp only [List.length_set]; omega)) (by first | omega | (simp only [List.length_set]; omega)) v) ?_
  refine b_cast (f' := (9, [some (.inr 32), some (.inl (i : Int)), some (.inl v)], [], [A0, (moSeg 32 k f c n (kp.set i v) l nt w sh (p : Int) t d wa), B, A3, B4, A5, C6])) rfl ?_
  exact b_ret (v := none) ⟨rfl, rfl⟩ ⟨rfl, rfl⟩ rfl
set_option maxHeartbeats 4000000 in
theorem c_setNeed_1 (h1 : n.length = 7) {i : Nat} (hi : i < 7) (v : Int) : aEx mX3_setNeed 1 N [.inr 32, .inl (i : Int), .inl v] [A0, (moSeg 32 k f c n kp l nt w sh (p : Int) t d wa), B, A3, B4, A5, C6] (none) [A0, (moSeg 32 k f c (n.set i v) kp l nt w sh (p : Int) t d wa), B, A3, B4, A5, C6] := by
  refine aEv_of okX3_setNeed caX3_setNeed (Nat.le_of_ble_eq_true rfl) ?_
  refine aGo okX3_setNeed 4 (f' := (6, [some (.inr 32), some (.inl (i : Int)), some (.inl v)], [.inl v, .inl (i : Int), .inr 39], _)) rfl ?_
  refine b_vN (as := [.inl (i : Int), .inl v]) (rest := []) (k := 39) okX3_setNeed rfl lkX3_98 caX4_put (Nat.le_of_ble_eq_true rfl) rfl (Nat.le_of_ble_eq_true rfl) rfl rfl rfl (c_put (i := i) rfl rfl (by first | omega | (simp only [List.length_set]; omega)) (by first | omega | (simp only [List.length_set]; omega)) v) ?_
  refine b_cast (f' := (9, [some (.inr 32), some (.inl (i : Int)), some (.inl v)], [], [A0, (moSeg 32 k f c (n.set i v) kp l nt w sh (p : Int) t d wa), B, A3, B4, A5, C6])) rfl ?_
  exact b_ret (v := none) ⟨rfl, rfl⟩ ⟨rfl, rfl⟩ rfl
set_option maxHeartbeats 4000000 in
theorem c_kindOf_2 (hl : k.length < 65536) {i : Nat} (hi : i < 65536) : aEx mX3_kindOf 1 N [.inr 64, .inl (i : Int)] [A0, B, (moSeg 64 k f c n kp l nt w sh (p : Int) t d wa), A3, B4, A5, C6] (some (.inl (k.getD i 0))) [A0, B, (moSeg 64 k f c n kp l nt w sh (p : Int) t d wa), A3, B4, A5, C6] := by
  refine aEv_of okX3_kindOf caX3_kindOf (Nat.le_of_ble_eq_true rfl) ?_
  refine aGo okX3_kindOf 3 (f' := (5, [some (.inr 64), some (.inl (i : Int))], [.inl (i : Int), .inr 65], _)) rfl ?_
  refine b_vV (as := [.inl (i : Int)]) (rest := []) (k := 65) (.inl (k.getD i 0)) okX3_kindOf rfl lkX3_65 caX4_at (Nat.le_of_ble_eq_true rfl) rfl (Nat.le_of_ble_eq_true rfl) rfl rfl rfl (c_at (i := i) rfl rfl (by first | omega | (simp only [List.length_set]; omega)) (by omega)) ?_
  exact b_ret (v := (some (.inl (k.getD i 0)))) ⟨rfl, Or.inl rfl⟩ ⟨rfl, rfl⟩ rfl
set_option maxHeartbeats 4000000 in
theorem c_figureOf_2 (hl : f.length < 65536) {i : Nat} (hi : i < 65536) : aEx mX3_figureOf 1 N [.inr 64, .inl (i : Int)] [A0, B, (moSeg 64 k f c n kp l nt w sh (p : Int) t d wa), A3, B4, A5, C6] (some (.inl (f.getD i 0))) [A0, B, (moSeg 64 k f c n kp l nt w sh (p : Int) t d wa), A3, B4, A5, C6] := by
  refine aEv_of okX3_figureOf caX3_figureOf (Nat.le_of_ble_eq_true rfl) ?_
  refine aGo okX3_figureOf 3 (f' := (5, [some (.inr 64), some (.inl (i : Int))], [.inl (i : Int), .inr 67], _)) rfl ?_
  refine b_vV (as := [.inl (i : Int)]) (rest := []) (k := 67) (.inl (f.getD i 0)) okX3_figureOf rfl lkX3_65 caX4_at (Nat.le_of_ble_eq_true rfl) rfl (Nat.le_of_ble_eq_true rfl) rfl rfl rfl (c_at (i := i) rfl rfl (by first | omega | (simp only [List.length_set]; omega)) (by omega)) ?_
  exact b_ret (v := (some (.inl (f.getD i 0)))) ⟨rfl, Or.inl rfl⟩ ⟨rfl, rfl⟩ rfl
set_option maxHeartbeats 4000000 in
theorem c_cellOf_2 (hl : c.length < 65536) {i : Nat} (hi : i < 65536) : aEx mX3_cellOf 1 N [.inr 64, .inl (i : Int)] [A0, B, (moSeg 64 k f c n kp l nt w sh (p : Int) t d wa), A3, B4, A5, C6] (some (.inl (c.getD i 0))) [A0, B, (moSeg 64 k f c n kp l nt w sh (p : Int) t d wa), A3, B4, A5, C6] := by
  refine aEv_of okX3_cellOf caX3_cellOf (Nat.le_of_ble_eq_true rfl) ?_
  refine aGo okX3_cellOf 3 (f' := (5, [some (.inr 64), some (.inl (i : Int))], [.inl (i : Int), .inr 69], _)) rfl ?_
  refine b_vV (as := [.inl (i : Int)]) (rest := []) (k := 69) (.inl (c.getD i 0)) okX3_cellOf rfl lkX3_65 caX4_at (Nat.le_of_ble_eq_true rfl) rfl (Nat.le_of_ble_eq_true rfl) rfl rfl rfl (c_at (i := i) rfl rfl (by first | omega | (simp only [List.length_set]; omega)) (by omega)) ?_
  exact b_ret (v := (some (.inl (c.getD i 0)))) ⟨rfl, Or.inl rfl⟩ ⟨rfl, rfl⟩ rfl
set_option maxHeartbeats 4000000 in
theorem c_needOf_2 (hl : n.length < 65536) {i : Nat} (hi : i < 65536) : aEx mX3_needOf 1 N [.inr 64, .inl (i : Int)] [A0, B, (moSeg 64 k f c n kp l nt w sh (p : Int) t d wa), A3, B4, A5, C6] (some (.inl (n.getD i 0))) [A0, B, (moSeg 64 k f c n kp l nt w sh (p : Int) t d wa), A3, B4, A5, C6] := by
  refine aEv_of okX3_needOf caX3_needOf (Nat.le_of_ble_eq_true rfl) ?_
  refine aGo okX3_needOf 3 (f' := (5, [some (.inr 64), some (.inl (i : Int))], [.inl (i : Int), .inr 71], _)) rfl ?_
  refine b_vV (as := [.inl (i : Int)]) (rest := []) (k := 71) (.inl (n.getD i 0)) okX3_needOf rfl lkX3_65 caX4_at (Nat.le_of_ble_eq_true rfl) rfl (Nat.le_of_ble_eq_true rfl) rfl rfl rfl (c_at (i := i) rfl rfl (by first | omega | (simp only [List.length_set]; omega)) (by omega)) ?_
  exact b_ret (v := (some (.inl (n.getD i 0)))) ⟨rfl, Or.inl rfl⟩ ⟨rfl, rfl⟩ rfl
set_option maxHeartbeats 4000000 in
theorem c_keptOf_2 (hl : kp.length < 65536) {i : Nat} (hi : i < 65536) : aEx mX3_keptOf 1 N [.inr 64, .inl (i : Int)] [A0, B, (moSeg 64 k f c n kp l nt w sh (p : Int) t d wa), A3, B4, A5, C6] (some (.inl (kp.getD i 0))) [A0, B, (moSeg 64 k f c n kp l nt w sh (p : Int) t d wa), A3, B4, A5, C6] := by
  refine aEv_of okX3_keptOf caX3_keptOf (Nat.le_of_ble_eq_true rfl) ?_
  refine aGo okX3_keptOf 3 (f' := (5, [some (.inr 64), some (.inl (i : Int))], [.inl (i : Int), .inr 73], _)) rfl ?_
  refine b_vV (as := [.inl (i : Int)]) (rest := []) (k := 73) (.inl (kp.getD i 0)) okX3_keptOf rfl lkX3_65 caX4_at (Nat.le_of_ble_eq_true rfl) rfl (Nat.le_of_ble_eq_true rfl) rfl rfl rfl (c_at (i := i) rfl rfl (by first | omega | (simp only [List.length_set]; omega)) (by omega)) ?_
  exact b_ret (v := (some (.inl (kp.getD i 0)))) ⟨rfl, Or.inl rfl⟩ ⟨rfl, rfl⟩ rfl
set_option maxHeartbeats 4000000 in
theorem c_weightOf_2 (hl : w.length < 65536) {i : Nat} (hi : i < 65536) : aEx mX3_weightOf 1 N [.inr 64, .inl (i : Int)] [A0, B, (moSeg 64 k f c n kp l nt w sh (p : Int) t d wa), A3, B4, A5, C6] (some (.inl (w.getD i 0))) [A0, B, (moSeg 64 k f c n kp l nt w sh (p : Int) t d wa), A3, B4, A5, C6] := by
  refine aEv_of okX3_weightOf caX3_weightOf (Nat.le_of_ble_eq_true rfl) ?_
  refine aGo okX3_weightOf 3 (f' := (5, [some (.inr 64), some (.inl (i : Int))], [.inl (i : Int), .inr 79], _)) rfl ?_
  refine b_vV (as := [.inl (i : Int)]) (rest := []) (k := 79) (.inl (w.getD i 0)) okX3_weightOf rfl lkX3_65 caX4_at (Nat.le_of_ble_eq_true rfl) rfl (Nat.le_of_ble_eq_true rfl) rfl rfl rfl (c_at (i := i) rfl rfl (by first | omega | (simp only [List.length_set]; omega)) (by omega)) ?_
  exact b_ret (v := (some (.inl (w.getD i 0)))) ⟨rfl, Or.inl rfl⟩ ⟨rfl, rfl⟩ rfl
set_option maxHeartbeats 4000000 in
theorem c_shareOf_2 (hl : sh.length < 65536) {i : Nat} (hi : i < 65536) : aEx mX3_shareOf 1 N [.inr 64, .inl (i : Int)] [A0, B, (moSeg 64 k f c n kp l nt w sh (p : Int) t d wa), A3, B4, A5, C6] (some (.inl (sh.getD i 0))) [A0, B, (moSeg 64 k f c n kp l nt w sh (p : Int) t d wa), A3, B4, A5, C6] := by
  refine aEv_of okX3_shareOf caX3_shareOf (Nat.le_of_ble_eq_true rfl) ?_
  refine aGo okX3_shareOf 3 (f' := (5, [some (.inr 64), some (.inl (i : Int))], [.inl (i : Int), .inr 81], _)) rfl ?_
  refine b_vV (as := [.inl (i : Int)]) (rest := []) (k := 81) (.inl (sh.getD i 0)) okX3_shareOf rfl lkX3_65 caX4_at (Nat.le_of_ble_eq_true rfl) rfl (Nat.le_of_ble_eq_true rfl) rfl rfl rfl (c_at (i := i) rfl rfl (by first | omega | (simp only [List.length_set]; omega)) (by omega)) ?_
  exact b_ret (v := (some (.inl (sh.getD i 0)))) ⟨rfl, Or.inl rfl⟩ ⟨rfl, rfl⟩ rfl
set_option maxHeartbeats 4000000 in
theorem c_netOf_2 (hl : nt.length < 65536) {i : Nat} (hi : i < 65536) : aEx mX3_netOf 1 N [.inr 64, .inl (i : Int)] [A0, B, (moSeg 64 k f c n kp l nt w sh (p : Int) t d wa), A3, B4, A5, C6] (some (.inl (nt.getD i 0))) [A0, B, (moSeg 64 k f c n kp l nt w sh (p : Int) t d wa), A3, B4, A5, C6] := by
  refine aEv_of okX3_netOf caX3_netOf (Nat.le_of_ble_eq_true rfl) ?_
  refine aGo okX3_netOf 3 (f' := (5, [some (.inr 64), some (.inl (i : Int))], [.inl (i : Int), .inr 77], _)) rfl ?_
  refine b_vV (as := [.inl (i : Int)]) (rest := []) (k := 77) (.inl (nt.getD i 0)) okX3_netOf rfl lkX3_65 caX4_at (Nat.le_of_ble_eq_true rfl) rfl (Nat.le_of_ble_eq_true rfl) rfl rfl rfl (c_at (i := i) rfl rfl (by first | omega | (simp only [List.length_set]; omega)) (by omega)) ?_
  exact b_ret (v := (some (.inl (nt.getD i 0)))) ⟨rfl, Or.inl rfl⟩ ⟨rfl, rfl⟩ rfl
set_option maxHeartbeats 4000000 in
theorem c_people_2  : aEx mX3_people 0 N [.inr 64] [A0, B, (moSeg 64 k f c n kp l nt w sh (p : Int) t d wa), A3, B4, A5, C6] (some (.inl (p : Int))) [A0, B, (moSeg 64 k f c n kp l nt w sh (p : Int) t d wa), A3, B4, A5, C6] := by
  refine aEv_of okX3_people caX3_people (Nat.le_of_ble_eq_true rfl) ?_
  refine aGo okX3_people 2 (f' := (4, [some (.inr 64)], [.inl (p : Int)], _)) rfl ?_
  exact b_ret (v := (some (.inl (p : Int)))) ⟨rfl, Or.inl rfl⟩ ⟨rfl, rfl⟩ rfl
set_option maxHeartbeats 4000000 in
theorem c_total_2  : aEx mX3_total 0 N [.inr 64] [A0, B, (moSeg 64 k f c n kp l nt w sh (p : Int) t d wa), A3, B4, A5, C6] (some (.inl t)) [A0, B, (moSeg 64 k f c n kp l nt w sh (p : Int) t d wa), A3, B4, A5, C6] := by
  refine aEv_of okX3_total caX3_total (Nat.le_of_ble_eq_true rfl) ?_
  refine aGo okX3_total 2 (f' := (4, [some (.inr 64)], [.inl t], _)) rfl ?_
  exact b_ret (v := (some (.inl t))) ⟨rfl, Or.inl rfl⟩ ⟨rfl, rfl⟩ rfl
set_option maxHeartbeats 4000000 in
theorem c_day_2  : aEx mX3_day 0 N [.inr 64] [A0, B, (moSeg 64 k f c n kp l nt w sh (p : Int) t d wa), A3, B4, A5, C6] (some (.inl d)) [A0, B, (moSeg 64 k f c n kp l nt w sh (p : Int) t d wa), A3, B4, A5, C6] := by
  refine aEv_of okX3_day caX3_day (Nat.le_of_ble_eq_true rfl) ?_
  refine aGo okX3_day 2 (f' := (4, [some (.inr 64)], [.inl d], _)) rfl ?_
  exact b_ret (v := (some (.inl d))) ⟨rfl, Or.inl rfl⟩ ⟨rfl, rfl⟩ rfl
set_option maxHeartbeats 4000000 in
theorem c_allWeights_2  : aEx mX3_allWeights 0 N [.inr 64] [A0, B, (moSeg 64 k f c n kp l nt w sh (p : Int) t d wa), A3, B4, A5, C6] (some (.inl wa)) [A0, B, (moSeg 64 k f c n kp l nt w sh (p : Int) t d wa), A3, B4, A5, C6] := by
  refine aEv_of okX3_allWeights caX3_allWeights (Nat.le_of_ble_eq_true rfl) ?_
  refine aGo okX3_allWeights 2 (f' := (4, [some (.inr 64)], [.inl wa], _)) rfl ?_
  exact b_ret (v := (some (.inl wa))) ⟨rfl, Or.inl rfl⟩ ⟨rfl, rfl⟩ rfl
set_option maxHeartbeats 4000000 in
theorem c_hasOf_2 (h1 : sh.length < 65536) (h2 : nt.length < 65536) {i : Nat} (hi : i < 65536) : aEx mX3_hasOf 1 N [.inr 64, .inl (i : Int)] [A0, B, (moSeg 64 k f c n kp l nt w sh (p : Int) t d wa), A3, B4, A5, C6] (some (.inl (sh.getD i 0 - nt.getD i 0))) [A0, B, (moSeg 64 k f c n kp l nt w sh (p : Int) t d wa), A3, B4, A5, C6] := by
  refine aEv_of okX3_hasOf caX3_hasOf (Nat.le_of_ble_eq_true rfl) ?_
  refine aGo okX3_hasOf 3 (f' := (5, [some (.inr 64), some (.inl (i : Int))], [.inl (i : Int), .inr 81], _)) rfl ?_
  refine b_vV (as := [.inl (i : Int)]) (rest := []) (k := 81) (.inl (sh.getD i 0)) okX3_hasOf rfl lkX3_65 caX4_at (Nat.le_of_ble_eq_true rfl) rfl (Nat.le_of_ble_eq_true rfl) rfl rfl rfl (c_at (i := i) rfl rfl (by first | omega | (simp only [List.length_set]; omega)) (by omega)) ?_
  refine aGo okX3_hasOf 3 (f' := (13, [some (.inr 64), some (.inl (i : Int))], [.inl (i : Int), .inr 77, .inl (sh.getD i 0)], _)) rfl ?_
  refine b_vV (as := [.inl (i : Int)]) (rest := [.inl (sh.getD i 0)]) (k := 77) (.inl (nt.getD i 0)) okX3_hasOf rfl lkX3_65 caX4_at (Nat.le_of_ble_eq_true rfl) rfl (Nat.le_of_ble_eq_true rfl) rfl rfl rfl (c_at (i := i) rfl rfl (by first | omega | (simp only [List.length_set]; omega)) (by omega)) ?_
  refine aGo okX3_hasOf 1 (f' := (17, [some (.inr 64), some (.inl (i : Int))], [.inl ((sh.getD i 0) - (nt.getD i 0))], _)) rfl ?_
  exact b_ret (v := (some (.inl ((sh.getD i 0) - (nt.getD i 0))))) ⟨rfl, Or.inl rfl⟩ ⟨rfl, rfl⟩ rfl
set_option maxHeartbeats 4000000 in
theorem c_lentBy_2 (h1 : l.length < 65536) {i j : Nat} (hi : i < 100) (hj : j < 100) : aEx mX3_lentBy 1 N [.inr 64, .inl (i : Int), .inl (j : Int)] [A0, B, (moSeg 64 k f c n kp l nt w sh (p : Int) t d wa), A3, B4, A5, C6] (some (.inl (l.getD (7 * i + j) 0))) [A0, B, (moSeg 64 k f c n kp l nt w sh (p : Int) t d wa), A3, B4, A5, C6] := by
  refine aEv_of okX3_lentBy caX3_lentBy (Nat.le_of_ble_eq_true rfl) ?_
  refine aGo okX3_lentBy 7 (f' := (10, [some (.inr 64), some (.inl (i : Int)), some (.inl (j : Int))], [.inl (((i : Int) * 7) + (j : Int)), .inr 75], _)) rfl ?_
  refine b_vV (as := [.inl (((i : Int) * 7) + (j : Int))]) (rest := []) (k := 75) (.inl (l.getD ((i * 7) + j) 0)) okX3_lentBy rfl lkX3_65 caX4_at (Nat.le_of_ble_eq_true rfl) rfl (Nat.le_of_ble_eq_true rfl) rfl rfl rfl (c_at (i := ((i * 7) + j)) rfl rfl (by first | omega | (simp only [List.length_set]; omega)) (by omega)) ?_
  exact b_ret (v := (some (.inl (l.getD ((i * 7) + j) 0)))) ⟨rfl, Or.inl rfl⟩ ⟨by rw [show 7 * i + j = i * 7 + j by omega], rfl⟩ rfl
set_option maxHeartbeats 4000000 in
theorem c_putLent_2 (h1 : l.length = 49) {i j : Nat} (hi : i < 7) (hj : j < 7) (v : Int) : aEx mX3_putLent 1 N [.inr 64, .inl (i : Int), .inl (j : Int), .inl v] [A0, B, (moSeg 64 k f c n kp l nt w sh (p : Int) t d wa), A3, B4, A5, C6] (none) [A0, B, (moSeg 64 k f c n kp (l.set (7 * i + j) v) nt w sh (p : Int) t d wa), A3, B4, A5, C6] := by
  refine aEv_of okX3_putLent caX3_putLent (Nat.le_of_ble_eq_true rfl) ?_
  refine aGo okX3_putLent 8 (f' := (11, [some (.inr 64), some (.inl (i : Int)), some (.inl (j : Int)), some (.inl v)], [.inl v, .inl (((i : Int) * 7) + (j : Int)), .inr 75], _)) rfl ?_
  refine b_vN (as := [.inl (((i : Int) * 7) + (j : Int)), .inl v]) (rest := []) (k := 75) okX3_putLent rfl lkX3_98 caX4_put (Nat.le_of_ble_eq_true rfl) rfl (Nat.le_of_ble_eq_true rfl) rfl rfl rfl (c_put (i := ((i * 7) + j)) rfl rfl (by first | omega | (simp only [List.length_set]; omega)) (by first | omega | (simp only [List.length_set]; omega)) v) ?_
  refine b_cast (f' := (14, [some (.inr 64), some (.inl (i : Int)), some (.inl (j : Int)), some (.inl v)], [], [A0, B, (moSeg 64 k f c n kp (l.set ((i * 7) + j) v) nt w sh (p : Int) t d wa), A3, B4, A5, C6])) rfl ?_
  exact b_ret (v := none) ⟨rfl, rfl⟩ ⟨rfl, by rw [show 7 * i + j = i * 7 + j by omega]⟩ rfl
set_option maxHeartbeats 4000000 in
theorem c_isThere_2_t {x : Int} (hp : p ≤ 7) (h0 : 0 ≤ x) (h1 : x < p) : aEx mX3_isThere 0 N [.inr 64, .inl x] [A0, B, (moSeg 64 k f c n kp l nt w sh (p : Int) t d wa), A3, B4, A5, C6] (some (.inl 1)) [A0, B, (moSeg 64 k f c n kp l nt w sh (p : Int) t d wa), A3, B4, A5, C6] := by
  refine aEv_of okX3_isThere caX3_isThere (Nat.le_of_ble_eq_true rfl) ?_
  refine aGo okX3_isThere 1 (f' := (1, [some (.inr 64), some (.inl x)], [.inl x], _)) rfl ?_
  refine b0_lt (tgt := 16) okX3_isThere rfl rfl ⟨by omega, by omega⟩ (fun h1 => absurd h1 (by omega)) (fun h1 => ?_)
  refine aGo okX3_isThere 3 (f' := (9, [some (.inr 64), some (.inl x)], [.inl (p : Int), .inl x], _)) rfl ?_
  refine b_ge (tgt := 16) okX3_isThere rfl rfl ⟨by omega, by omega⟩ ⟨by omega, by omega⟩ (fun h9 => absurd h9 (by omega)) (fun h9 => ?_)
  refine aGo okX3_isThere 2 (f' := (17, [some (.inr 64), some (.inl x)], [.inl 1], _)) rfl ?_
  exact b_ret (v := (some (.inl 1))) ⟨rfl, Or.inr ⟨rfl, Or.inr rfl⟩⟩ ⟨rfl, rfl⟩ rfl
set_option maxHeartbeats 4000000 in
theorem c_isThere_2_f {x : Int} (hp : p ≤ 7) (hx : aI x) (h0 : ¬ (0 ≤ x ∧ x < p)) : aEx mX3_isThere 0 N [.inr 64, .inl x] [A0, B, (moSeg 64 k f c n kp l nt w sh (p : Int) t d wa), A3, B4, A5, C6] (some (.inl 0)) [A0, B, (moSeg 64 k f c n kp l nt w sh (p : Int) t d wa), A3, B4, A5, C6] := by
  refine aEv_of okX3_isThere caX3_isThere (Nat.le_of_ble_eq_true rfl) ?_
  obtain ⟨hx1, hx2⟩ := hx
  refine aGo okX3_isThere 1 (f' := (1, [some (.inr 64), some (.inl x)], [.inl x], _)) rfl ?_
  refine b0_lt (tgt := 16) okX3_isThere rfl rfl ⟨by omega, by omega⟩ (fun h1 => ?_) (fun h1 => ?_)
  · refine aGo okX3_isThere 1 (f' := (17, [some (.inr 64), some (.inl x)], [.inl 0], _)) rfl ?_
    exact b_ret (v := (some (.inl 0))) ⟨rfl, Or.inr ⟨rfl, Or.inl rfl⟩⟩ ⟨rfl, rfl⟩ rfl
  · refine aGo okX3_isThere 3 (f' := (9, [some (.inr 64), some (.inl x)], [.inl (p : Int), .inl x], _)) rfl ?_
    refine b_ge (tgt := 16) okX3_isThere rfl rfl ⟨by omega, by omega⟩ ⟨by omega, by omega⟩ (fun h9 => ?_) (fun h9 => absurd h9 (by omega))
    refine aGo okX3_isThere 1 (f' := (17, [some (.inr 64), some (.inl x)], [.inl 0], _)) rfl ?_
    exact b_ret (v := (some (.inl 0))) ⟨rfl, Or.inr ⟨rfl, Or.inl rfl⟩⟩ ⟨rfl, rfl⟩ rfl
set_option maxHeartbeats 4000000 in
theorem c_areTwo_2_t {x y : Int} (hp : p ≤ 7) (h0 : 0 ≤ x ∧ x < p) (h1 : 0 ≤ y ∧ y < p) (h2 : x ≠ y) : aEx mX3_areTwo 1 N [.inr 64, .inl x, .inl y] [A0, B, (moSeg 64 k f c n kp l nt w sh (p : Int) t d wa), A3, B4, A5, C6] (some (.inl 1)) [A0, B, (moSeg 64 k f c n kp l nt w sh (p : Int) t d wa), A3, B4, A5, C6] := by
  refine aEv_of okX3_areTwo caX3_areTwo (Nat.le_of_ble_eq_true rfl) ?_
  refine aGo okX3_areTwo 2 (f' := (2, [some (.inr 64), some (.inl x), some (.inl y)], [.inl x, .inr 64], _)) rfl ?_
  refine b_vV (as := [.inl x]) (rest := []) (k := 64) (.inl 1) okX3_areTwo rfl lkX3_61 caX3_isThere (Nat.le_of_ble_eq_true rfl) rfl (Nat.le_of_ble_eq_true rfl) rfl rfl rfl (c_isThere_2_t (x := x) hp h0.1 h0.2) ?_
  refine b0_eq (tgt := 25) okX3_areTwo rfl rfl ⟨by omega, by omega⟩ (fun h5 => absurd h5 (by omega)) (fun h5 => ?_)
  refine aGo okX3_areTwo 2 (f' := (10, [some (.inr 64), some (.inl x), some (.inl y)], [.inl y, .inr 64], _)) rfl ?_
  refine b_vV (as := [.inl y]) (rest := []) (k := 64) (.inl 1) okX3_areTwo rfl lkX3_61 caX3_isThere (Nat.le_of_ble_eq_true rfl) rfl (Nat.le_of_ble_eq_true rfl) rfl rfl rfl (c_isThere_2_t (x := y) hp h1.1 h1.2) ?_
  refine b0_eq (tgt := 25) okX3_areTwo rfl rfl ⟨by omega, by omega⟩ (fun h13 => absurd h13 (by omega)) (fun h13 => ?_)
  refine aGo okX3_areTwo 2 (f' := (18, [some (.inr 64), some (.inl x), some (.inl y)], [.inl y, .inl x], _)) rfl ?_
  refine b_eq (tgt := 25) okX3_areTwo rfl rfl ⟨by omega, by omega⟩ ⟨by omega, by omega⟩ (fun h18 => absurd h18 (h2)) (fun h18 => ?_)
  refine aGo okX3_areTwo 2 (f' := (26, [some (.inr 64), some (.inl x), some (.inl y)], [.inl 1], _)) rfl ?_
  exact b_ret (v := (some (.inl 1))) ⟨rfl, Or.inr ⟨rfl, Or.inr rfl⟩⟩ ⟨rfl, rfl⟩ rfl
set_option maxHeartbeats 4000000 in
theorem c_areTwo_2_f {x y : Int} (hp : p ≤ 7) (hx : aI x) (hy : aI y) (h0 : ¬ (0 ≤ x ∧ x < p ∧ 0 ≤ y ∧ y < p ∧ x ≠ y)) : aEx mX3_areTwo 1 N [.inr 64, .inl x, .inl y] [A0, B, (moSeg 64 k f c n kp l nt w sh (p : Int) t d wa), A3, B4, A5, C6] (some (.inl 0)) [A0, B, (moSeg 64 k f c n kp l nt w sh (p : Int) t d wa), A3, B4, A5, C6] := by
  refine aEv_of okX3_areTwo caX3_areTwo (Nat.le_of_ble_eq_true rfl) ?_
  obtain ⟨hx1, hx2⟩ := hx
  obtain ⟨hy1, hy2⟩ := hy
  refine aGo okX3_areTwo 2 (f' := (2, [some (.inr 64), some (.inl x), some (.inl y)], [.inl x, .inr 64], _)) rfl ?_
  by_cases hc2 : 0 ≤ x ∧ x < (p : Int)
  · refine b_vV (as := [.inl x]) (rest := []) (k := 64) (.inl 1) okX3_areTwo rfl lkX3_61 caX3_isThere (Nat.le_of_ble_eq_true rfl) rfl (Nat.le_of_ble_eq_true rfl) rfl rfl rfl (c_isThere_2_t (x := x) (by omega) hc2.1 hc2.2) ?_
    refine b0_eq (tgt := 25) okX3_areTwo rfl rfl ⟨by omega, by omega⟩ (fun h5 => absurd h5 (by omega)) (fun h5 => ?_)
    refine aGo okX3_areTwo 2 (f' := (10, [some (.inr 64), some (.inl x), some (.inl y)], [.inl y, .inr 64], _)) rfl ?_
    by_cases hc10 : 0 ≤ y ∧ y < (p : Int)
    · refine b_vV (as := [.inl y]) (rest := []) (k := 64) (.inl 1) okX3_areTwo rfl lkX3_61 caX3_isThere (Nat.le_of_ble_eq_true rfl) rfl (Nat.le_of_ble_eq_true rfl) rfl rfl rfl (c_isThere_2_t (x := y) (by omega) hc10.1 hc10.2) ?_
      refine b0_eq (tgt := 25) okX3_areTwo rfl rfl ⟨by omega, by omega⟩ (fun h13 => absurd h13 (by omega)) (fun h13 => ?_)
      refine aGo okX3_areTwo 2 (f' := (18, [some (.inr 64), some (.inl x), some (.inl y)], [.inl y, .inl x], _)) rfl ?_
      refine b_eq (tgt := 25) okX3_areTwo rfl rfl ⟨by omega, by omega⟩ ⟨by omega, by omega⟩ (fun h18 => ?_) (fun h18 => absurd h18 (by omega))
      refine aGo okX3_areTwo 1 (f' := (26, [some (.inr 64), some (.inl x), some (.inl y)], [.inl 0], _)) rfl ?_
      exact b_ret (v := (some (.inl 0))) ⟨rfl, Or.inr ⟨rfl, Or.inl rfl⟩⟩ ⟨rfl, rfl⟩ rfl
    · refine b_vV (as := [.inl y]) (rest := []) (k := 64) (.inl 0) okX3_areTwo rfl lkX3_61 caX3_isThere (Nat.le_of_ble_eq_true rfl) rfl (Nat.le_of_ble_eq_true rfl) rfl rfl rfl (c_isThere_2_f (x := y) (by omega) ⟨by omega, by omega⟩ hc10) ?_
      refine b0_eq (tgt := 25) okX3_areTwo rfl rfl ⟨by omega, by omega⟩ (fun h13 => ?_) (fun h13 => absurd h13 (by omega))
      refine aGo okX3_areTwo 1 (f' := (26, [some (.inr 64), some (.inl x), some (.inl y)], [.inl 0], _)) rfl ?_
      exact b_ret (v := (some (.inl 0))) ⟨rfl, Or.inr ⟨rfl, Or.inl rfl⟩⟩ ⟨rfl, rfl⟩ rfl
  · refine b_vV (as := [.inl x]) (rest := []) (k := 64) (.inl 0) okX3_areTwo rfl lkX3_61 caX3_isThere (Nat.le_of_ble_eq_true rfl) rfl (Nat.le_of_ble_eq_true rfl) rfl rfl rfl (c_isThere_2_f (x := x) (by omega) ⟨by omega, by omega⟩ hc2) ?_
    refine b0_eq (tgt := 25) okX3_areTwo rfl rfl ⟨by omega, by omega⟩ (fun h5 => ?_) (fun h5 => absurd h5 (by omega))
    refine aGo okX3_areTwo 1 (f' := (26, [some (.inr 64), some (.inl x), some (.inl y)], [.inl 0], _)) rfl ?_
    exact b_ret (v := (some (.inl 0))) ⟨rfl, Or.inr ⟨rfl, Or.inl rfl⟩⟩ ⟨rfl, rfl⟩ rfl
set_option maxHeartbeats 4000000 in
theorem c_stepsOf_2 (h1 : c.length < 65536) (rc : rng c 35) {i j : Nat} (hi : i < 65536) (hj : j < 65536) : aEx mX3_stepsOf 2 N [.inr 64, .inl (i : Int), .inl (j : Int)] [A0, B, (moSeg 64 k f c n kp l nt w sh (p : Int) t d wa), A3, B4, A5, C6] (some (.inl (stp (c.getD i 0) (c.getD j 0)))) [A0, B, (moSeg 64 k f c n kp l nt w sh (p : Int) t d wa), A3, B4, A5, C6] := by
  refine aEv_of okX3_stepsOf caX3_stepsOf (Nat.le_of_ble_eq_true rfl) ?_
  have r1 := rc i
  have r2 := rc j
  refine aGo okX3_stepsOf 3 (f' := (5, [some (.inr 64), some (.inl (i : Int)), some (.inl (j : Int))], [.inl (i : Int), .inr 69], _)) rfl ?_
  refine b_vV (as := [.inl (i : Int)]) (rest := []) (k := 69) (.inl (c.getD i 0)) okX3_stepsOf rfl lkX3_65 caX4_at (Nat.le_of_ble_eq_true rfl) rfl (Nat.le_of_ble_eq_true rfl) rfl rfl rfl (c_at (i := i) rfl rfl (by first | omega | (simp only [List.length_set]; omega)) (by omega)) ?_
  refine aGo okX3_stepsOf 3 (f' := (13, [some (.inr 64), some (.inl (i : Int)), some (.inl (j : Int))], [.inl (j : Int), .inr 69, .inl (c.getD i 0)], _)) rfl ?_
  refine b_vV (as := [.inl (j : Int)]) (rest := [.inl (c.getD i 0)]) (k := 69) (.inl (c.getD j 0)) okX3_stepsOf rfl lkX3_65 caX4_at (Nat.le_of_ble_eq_true rfl) rfl (Nat.le_of_ble_eq_true rfl) rfl rfl rfl (c_at (i := j) rfl rfl (by first | omega | (simp only [List.length_set]; omega)) (by omega)) ?_
  refine b_vT (as := [.inl (c.getD i 0), .inl (c.getD j 0)]) (rest := []) (.inl (stp (c.getD i 0) (c.getD j 0))) okX3_stepsOf rfl lkX3_69 caX7_steps (Nat.le_of_ble_eq_true rfl) rfl (Nat.le_of_ble_eq_true rfl) rfl (c_steps ⟨by omega, by omega⟩ ⟨by omega, by omega⟩) ?_
  exact b_ret (v := (some (.inl (stp (c.getD i 0) (c.getD j 0))))) ⟨rfl, Or.inl rfl⟩ ⟨rfl, rfl⟩ rfl
set_option maxHeartbeats 4000000 in
theorem c_setKept_2 (h1 : kp.length = 7) {i : Nat} (hi : i < 7) (v : Int) : aEx mX3_setKept 1 N [.inr 64, .inl (i : Int), .inl v] [A0, B, (moSeg 64 k f c n kp l nt w sh (p : Int) t d wa), A3, B4, A5, C6] (none) [A0, B, (moSeg 64 k f c n (kp.set i v) l nt w sh (p : Int) t d wa), A3, B4, A5, C6] := by
  refine aEv_of okX3_setKept caX3_setKept (Nat.le_of_ble_eq_true rfl) ?_
  refine aGo okX3_setKept 4 (f' := (6, [some (.inr 64), some (.inl (i : Int)), some (.inl v)], [.inl v, .inl (i : Int), .inr 73], _)) rfl ?_
  refine b_vN (as := [.inl (i : Int), .inl v]) (rest := []) (k := 73) okX3_setKept rfl lkX3_98 caX4_put (Nat.le_of_ble_eq_true rfl) rfl (Nat.le_of_ble_eq_true rfl) rfl rfl rfl (c_put (i := i) rfl rfl (by first | omega | (simp only [List.length_set]; omega)) (by first | omega | (simp only [List.length_set]; omega)) v) ?_
  refine b_cast (f' := (9, [some (.inr 64), some (.inl (i : Int)), some (.inl v)], [], [A0, B, (moSeg 64 k f c n (kp.set i v) l nt w sh (p : Int) t d wa), A3, B4, A5, C6])) rfl ?_
  exact b_ret (v := none) ⟨rfl, rfl⟩ ⟨rfl, rfl⟩ rfl
set_option maxHeartbeats 4000000 in
theorem c_setNeed_2 (h1 : n.length = 7) {i : Nat} (hi : i < 7) (v : Int) : aEx mX3_setNeed 1 N [.inr 64, .inl (i : Int), .inl v] [A0, B, (moSeg 64 k f c n kp l nt w sh (p : Int) t d wa), A3, B4, A5, C6] (none) [A0, B, (moSeg 64 k f c (n.set i v) kp l nt w sh (p : Int) t d wa), A3, B4, A5, C6] := by
  refine aEv_of okX3_setNeed caX3_setNeed (Nat.le_of_ble_eq_true rfl) ?_
  refine aGo okX3_setNeed 4 (f' := (6, [some (.inr 64), some (.inl (i : Int)), some (.inl v)], [.inl v, .inl (i : Int), .inr 71], _)) rfl ?_
  refine b_vN (as := [.inl (i : Int), .inl v]) (rest := []) (k := 71) okX3_setNeed rfl lkX3_98 caX4_put (Nat.le_of_ble_eq_true rfl) rfl (Nat.le_of_ble_eq_true rfl) rfl rfl rfl (c_put (i := i) rfl rfl (by first | omega | (simp only [List.length_set]; omega)) (by first | omega | (simp only [List.length_set]; omega)) v) ?_
  refine b_cast (f' := (9, [some (.inr 64), some (.inl (i : Int)), some (.inl v)], [], [A0, B, (moSeg 64 k f c (n.set i v) kp l nt w sh (p : Int) t d wa), A3, B4, A5, C6])) rfl ?_
  exact b_ret (v := none) ⟨rfl, rfl⟩ ⟨rfl, rfl⟩ rfl
end AMO
