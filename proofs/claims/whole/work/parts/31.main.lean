/-! Public methods that refuse; laid by gen_main.py -/
section AMA
variable {A0 A3 B B2 B4 A5 C6 : List (Option aE)} {k f c n kp l nt w sh : List Int} {p : Nat} {t d wa : Int} {N : Nat} {z tl : Int} {fs ss sp la gr tp : List Int}
variable {to re : List Int} {imt : Int} {tc : Nat}
set_option maxRecDepth 100000 in
set_option maxHeartbeats 4000000 in
theorem c_refuse_1 {z0 : Int} {tl : Nat} (hre : re.length = 7) : aEv mX7_refuse 1 0 0 N [.inr 0, .inl (-1)] [(mainSeg imt (tc : Int)), (moSeg 32 k f c n kp l nt w sh (p : Int) t d wa), B, (miscSeg z0 fs ss sp la gr (tl : Int) tp), B4, (auxSeg to re), C6] (aQx (some (.inl (-1))) [(mainSeg imt (tc : Int)), (moSeg 32 k f c n kp l nt w sh (p : Int) t d wa), B, (miscSeg z0 fs ss sp la gr (tl : Int) tp), B4, (auxSeg to (re.set 1 (re.getD 1 0 + 1))), C6]) := by
  refine aEv_of okX7_refuse caX7_refuse (Nat.le_of_ble_eq_true rfl) ?_
  refine aGo okX7_refuse 8 (f' := (12, [some (.inr 0), some (.inl (-1))], [.inl 1, .inr 162, .inl 1, .inr 162], _)) rfl ?_
  refine b_vV (as := [.inl 1]) (rest := [.inl 1, .inr 162]) (k := 162) (.inl (re.getD 1 0)) okX7_refuse rfl lkX7_289 caX4_at (Nat.le_of_ble_eq_true rfl) rfl (Nat.le_of_ble_eq_true rfl) rfl rfl rfl (c_at (i := 1) rfl rfl (by first | omega | (simp only [List.length_set]; omega)) (by omega)) ?_
  refine aGo okX7_refuse 2 (f' := (17, [some (.inr 0), some (.inl (-1))], [.inl ((re.getD 1 0) + 1), .inl 1, .inr 162], _)) rfl ?_
  refine b_vN (as := [.inl 1, .inl ((re.getD 1 0) + 1)]) (rest := []) (k := 162) okX7_refuse rfl lkX7_264 caX4_put (Nat.le_of_ble_eq_true rfl) rfl (Nat.le_of_ble_eq_true rfl) rfl rfl rfl (c_put (i := 1) rfl rfl (by first | omega | (simp only [List.length_set]; omega)) (by first | omega | (simp only [List.length_set]; omega)) ((re.getD 1 0) + 1)) ?_
  refine b_cast (f' := (20, [some (.inr 0), some (.inl (-1))], [], [(mainSeg imt (tc : Int)), (moSeg 32 k f c n kp l nt w sh (p : Int) t d wa), B, (miscSeg z0 fs ss sp la gr (tl : Int) tp), B4, (auxSeg to (re.set 1 ((re.getD 1 0) + 1))), C6])) rfl ?_
  refine aGo okX7_refuse 1 (f' := (21, [some (.inr 0), some (.inl (-1))], [.inl (-1)], _)) rfl ?_
  exact b_ret (v := (some (.inl (-1)))) ⟨rfl, Or.inl rfl⟩ ⟨rfl, rfl⟩ rfl
set_option maxRecDepth 100000 in
set_option maxHeartbeats 4000000 in
theorem c_refuseFar_1 {z0 : Int} {tl : Nat} (hre : re.length = 7) : aEv mX7_refuseFar 2 0 0 N [.inr 0, .inl (-1)] [(mainSeg imt (tc : Int)), (moSeg 32 k f c n kp l nt w sh (p : Int) t d wa), B, (miscSeg z0 fs ss sp la gr (tl : Int) tp), B4, (auxSeg to re), C6] (aQx (some (.inl 1000000001)) [(mainSeg imt (tc : Int)), (moSeg 32 k f c n kp l nt w sh (p : Int) t d wa), B, (miscSeg z0 fs ss sp la gr (tl : Int) tp), B4, (auxSeg to (re.set 1 (re.getD 1 0 + 1))), C6]) := by
  refine aEv_of okX7_refuseFar caX7_refuseFar (Nat.le_of_ble_eq_true rfl) ?_
  refine aGo okX7_refuseFar 3 (f' := (5, [some (.inr 0), some (.inl (-1))], [.inl (-1), .inr 0, .inl 1000000000], _)) rfl ?_
  refine b_vE (as := [.inl (-1)]) (rest := [.inl 1000000000]) (k := 0) okX7_refuseFar rfl lkX7_74 caX7_refuse (Nat.le_of_ble_eq_true rfl) rfl (Nat.le_of_ble_eq_true rfl) rfl rfl rfl (c_refuse_1 hre) ?_
  rintro _ _ ⟨rfl, rfl⟩
  refine aGo okX7_refuseFar 1 (f' := (9, [some (.inr 0), some (.inl (-1))], [.inl (1000000000 - (-1))], _)) rfl ?_
  exact b_ret (v := (some (.inl (1000000000 - (-1))))) ⟨rfl, Or.inl rfl⟩ ⟨rfl, rfl⟩ rfl
set_option maxRecDepth 100000 in
set_option maxHeartbeats 4000000 in
theorem c_refuse_2 {z0 : Int} {tl : Nat} (hre : re.length = 7) : aEv mX7_refuse 1 0 0 N [.inr 0, .inl (-2)] [(mainSeg imt (tc : Int)), (moSeg 32 k f c n kp l nt w sh (p : Int) t d wa), B, (miscSeg z0 fs ss sp la gr (tl : Int) tp), B4, (auxSeg to re), C6] (aQx (some (.inl (-2))) [(mainSeg imt (tc : Int)), (moSeg 32 k f c n kp l nt w sh (p : Int) t d wa), B, (miscSeg z0 fs ss sp la gr (tl : Int) tp), B4, (auxSeg to (re.set 2 (re.getD 2 0 + 1))), C6]) := by
  refine aEv_of okX7_refuse caX7_refuse (Nat.le_of_ble_eq_true rfl) ?_
  refine aGo okX7_refuse 8 (f' := (12, [some (.inr 0), some (.inl (-2))], [.inl 2, .inr 162, .inl 2, .inr 162], _)) rfl ?_
  refine b_vV (as := [.inl 2]) (rest := [.inl 2, .inr 162]) (k := 162) (.inl (re.getD 2 0)) okX7_refuse rfl lkX7_289 caX4_at (Nat.le_of_ble_eq_true rfl) rfl (Nat.le_of_ble_eq_true rfl) rfl rfl rfl (c_at (i := 2) rfl rfl (by first | omega | (simp only [List.length_set]; omega)) (by omega)) ?_
  refine aGo okX7_refuse 2 (f' := (17, [some (.inr 0), some (.inl (-2))], [.inl ((re.getD 2 0) + 1), .inl 2, .inr 162], _)) rfl ?_
  refine b_vN (as := [.inl 2, .inl ((re.getD 2 0) + 1)]) (rest := []) (k := 162) okX7_refuse rfl lkX7_264 caX4_put (Nat.le_of_ble_eq_true rfl) rfl (Nat.le_of_ble_eq_true rfl) rfl rfl rfl (c_put (i := 2) rfl rfl (by first | omega | (simp only [List.length_set]; omega)) (by first | omega | (simp only [List.length_set]; omega)) ((re.getD 2 0) + 1)) ?_
  refine b_cast (f' := (20, [some (.inr 0), some (.inl (-2))], [], [(mainSeg imt (tc : Int)), (moSeg 32 k f c n kp l nt w sh (p : Int) t d wa), B, (miscSeg z0 fs ss sp la gr (tl : Int) tp), B4, (auxSeg to (re.set 2 ((re.getD 2 0) + 1))), C6])) rfl ?_
  refine aGo okX7_refuse 1 (f' := (21, [some (.inr 0), some (.inl (-2))], [.inl (-2)], _)) rfl ?_
  exact b_ret (v := (some (.inl (-2)))) ⟨rfl, Or.inl rfl⟩ ⟨rfl, rfl⟩ rfl
set_option maxRecDepth 100000 in
set_option maxHeartbeats 4000000 in
theorem c_refuseFar_2 {z0 : Int} {tl : Nat} (hre : re.length = 7) : aEv mX7_refuseFar 2 0 0 N [.inr 0, .inl (-2)] [(mainSeg imt (tc : Int)), (moSeg 32 k f c n kp l nt w sh (p : Int) t d wa), B, (miscSeg z0 fs ss sp la gr (tl : Int) tp), B4, (auxSeg to re), C6] (aQx (some (.inl 1000000002)) [(mainSeg imt (tc : Int)), (moSeg 32 k f c n kp l nt w sh (p : Int) t d wa), B, (miscSeg z0 fs ss sp la gr (tl : Int) tp), B4, (auxSeg to (re.set 2 (re.getD 2 0 + 1))), C6]) := by
  refine aEv_of okX7_refuseFar caX7_refuseFar (Nat.le_of_ble_eq_true rfl) ?_
  refine aGo okX7_refuseFar 3 (f' := (5, [some (.inr 0), some (.inl (-2))], [.inl (-2), .inr 0, .inl 1000000000], _)) rfl ?_
  refine b_vE (as := [.inl (-2)]) (rest := [.inl 1000000000]) (k := 0) okX7_refuseFar rfl lkX7_74 caX7_refuse (Nat.le_of_ble_eq_true rfl) rfl (Nat.le_of_ble_eq_true rfl) rfl rfl rfl (c_refuse_2 hre) ?_
  rintro _ _ ⟨rfl, rfl⟩
  refine aGo okX7_refuseFar 1 (f' := (9, [some (.inr 0), some (.inl (-2))], [.inl (1000000000 - (-2))], _)) rfl ?_
  exact b_ret (v := (some (.inl (1000000000 - (-2))))) ⟨rfl, Or.inl rfl⟩ ⟨rfl, rfl⟩ rfl
set_option maxRecDepth 100000 in
set_option maxHeartbeats 4000000 in
theorem c_refuse_3 {z0 : Int} {tl : Nat} (hre : re.length = 7) : aEv mX7_refuse 1 0 0 N [.inr 0, .inl (-3)] [(mainSeg imt (tc : Int)), (moSeg 32 k f c n kp l nt w sh (p : Int) t d wa), B, (miscSeg z0 fs ss sp la gr (tl : Int) tp), B4, (auxSeg to re), C6] (aQx (some (.inl (-3))) [(mainSeg imt (tc : Int)), (moSeg 32 k f c n kp l nt w sh (p : Int) t d wa), B, (miscSeg z0 fs ss sp la gr (tl : Int) tp), B4, (auxSeg to (re.set 3 (re.getD 3 0 + 1))), C6]) := by
  refine aEv_of okX7_refuse caX7_refuse (Nat.le_of_ble_eq_true rfl) ?_
  refine aGo okX7_refuse 8 (f' := (12, [some (.inr 0), some (.inl (-3))], [.inl 3, .inr 162, .inl 3, .inr 162], _)) rfl ?_
  refine b_vV (as := [.inl 3]) (rest := [.inl 3, .inr 162]) (k := 162) (.inl (re.getD 3 0)) okX7_refuse rfl lkX7_289 caX4_at (Nat.le_of_ble_eq_true rfl) rfl (Nat.le_of_ble_eq_true rfl) rfl rfl rfl (c_at (i := 3) rfl rfl (by first | omega | (simp only [List.length_set]; omega)) (by omega)) ?_
  refine aGo okX7_refuse 2 (f' := (17, [some (.inr 0), some (.inl (-3))], [.inl ((re.getD 3 0) + 1), .inl 3, .inr 162], _)) rfl ?_
  refine b_vN (as := [.inl 3, .inl ((re.getD 3 0) + 1)]) (rest := []) (k := 162) okX7_refuse rfl lkX7_264 caX4_put (Nat.le_of_ble_eq_true rfl) rfl (Nat.le_of_ble_eq_true rfl) rfl rfl rfl (c_put (i := 3) rfl rfl (by first | omega | (simp only [List.length_set]; omega)) (by first | omega | (simp only [List.length_set]; omega)) ((re.getD 3 0) + 1)) ?_
  refine b_cast (f' := (20, [some (.inr 0), some (.inl (-3))], [], [(mainSeg imt (tc : Int)), (moSeg 32 k f c n kp l nt w sh (p : Int) t d wa), B, (miscSeg z0 fs ss sp la gr (tl : Int) tp), B4, (auxSeg to (re.set 3 ((re.getD 3 0) + 1))), C6])) rfl ?_
  refine aGo okX7_refuse 1 (f' := (21, [some (.inr 0), some (.inl (-3))], [.inl (-3)], _)) rfl ?_
  exact b_ret (v := (some (.inl (-3)))) ⟨rfl, Or.inl rfl⟩ ⟨rfl, rfl⟩ rfl
set_option maxRecDepth 100000 in
set_option maxHeartbeats 4000000 in
theorem c_refuseFar_3 {z0 : Int} {tl : Nat} (hre : re.length = 7) : aEv mX7_refuseFar 2 0 0 N [.inr 0, .inl (-3)] [(mainSeg imt (tc : Int)), (moSeg 32 k f c n kp l nt w sh (p : Int) t d wa), B, (miscSeg z0 fs ss sp la gr (tl : Int) tp), B4, (auxSeg to re), C6] (aQx (some (.inl 1000000003)) [(mainSeg imt (tc : Int)), (moSeg 32 k f c n kp l nt w sh (p : Int) t d wa), B, (miscSeg z0 fs ss sp la gr (tl : Int) tp), B4, (auxSeg to (re.set 3 (re.getD 3 0 + 1))), C6]) := by
  refine aEv_of okX7_refuseFar caX7_refuseFar (Nat.le_of_ble_eq_true rfl) ?_
  refine aGo okX7_refuseFar 3 (f' := (5, [some (.inr 0), some (.inl (-3))], [.inl (-3), .inr 0, .inl 1000000000], _)) rfl ?_
  refine b_vE (as := [.inl (-3)]) (rest := [.inl 1000000000]) (k := 0) okX7_refuseFar rfl lkX7_74 caX7_refuse (Nat.le_of_ble_eq_true rfl) rfl (Nat.le_of_ble_eq_true rfl) rfl rfl rfl (c_refuse_3 hre) ?_
  rintro _ _ ⟨rfl, rfl⟩
  refine aGo okX7_refuseFar 1 (f' := (9, [some (.inr 0), some (.inl (-3))], [.inl (1000000000 - (-3))], _)) rfl ?_
  exact b_ret (v := (some (.inl (1000000000 - (-3))))) ⟨rfl, Or.inl rfl⟩ ⟨rfl, rfl⟩ rfl
set_option maxRecDepth 100000 in
set_option maxHeartbeats 4000000 in
theorem c_refuse_4 {z0 : Int} {tl : Nat} (hre : re.length = 7) : aEv mX7_refuse 1 0 0 N [.inr 0, .inl (-4)] [(mainSeg imt (tc : Int)), (moSeg 32 k f c n kp l nt w sh (p : Int) t d wa), B, (miscSeg z0 fs ss sp la gr (tl : Int) tp), B4, (auxSeg to re), C6] (aQx (some (.inl (-4))) [(mainSeg imt (tc : Int)), (moSeg 32 k f c n kp l nt w sh (p : Int) t d wa), B, (miscSeg z0 fs ss sp la gr (tl : Int) tp), B4, (auxSeg to (re.set 4 (re.getD 4 0 + 1))), C6]) := by
  refine aEv_of okX7_refuse caX7_refuse (Nat.le_of_ble_eq_true rfl) ?_
  refine aGo okX7_refuse 8 (f' := (12, [some (.inr 0), some (.inl (-4))], [.inl 4, .inr 162, .inl 4, .inr 162], _)) rfl ?_
  refine b_vV (as := [.inl 4]) (rest := [.inl 4, .inr 162]) (k := 162) (.inl (re.getD 4 0)) okX7_refuse rfl lkX7_289 caX4_at (Nat.le_of_ble_eq_true rfl) rfl (Nat.le_of_ble_eq_true rfl) rfl rfl rfl (c_at (i := 4) rfl rfl (by first | omega | (simp only [List.length_set]; omega)) (by omega)) ?_
  refine aGo okX7_refuse 2 (f' := (17, [some (.inr 0), some (.inl (-4))], [.inl ((re.getD 4 0) + 1), .inl 4, .inr 162], _)) rfl ?_
  refine b_vN (as := [.inl 4, .inl ((re.getD 4 0) + 1)]) (rest := []) (k := 162) okX7_refuse rfl lkX7_264 caX4_put (Nat.le_of_ble_eq_true rfl) rfl (Nat.le_of_ble_eq_true rfl) rfl rfl rfl (c_put (i := 4) rfl rfl (by first | omega | (simp only [List.length_set]; omega)) (by first | omega | (simp only [List.length_set]; omega)) ((re.getD 4 0) + 1)) ?_
  refine b_cast (f' := (20, [some (.inr 0), some (.inl (-4))], [], [(mainSeg imt (tc : Int)), (moSeg 32 k f c n kp l nt w sh (p : Int) t d wa), B, (miscSeg z0 fs ss sp la gr (tl : Int) tp), B4, (auxSeg to (re.set 4 ((re.getD 4 0) + 1))), C6])) rfl ?_
  refine aGo okX7_refuse 1 (f' := (21, [some (.inr 0), some (.inl (-4))], [.inl (-4)], _)) rfl ?_
  exact b_ret (v := (some (.inl (-4)))) ⟨rfl, Or.inl rfl⟩ ⟨rfl, rfl⟩ rfl
set_option maxRecDepth 100000 in
set_option maxHeartbeats 4000000 in
theorem c_refuseFar_4 {z0 : Int} {tl : Nat} (hre : re.length = 7) : aEv mX7_refuseFar 2 0 0 N [.inr 0, .inl (-4)] [(mainSeg imt (tc : Int)), (moSeg 32 k f c n kp l nt w sh (p : Int) t d wa), B, (miscSeg z0 fs ss sp la gr (tl : Int) tp), B4, (auxSeg to re), C6] (aQx (some (.inl 1000000004)) [(mainSeg imt (tc : Int)), (moSeg 32 k f c n kp l nt w sh (p : Int) t d wa), B, (miscSeg z0 fs ss sp la gr (tl : Int) tp), B4, (auxSeg to (re.set 4 (re.getD 4 0 + 1))), C6]) := by
  refine aEv_of okX7_refuseFar caX7_refuseFar (Nat.le_of_ble_eq_true rfl) ?_
  refine aGo okX7_refuseFar 3 (f' := (5, [some (.inr 0), some (.inl (-4))], [.inl (-4), .inr 0, .inl 1000000000], _)) rfl ?_
  refine b_vE (as := [.inl (-4)]) (rest := [.inl 1000000000]) (k := 0) okX7_refuseFar rfl lkX7_74 caX7_refuse (Nat.le_of_ble_eq_true rfl) rfl (Nat.le_of_ble_eq_true rfl) rfl rfl rfl (c_refuse_4 hre) ?_
  rintro _ _ ⟨rfl, rfl⟩
  refine aGo okX7_refuseFar 1 (f' := (9, [some (.inr 0), some (.inl (-4))], [.inl (1000000000 - (-4))], _)) rfl ?_
  exact b_ret (v := (some (.inl (1000000000 - (-4))))) ⟨rfl, Or.inl rfl⟩ ⟨rfl, rfl⟩ rfl
set_option maxRecDepth 100000 in
set_option maxHeartbeats 4000000 in
theorem c_refuse_6 {z0 : Int} {tl : Nat} (hre : re.length = 7) : aEv mX7_refuse 1 0 0 N [.inr 0, .inl (-6)] [(mainSeg imt (tc : Int)), (moSeg 32 k f c n kp l nt w sh (p : Int) t d wa), B, (miscSeg z0 fs ss sp la gr (tl : Int) tp), B4, (auxSeg to re), C6] (aQx (some (.inl (-6))) [(mainSeg imt (tc : Int)), (moSeg 32 k f c n kp l nt w sh (p : Int) t d wa), B, (miscSeg z0 fs ss sp la gr (tl : Int) tp), B4, (auxSeg to (re.set 6 (re.getD 6 0 + 1))), C6]) := by
  refine aEv_of okX7_refuse caX7_refuse (Nat.le_of_ble_eq_true rfl) ?_
  refine aGo okX7_refuse 8 (f' := (12, [some (.inr 0), some (.inl (-6))], [.inl 6, .inr 162, .inl 6, .inr 162], _)) rfl ?_
  refine b_vV (as := [.inl 6]) (rest := [.inl 6, .inr 162]) (k := 162) (.inl (re.getD 6 0)) okX7_refuse rfl lkX7_289 caX4_at (Nat.le_of_ble_eq_true rfl) rfl (Nat.le_of_ble_eq_true rfl) rfl rfl rfl (c_at (i := 6) rfl rfl (by first | omega | (simp only [List.length_set]; omega)) (by omega)) ?_
  refine aGo okX7_refuse 2 (f' := (17, [some (.inr 0), some (.inl (-6))], [.inl ((re.getD 6 0) + 1), .inl 6, .inr 162], _)) rfl ?_
  refine b_vN (as := [.inl 6, .inl ((re.getD 6 0) + 1)]) (rest := []) (k := 162) okX7_refuse rfl lkX7_264 caX4_put (Nat.le_of_ble_eq_true rfl) rfl (Nat.le_of_ble_eq_true rfl) rfl rfl rfl (c_put (i := 6) rfl rfl (by first | omega | (simp only [List.length_set]; omega)) (by first | omega | (simp only [List.length_set]; omega)) ((re.getD 6 0) + 1)) ?_
  refine b_cast (f' := (20, [some (.inr 0), some (.inl (-6))], [], [(mainSeg imt (tc : Int)), (moSeg 32 k f c n kp l nt w sh (p : Int) t d wa), B, (miscSeg z0 fs ss sp la gr (tl : Int) tp), B4, (auxSeg to (re.set 6 ((re.getD 6 0) + 1))), C6])) rfl ?_
  refine aGo okX7_refuse 1 (f' := (21, [some (.inr 0), some (.inl (-6))], [.inl (-6)], _)) rfl ?_
  exact b_ret (v := (some (.inl (-6)))) ⟨rfl, Or.inl rfl⟩ ⟨rfl, rfl⟩ rfl
set_option maxRecDepth 100000 in
set_option maxHeartbeats 4000000 in
theorem c_refuseFar_6 {z0 : Int} {tl : Nat} (hre : re.length = 7) : aEv mX7_refuseFar 2 0 0 N [.inr 0, .inl (-6)] [(mainSeg imt (tc : Int)), (moSeg 32 k f c n kp l nt w sh (p : Int) t d wa), B, (miscSeg z0 fs ss sp la gr (tl : Int) tp), B4, (auxSeg to re), C6] (aQx (some (.inl 1000000006)) [(mainSeg imt (tc : Int)), (moSeg 32 k f c n kp l nt w sh (p : Int) t d wa), B, (miscSeg z0 fs ss sp la gr (tl : Int) tp), B4, (auxSeg to (re.set 6 (re.getD 6 0 + 1))), C6]) := by
  refine aEv_of okX7_refuseFar caX7_refuseFar (Nat.le_of_ble_eq_true rfl) ?_
  refine aGo okX7_refuseFar 3 (f' := (5, [some (.inr 0), some (.inl (-6))], [.inl (-6), .inr 0, .inl 1000000000], _)) rfl ?_
  refine b_vE (as := [.inl (-6)]) (rest := [.inl 1000000000]) (k := 0) okX7_refuseFar rfl lkX7_74 caX7_refuse (Nat.le_of_ble_eq_true rfl) rfl (Nat.le_of_ble_eq_true rfl) rfl rfl rfl (c_refuse_6 hre) ?_
  rintro _ _ ⟨rfl, rfl⟩
  refine aGo okX7_refuseFar 1 (f' := (9, [some (.inr 0), some (.inl (-6))], [.inl (1000000000 - (-6))], _)) rfl ?_
  exact b_ret (v := (some (.inl (1000000000 - (-6))))) ⟨rfl, Or.inl rfl⟩ ⟨rfl, rfl⟩ rfl
end AMA
theorem c_isCell_t {N : Nat} {h : aH} {x : Int} (hx : 0 ≤ x ∧ x ≤ 35) : aEx mX7_isCell 0 N [.inl x] h (some (.inl 1)) h := by
  refine aEv_of okX7_isCell caX7_isCell (Nat.le_of_ble_eq_true rfl) ?_
  refine aGo okX7_isCell 1 (f' := (1, [some (.inl x)], [.inl x], _)) rfl ?_
  refine b0_lt (tgt := 14) okX7_isCell rfl rfl ⟨by omega, by omega⟩ (fun h1 => absurd h1 (by omega)) (fun h1 => ?_)
  refine aGo okX7_isCell 2 (f' := (7, [some (.inl x)], [.inl 36, .inl x], _)) rfl ?_
  refine b_ge (tgt := 14) okX7_isCell rfl rfl ⟨by omega, by omega⟩ ⟨by omega, by omega⟩ (fun h7 => absurd h7 (by omega)) (fun h7 => ?_)
  refine aGo okX7_isCell 2 (f' := (15, [some (.inl x)], [.inl 1], _)) rfl ?_
  exact b_ret (v := (some (.inl 1))) ⟨rfl, Or.inr ⟨rfl, Or.inr rfl⟩⟩ ⟨rfl, rfl⟩ rfl
theorem c_isCell_f {N : Nat} {h : aH} {x : Int} (hx : aI x) (h1 : ¬ (0 ≤ x ∧ x ≤ 35)) : aEx mX7_isCell 0 N [.inl x] h (some (.inl 0)) h := by
  refine aEv_of okX7_isCell caX7_isCell (Nat.le_of_ble_eq_true rfl) ?_
  obtain ⟨hx1, hx2⟩ := hx
  refine aGo okX7_isCell 1 (f' := (1, [some (.inl x)], [.inl x], _)) rfl ?_
  refine b0_lt (tgt := 14) okX7_isCell rfl rfl ⟨by omega, by omega⟩ (fun h1 => ?_) (fun h1 => ?_)
  · refine aGo okX7_isCell 1 (f' := (15, [some (.inl x)], [.inl 0], _)) rfl ?_
    exact b_ret (v := (some (.inl 0))) ⟨rfl, Or.inr ⟨rfl, Or.inl rfl⟩⟩ ⟨rfl, rfl⟩ rfl
  · refine aGo okX7_isCell 2 (f' := (7, [some (.inl x)], [.inl 36, .inl x], _)) rfl ?_
    refine b_ge (tgt := 14) okX7_isCell rfl rfl ⟨by omega, by omega⟩ ⟨by omega, by omega⟩ (fun h7 => ?_) (fun h7 => absurd h7 (by omega))
    refine aGo okX7_isCell 1 (f' := (15, [some (.inl x)], [.inl 0], _)) rfl ?_
    exact b_ret (v := (some (.inl 0))) ⟨rfl, Or.inr ⟨rfl, Or.inl rfl⟩⟩ ⟨rfl, rfl⟩ rfl
set_option maxRecDepth 100000 in
set_option maxHeartbeats 4000000 in
theorem r_letter {imt : Int} {tc : Nat} {k f c n kp l : List Int} {p : Nat} {t d : Int} {to re : List Int} {tl : Nat} {tp : List Int} {I : moT} {C6 : List (Option aE)} {h : aH} {N : Nat} (hS : cSt imt tc k f c n kp l p t d to re tl tp I C6 h) {x : Int} (hx : aI x) (hw0 : (wy_letter tl x) ≠ 0) : aEv mX7_letter 2 0 0 N [.inr 0, .inl x] h (fun rv h2 => rv = some (.inl ((wy_letter tl x))) ∧ cSt imt tc k f c n kp l p t d to (bump re (wy_letter tl x)) tl tp I C6 h2) := by
  obtain ⟨hp6, hd9, hax, nt, w, sh, wa, B, z0, fs, ss, sp, la, gr, B4, hm, hB, hms, hI, hi01, rfl⟩ := hS
  obtain ⟨htp, rtp, htl9, hto, rto, htc, hre⟩ := id hax
  obtain ⟨hfs, hss, hsp, hla, hgr⟩ := id hms
  obtain ⟨⟨hp7, hk, hf, hc, hn, hkp, hl, rk, rf, rc, rn, rkp, rl, ht0, ht1, hd0, hd1⟩, ⟨hnt, znt⟩, ⟨hw, zw, zwa⟩, ⟨hsh, zsh⟩⟩ := id hm
  obtain ⟨hx1, hx2⟩ := hx
  refine aEv_of okX7_letter caX7_letter (Nat.le_of_ble_eq_true rfl) ?_
  refine aGo okX7_letter 1 (f' := (1, [some (.inr 0), some (.inl x)], [.inl x], _)) rfl ?_
  refine b0_ge (tgt := 11) okX7_letter rfl rfl ⟨by omega, by omega⟩ (fun h1 => ?_) (fun h1 => ?_)
  · refine aGo okX7_letter 2 (f' := (15, [some (.inr 0), some (.inl x)], [.inl 255, .inl x], _)) rfl ?_
    refine b_gt (tgt := 28) okX7_letter rfl rfl ⟨by omega, by omega⟩ ⟨by omega, by omega⟩ (fun h15 => ?_) (fun h15 => ?_)
    · refine aGo okX7_letter 2 (f' := (31, [some (.inr 0), some (.inl x)], [.inl (-6), .inr 0], _)) rfl ?_
      refine b_vE (as := [.inl (-6)]) (rest := []) (k := 0) okX7_letter rfl lkX7_74 caX7_refuse (Nat.le_of_ble_eq_true rfl) rfl (Nat.le_of_ble_eq_true rfl) rfl rfl rfl (c_refuse_6 hre) ?_
      rintro _ _ ⟨rfl, rfl⟩
      have hw : (wy_letter tl x) = -6 := by unfold wy_letter; (repeat' split) <;> omega
      exact b_ret (v := (some (.inl (-6)))) ⟨rfl, Or.inl rfl⟩ ⟨by rw [hw]; first | done | rfl, by rw [hw, bump_6]; exact cSt_of hp6 hd9 ⟨htp, rtp, htl9, hto, rto, htc, by rw [List.length_set]; exact hre⟩ hm hB hms hI hi01⟩ rfl
    · refine aGo okX7_letter 2 (f' := (22, [some (.inr 0), some (.inl x)], [.inr 110], _)) rfl ?_
      by_cases hc22 : tl < 96
      · refine b_vV (as := []) (rest := []) (k := 110) (.inl 1) okX7_letter rfl lkX7_78 caX6_hasRoom (Nat.le_of_ble_eq_true rfl) rfl (Nat.le_of_ble_eq_true rfl) rfl rfl rfl (c_hasRoom_t (by omega)) ?_
        refine b0_ne (tgt := 35) okX7_letter rfl rfl ⟨by omega, by omega⟩ (fun h25 => ?_) (fun h25 => absurd h25 (by omega))
        refine aGo okX7_letter 3 (f' := (40, [some (.inr 0), some (.inl x)], [.inl x, .inr 110], _)) rfl ?_
        exact absurd (by unfold wy_letter; (repeat' split) <;> omega) hw0
      · refine b_vV (as := []) (rest := []) (k := 110) (.inl 0) okX7_letter rfl lkX7_78 caX6_hasRoom (Nat.le_of_ble_eq_true rfl) rfl (Nat.le_of_ble_eq_true rfl) rfl rfl rfl (c_hasRoom_f (by omega)) ?_
        refine b0_ne (tgt := 35) okX7_letter rfl rfl ⟨by omega, by omega⟩ (fun h25 => absurd h25 (by omega)) (fun h25 => ?_)
        refine aGo okX7_letter 2 (f' := (31, [some (.inr 0), some (.inl x)], [.inl (-6), .inr 0], _)) rfl ?_
        refine b_vE (as := [.inl (-6)]) (rest := []) (k := 0) okX7_letter rfl lkX7_74 caX7_refuse (Nat.le_of_ble_eq_true rfl) rfl (Nat.le_of_ble_eq_true rfl) rfl rfl rfl (c_refuse_6 hre) ?_
        rintro _ _ ⟨rfl, rfl⟩
        have hw : (wy_letter tl x) = -6 := by unfold wy_letter; (repeat' split) <;> omega
        exact b_ret (v := (some (.inl (-6)))) ⟨rfl, Or.inl rfl⟩ ⟨by rw [hw]; first | done | rfl, by rw [hw, bump_6]; exact cSt_of hp6 hd9 ⟨htp, rtp, htl9, hto, rto, htc, by rw [List.length_set]; exact hre⟩ hm hB hms hI hi01⟩ rfl
  · refine aGo okX7_letter 2 (f' := (7, [some (.inr 0), some (.inl x)], [.inl (-4), .inr 0], _)) rfl ?_
    refine b_vE (as := [.inl (-4)]) (rest := []) (k := 0) okX7_letter rfl lkX7_74 caX7_refuse (Nat.le_of_ble_eq_true rfl) rfl (Nat.le_of_ble_eq_true rfl) rfl rfl rfl (c_refuse_4 hre) ?_
    rintro _ _ ⟨rfl, rfl⟩
    have hw : (wy_letter tl x) = -4 := by unfold wy_letter; (repeat' split) <;> omega
    exact b_ret (v := (some (.inl (-4)))) ⟨rfl, Or.inl rfl⟩ ⟨by rw [hw]; first | done | rfl, by rw [hw, bump_4]; exact cSt_of hp6 hd9 ⟨htp, rtp, htl9, hto, rto, htc, by rw [List.length_set]; exact hre⟩ hm hB hms hI hi01⟩ rfl
set_option maxRecDepth 100000 in
set_option maxHeartbeats 4000000 in
theorem r_person {imt : Int} {tc : Nat} {k f c n kp l : List Int} {p : Nat} {t d : Int} {to re : List Int} {tl : Nat} {tp : List Int} {I : moT} {C6 : List (Option aE)} {h : aH} {N : Nat} (hS : cSt imt tc k f c n kp l p t d to re tl tp I C6 h) {x : Int} (hx : aI x) {y : Int} (hy : aI y) (hw0 : (wy_person p x y) ≠ 0) : aEv mX7_person 2 0 0 N [.inr 0, .inl x, .inl y] h (fun rv h2 => rv = some (.inl ((wy_person p x y))) ∧ cSt imt tc k f c n kp l p t d to (bump re (wy_person p x y)) tl tp I C6 h2) := by
  obtain ⟨hp6, hd9, hax, nt, w, sh, wa, B, z0, fs, ss, sp, la, gr, B4, hm, hB, hms, hI, hi01, rfl⟩ := hS
  obtain ⟨htp, rtp, htl9, hto, rto, htc, hre⟩ := id hax
  obtain ⟨hfs, hss, hsp, hla, hgr⟩ := id hms
  obtain ⟨⟨hp7, hk, hf, hc, hn, hkp, hl, rk, rf, rc, rn, rkp, rl, ht0, ht1, hd0, hd1⟩, ⟨hnt, znt⟩, ⟨hw, zw, zwa⟩, ⟨hsh, zsh⟩⟩ := id hm
  obtain ⟨hx1, hx2⟩ := hx
  obtain ⟨hy1, hy2⟩ := hy
  refine aEv_of okX7_person caX7_person (Nat.le_of_ble_eq_true rfl) ?_
  refine aGo okX7_person 3 (f' := (5, [some (.inr 0), some (.inl x), some (.inl y)], [.inl x, .inr 32], _)) rfl ?_
  by_cases hc5 : 0 ≤ x ∧ x < (p : Int)
  · refine b_vV (as := [.inl x]) (rest := []) (k := 32) (.inl 1) okX7_person rfl lkX7_95 caX3_isThere (Nat.le_of_ble_eq_true rfl) rfl (Nat.le_of_ble_eq_true rfl) rfl rfl rfl (c_isThere_1_t (x := x) (by omega) hc5.1 hc5.2) ?_
    refine b0_ne (tgt := 17) okX7_person rfl rfl ⟨by omega, by omega⟩ (fun h8 => ?_) (fun h8 => absurd h8 (by omega))
    refine aGo okX7_person 1 (f' := (18, [some (.inr 0), some (.inl x), some (.inl y)], [.inl y], _)) rfl ?_
    by_cases hs18 : 0 ≤ y ∧ y ≤ 6
    · have hsx := (show y = 0 ∨ y = 1 ∨ y = 2 ∨ y = 3 ∨ y = 4 ∨ y = 5 ∨ y = 6 from by omega)
      rcases hsx with hsw | hsw | hsw | hsw | hsw | hsw | hsw
      · refine b_cast (f' := (18, [some (.inr 0), some (.inl x), some (.inl y)], [.inl 0], [(mainSeg imt (tc : Int)), (moSeg 32 k f c n kp l nt w sh (p : Int) t d wa), B, (miscSeg z0 fs ss sp la gr (tl : Int) tp), B4, (auxSeg to re), C6])) (congrArg (fun zz : Int => ((18, [some (.inr 0), some (.inl x), some (.inl y)], .inl zz :: [], [(mainSeg imt (tc : Int)), (moSeg 32 k f c n kp l nt w sh (p : Int) t d wa), B, (miscSeg z0 fs ss sp la gr (tl : Int) tp), B4, (auxSeg to re), C6]) : aF)) hsw) ?_
        refine b_swIn (tgt := 60) okX7_person rfl ⟨by decide, by decide⟩ (by decide) (by decide) rfl rfl ?_
        refine aGo okX7_person 3 (f' := (65, [some (.inr 0), some (.inl x), some (.inl y)], [.inl x, .inr 32], _)) rfl ?_
        exact absurd (by unfold wy_person; (repeat' split) <;> omega) hw0
      · refine b_cast (f' := (18, [some (.inr 0), some (.inl x), some (.inl y)], [.inl 1], [(mainSeg imt (tc : Int)), (moSeg 32 k f c n kp l nt w sh (p : Int) t d wa), B, (miscSeg z0 fs ss sp la gr (tl : Int) tp), B4, (auxSeg to re), C6])) (congrArg (fun zz : Int => ((18, [some (.inr 0), some (.inl x), some (.inl y)], .inl zz :: [], [(mainSeg imt (tc : Int)), (moSeg 32 k f c n kp l nt w sh (p : Int) t d wa), B, (miscSeg z0 fs ss sp la gr (tl : Int) tp), B4, (auxSeg to re), C6]) : aF)) hsw) ?_
        refine b_swIn (tgt := 69) okX7_person rfl ⟨by decide, by decide⟩ (by decide) (by decide) rfl rfl ?_
        refine aGo okX7_person 3 (f' := (74, [some (.inr 0), some (.inl x), some (.inl y)], [.inl x, .inr 32], _)) rfl ?_
        exact absurd (by unfold wy_person; (repeat' split) <;> omega) hw0
      · refine b_cast (f' := (18, [some (.inr 0), some (.inl x), some (.inl y)], [.inl 2], [(mainSeg imt (tc : Int)), (moSeg 32 k f c n kp l nt w sh (p : Int) t d wa), B, (miscSeg z0 fs ss sp la gr (tl : Int) tp), B4, (auxSeg to re), C6])) (congrArg (fun zz : Int => ((18, [some (.inr 0), some (.inl x), some (.inl y)], .inl zz :: [], [(mainSeg imt (tc : Int)), (moSeg 32 k f c n kp l nt w sh (p : Int) t d wa), B, (miscSeg z0 fs ss sp la gr (tl : Int) tp), B4, (auxSeg to re), C6]) : aF)) hsw) ?_
        refine b_swIn (tgt := 78) okX7_person rfl ⟨by decide, by decide⟩ (by decide) (by decide) rfl rfl ?_
        refine aGo okX7_person 3 (f' := (83, [some (.inr 0), some (.inl x), some (.inl y)], [.inl x, .inr 32], _)) rfl ?_
        exact absurd (by unfold wy_person; (repeat' split) <;> omega) hw0
      · refine b_cast (f' := (18, [some (.inr 0), some (.inl x), some (.inl y)], [.inl 3], [(mainSeg imt (tc : Int)), (moSeg 32 k f c n kp l nt w sh (p : Int) t d wa), B, (miscSeg z0 fs ss sp la gr (tl : Int) tp), B4, (auxSeg to re), C6])) (congrArg (fun zz : Int => ((18, [some (.inr 0), some (.inl x), some (.inl y)], .inl zz :: [], [(mainSeg imt (tc : Int)), (moSeg 32 k f c n kp l nt w sh (p : Int) t d wa), B, (miscSeg z0 fs ss sp la gr (tl : Int) tp), B4, (auxSeg to re), C6]) : aF)) hsw) ?_
        refine b_swIn (tgt := 87) okX7_person rfl ⟨by decide, by decide⟩ (by decide) (by decide) rfl rfl ?_
        refine aGo okX7_person 3 (f' := (92, [some (.inr 0), some (.inl x), some (.inl y)], [.inl x, .inr 32], _)) rfl ?_
        exact absurd (by unfold wy_person; (repeat' split) <;> omega) hw0
      · refine b_cast (f' := (18, [some (.inr 0), some (.inl x), some (.inl y)], [.inl 4], [(mainSeg imt (tc : Int)), (moSeg 32 k f c n kp l nt w sh (p : Int) t d wa), B, (miscSeg z0 fs ss sp la gr (tl : Int) tp), B4, (auxSeg to re), C6])) (congrArg (fun zz : Int => ((18, [some (.inr 0), some (.inl x), some (.inl y)], .inl zz :: [], [(mainSeg imt (tc : Int)), (moSeg 32 k f c n kp l nt w sh (p : Int) t d wa), B, (miscSeg z0 fs ss sp la gr (tl : Int) tp), B4, (auxSeg to re), C6]) : aF)) hsw) ?_
        refine b_swIn (tgt := 96) okX7_person rfl ⟨by decide, by decide⟩ (by decide) (by decide) rfl rfl ?_
        refine aGo okX7_person 3 (f' := (101, [some (.inr 0), some (.inl x), some (.inl y)], [.inl x, .inr 32], _)) rfl ?_
        exact absurd (by unfold wy_person; (repeat' split) <;> omega) hw0
      · refine b_cast (f' := (18, [some (.inr 0), some (.inl x), some (.inl y)], [.inl 5], [(mainSeg imt (tc : Int)), (moSeg 32 k f c n kp l nt w sh (p : Int) t d wa), B, (miscSeg z0 fs ss sp la gr (tl : Int) tp), B4, (auxSeg to re), C6])) (congrArg (fun zz : Int => ((18, [some (.inr 0), some (.inl x), some (.inl y)], .inl zz :: [], [(mainSeg imt (tc : Int)), (moSeg 32 k f c n kp l nt w sh (p : Int) t d wa), B, (miscSeg z0 fs ss sp la gr (tl : Int) tp), B4, (auxSeg to re), C6]) : aF)) hsw) ?_
        refine b_swIn (tgt := 105) okX7_person rfl ⟨by decide, by decide⟩ (by decide) (by decide) rfl rfl ?_
        refine aGo okX7_person 3 (f' := (110, [some (.inr 0), some (.inl x), some (.inl y)], [.inl x, .inr 32], _)) rfl ?_
        exact absurd (by unfold wy_person; (repeat' split) <;> omega) hw0
      · refine b_cast (f' := (18, [some (.inr 0), some (.inl x), some (.inl y)], [.inl 6], [(mainSeg imt (tc : Int)), (moSeg 32 k f c n kp l nt w sh (p : Int) t d wa), B, (miscSeg z0 fs ss sp la gr (tl : Int) tp), B4, (auxSeg to re), C6])) (congrArg (fun zz : Int => ((18, [some (.inr 0), some (.inl x), some (.inl y)], .inl zz :: [], [(mainSeg imt (tc : Int)), (moSeg 32 k f c n kp l nt w sh (p : Int) t d wa), B, (miscSeg z0 fs ss sp la gr (tl : Int) tp), B4, (auxSeg to re), C6]) : aF)) hsw) ?_
        refine b_swIn (tgt := 114) okX7_person rfl ⟨by decide, by decide⟩ (by decide) (by decide) rfl rfl ?_
        refine aGo okX7_person 3 (f' := (119, [some (.inr 0), some (.inl x), some (.inl y)], [.inl x, .inr 32], _)) rfl ?_
        exact absurd (by unfold wy_person; (repeat' split) <;> omega) hw0
    · refine b_swOut (tgt := 123) okX7_person rfl ⟨by omega, by omega⟩ (by omega) rfl ?_
      refine aGo okX7_person 2 (f' := (126, [some (.inr 0), some (.inl x), some (.inl y)], [.inl (-2), .inr 0], _)) rfl ?_
      refine b_vE (as := [.inl (-2)]) (rest := []) (k := 0) okX7_person rfl lkX7_74 caX7_refuse (Nat.le_of_ble_eq_true rfl) rfl (Nat.le_of_ble_eq_true rfl) rfl rfl rfl (c_refuse_2 hre) ?_
      rintro _ _ ⟨rfl, rfl⟩
      have hw : (wy_person p x y) = -2 := by unfold wy_person; (repeat' split) <;> omega
      exact b_ret (v := (some (.inl (-2)))) ⟨rfl, Or.inl rfl⟩ ⟨by rw [hw]; first | done | rfl, by rw [hw, bump_2]; exact cSt_of hp6 hd9 ⟨htp, rtp, htl9, hto, rto, htc, by rw [List.length_set]; exact hre⟩ hm hB hms hI hi01⟩ rfl
  · refine b_vV (as := [.inl x]) (rest := []) (k := 32) (.inl 0) okX7_person rfl lkX7_95 caX3_isThere (Nat.le_of_ble_eq_true rfl) rfl (Nat.le_of_ble_eq_true rfl) rfl rfl rfl (c_isThere_1_f (x := x) (by omega) ⟨by omega, by omega⟩ hc5) ?_
    refine b0_ne (tgt := 17) okX7_person rfl rfl ⟨by omega, by omega⟩ (fun h8 => absurd h8 (by omega)) (fun h8 => ?_)
    refine aGo okX7_person 2 (f' := (13, [some (.inr 0), some (.inl x), some (.inl y)], [.inl (-1), .inr 0], _)) rfl ?_
    refine b_vE (as := [.inl (-1)]) (rest := []) (k := 0) okX7_person rfl lkX7_74 caX7_refuse (Nat.le_of_ble_eq_true rfl) rfl (Nat.le_of_ble_eq_true rfl) rfl rfl rfl (c_refuse_1 hre) ?_
    rintro _ _ ⟨rfl, rfl⟩
    have hw : (wy_person p x y) = -1 := by unfold wy_person; (repeat' split) <;> omega
    exact b_ret (v := (some (.inl (-1)))) ⟨rfl, Or.inl rfl⟩ ⟨by rw [hw]; first | done | rfl, by rw [hw, bump_1]; exact cSt_of hp6 hd9 ⟨htp, rtp, htl9, hto, rto, htc, by rw [List.length_set]; exact hre⟩ hm hB hms hI hi01⟩ rfl
set_option maxRecDepth 100000 in
set_option maxHeartbeats 4000000 in
theorem r_owns {imt : Int} {tc : Nat} {k f c n kp l : List Int} {p : Nat} {t d : Int} {to re : List Int} {tl : Nat} {tp : List Int} {I : moT} {C6 : List (Option aE)} {h : aH} {N : Nat} (hS : cSt imt tc k f c n kp l p t d to re tl tp I C6 h) {x : Int} (hx : aI x) (hw0 : (wy_owns p x) ≠ 0) : aEv mX7_owns 3 0 0 N [.inr 0, .inl x] h (fun rv h2 => rv = some (.inl (1000000000 - (wy_owns p x))) ∧ cSt imt tc k f c n kp l p t d to (bump re (wy_owns p x)) tl tp I C6 h2) := by
  obtain ⟨hp6, hd9, hax, nt, w, sh, wa, B, z0, fs, ss, sp, la, gr, B4, hm, hB, hms, hI, hi01, rfl⟩ := hS
  obtain ⟨htp, rtp, htl9, hto, rto, htc, hre⟩ := id hax
  obtain ⟨hfs, hss, hsp, hla, hgr⟩ := id hms
  obtain ⟨⟨hp7, hk, hf, hc, hn, hkp, hl, rk, rf, rc, rn, rkp, rl, ht0, ht1, hd0, hd1⟩, ⟨hnt, znt⟩, ⟨hw, zw, zwa⟩, ⟨hsh, zsh⟩⟩ := id hm
  obtain ⟨hx1, hx2⟩ := hx
  refine aEv_of okX7_owns caX7_owns (Nat.le_of_ble_eq_true rfl) ?_
  refine aGo okX7_owns 3 (f' := (5, [some (.inr 0), some (.inl x)], [.inl x, .inr 32], _)) rfl ?_
  by_cases hc5 : 0 ≤ x ∧ x < (p : Int)
  · refine b_vV (as := [.inl x]) (rest := []) (k := 32) (.inl 1) okX7_owns rfl lkX7_95 caX3_isThere (Nat.le_of_ble_eq_true rfl) rfl (Nat.le_of_ble_eq_true rfl) rfl rfl rfl (c_isThere_1_t (x := x) (by omega) hc5.1 hc5.2) ?_
    refine b0_ne (tgt := 17) okX7_owns rfl rfl ⟨by omega, by omega⟩ (fun h8 => ?_) (fun h8 => absurd h8 (by omega))
    refine aGo okX7_owns 3 (f' := (22, [some (.inr 0), some (.inl x)], [.inl x, .inr 32], _)) rfl ?_
    exact absurd (by unfold wy_owns; (repeat' split) <;> omega) hw0
  · refine b_vV (as := [.inl x]) (rest := []) (k := 32) (.inl 0) okX7_owns rfl lkX7_95 caX3_isThere (Nat.le_of_ble_eq_true rfl) rfl (Nat.le_of_ble_eq_true rfl) rfl rfl rfl (c_isThere_1_f (x := x) (by omega) ⟨by omega, by omega⟩ hc5) ?_
    refine b0_ne (tgt := 17) okX7_owns rfl rfl ⟨by omega, by omega⟩ (fun h8 => absurd h8 (by omega)) (fun h8 => ?_)
    refine aGo okX7_owns 2 (f' := (13, [some (.inr 0), some (.inl x)], [.inl (-1), .inr 0], _)) rfl ?_
    refine b_vE (as := [.inl (-1)]) (rest := []) (k := 0) okX7_owns rfl lkX7_120 caX7_refuseFar (Nat.le_of_ble_eq_true rfl) rfl (Nat.le_of_ble_eq_true rfl) rfl rfl rfl (c_refuseFar_1 hre) ?_
    rintro _ _ ⟨rfl, rfl⟩
    have hw : (wy_owns p x) = -1 := by unfold wy_owns; (repeat' split) <;> omega
    exact b_ret (v := (some (.inl 1000000001))) ⟨rfl, Or.inl rfl⟩ ⟨by rw [hw]; first | done | rfl, by rw [hw, bump_1]; exact cSt_of hp6 hd9 ⟨htp, rtp, htl9, hto, rto, htc, by rw [List.length_set]; exact hre⟩ hm hB hms hI hi01⟩ rfl
set_option maxRecDepth 100000 in
set_option maxHeartbeats 4000000 in
theorem r_loan {imt : Int} {tc : Nat} {k f c n kp l : List Int} {p : Nat} {t d : Int} {to re : List Int} {tl : Nat} {tp : List Int} {I : moT} {C6 : List (Option aE)} {h : aH} {N : Nat} (hS : cSt imt tc k f c n kp l p t d to re tl tp I C6 h) {x : Int} (hx : aI x) {y : Int} (hy : aI y) (hw0 : (wy_loan p x y) ≠ 0) : aEv mX7_loan 2 0 0 N [.inr 0, .inl x, .inl y] h (fun rv h2 => rv = some (.inl ((wy_loan p x y))) ∧ cSt imt tc k f c n kp l p t d to (bump re (wy_loan p x y)) tl tp I C6 h2) := by
  obtain ⟨hp6, hd9, hax, nt, w, sh, wa, B, z0, fs, ss, sp, la, gr, B4, hm, hB, hms, hI, hi01, rfl⟩ := hS
  obtain ⟨htp, rtp, htl9, hto, rto, htc, hre⟩ := id hax
  obtain ⟨hfs, hss, hsp, hla, hgr⟩ := id hms
  obtain ⟨⟨hp7, hk, hf, hc, hn, hkp, hl, rk, rf, rc, rn, rkp, rl, ht0, ht1, hd0, hd1⟩, ⟨hnt, znt⟩, ⟨hw, zw, zwa⟩, ⟨hsh, zsh⟩⟩ := id hm
  obtain ⟨hx1, hx2⟩ := hx
  obtain ⟨hy1, hy2⟩ := hy
  refine aEv_of okX7_loan caX7_loan (Nat.le_of_ble_eq_true rfl) ?_
  refine aGo okX7_loan 4 (f' := (6, [some (.inr 0), some (.inl x), some (.inl y)], [.inl y, .inl x, .inr 32], _)) rfl ?_
  by_cases hc6 : 0 ≤ x ∧ x < (p : Int) ∧ 0 ≤ y ∧ y < (p : Int) ∧ x ≠ y
  · refine b_vV (as := [.inl x, .inl y]) (rest := []) (k := 32) (.inl 1) okX7_loan rfl lkX7_126 caX3_areTwo (Nat.le_of_ble_eq_true rfl) rfl (Nat.le_of_ble_eq_true rfl) rfl rfl rfl (c_areTwo_1_t hp7 ⟨by omega, by omega⟩ ⟨by omega, by omega⟩ (by omega)) ?_
    refine b0_ne (tgt := 18) okX7_loan rfl rfl ⟨by omega, by omega⟩ (fun h9 => ?_) (fun h9 => absurd h9 (by omega))
    refine aGo okX7_loan 4 (f' := (24, [some (.inr 0), some (.inl x), some (.inl y)], [.inl y, .inl x, .inr 32], _)) rfl ?_
    exact absurd (by unfold wy_loan; (repeat' split) <;> omega) hw0
  · refine b_vV (as := [.inl x, .inl y]) (rest := []) (k := 32) (.inl 0) okX7_loan rfl lkX7_126 caX3_areTwo (Nat.le_of_ble_eq_true rfl) rfl (Nat.le_of_ble_eq_true rfl) rfl rfl rfl (c_areTwo_1_f hp7 ⟨by omega, by omega⟩ ⟨by omega, by omega⟩ hc6) ?_
    refine b0_ne (tgt := 18) okX7_loan rfl rfl ⟨by omega, by omega⟩ (fun h9 => absurd h9 (by omega)) (fun h9 => ?_)
    refine aGo okX7_loan 2 (f' := (14, [some (.inr 0), some (.inl x), some (.inl y)], [.inl (-1), .inr 0], _)) rfl ?_
    refine b_vE (as := [.inl (-1)]) (rest := []) (k := 0) okX7_loan rfl lkX7_74 caX7_refuse (Nat.le_of_ble_eq_true rfl) rfl (Nat.le_of_ble_eq_true rfl) rfl rfl rfl (c_refuse_1 hre) ?_
    rintro _ _ ⟨rfl, rfl⟩
    have hw : (wy_loan p x y) = -1 := by unfold wy_loan; (repeat' split) <;> omega
    exact b_ret (v := (some (.inl (-1)))) ⟨rfl, Or.inl rfl⟩ ⟨by rw [hw]; first | done | rfl, by rw [hw, bump_1]; exact cSt_of hp6 hd9 ⟨htp, rtp, htl9, hto, rto, htc, by rw [List.length_set]; exact hre⟩ hm hB hms hI hi01⟩ rfl
set_option maxRecDepth 100000 in
set_option maxHeartbeats 4000000 in
theorem r_go {imt : Int} {tc : Nat} {k f c n kp l : List Int} {p : Nat} {t d : Int} {to re : List Int} {tl : Nat} {tp : List Int} {I : moT} {C6 : List (Option aE)} {h : aH} {N : Nat} (hS : cSt imt tc k f c n kp l p t d to re tl tp I C6 h) {x : Int} (hx : aI x) {y : Int} (hy : aI y) (hw0 : (wy_go p x y) ≠ 0) : aEv mX7_go 5 0 0 N [.inr 0, .inl x, .inl y] h (fun rv h2 => rv = some (.inl ((wy_go p x y))) ∧ cSt imt tc k f c n kp l p t d to (bump re (wy_go p x y)) tl tp I C6 h2) := by
  obtain ⟨hp6, hd9, hax, nt, w, sh, wa, B, z0, fs, ss, sp, la, gr, B4, hm, hB, hms, hI, hi01, rfl⟩ := hS
  obtain ⟨htp, rtp, htl9, hto, rto, htc, hre⟩ := id hax
  obtain ⟨hfs, hss, hsp, hla, hgr⟩ := id hms
  obtain ⟨⟨hp7, hk, hf, hc, hn, hkp, hl, rk, rf, rc, rn, rkp, rl, ht0, ht1, hd0, hd1⟩, ⟨hnt, znt⟩, ⟨hw, zw, zwa⟩, ⟨hsh, zsh⟩⟩ := id hm
  obtain ⟨hx1, hx2⟩ := hx
  obtain ⟨hy1, hy2⟩ := hy
  refine aEv_of okX7_go caX7_go (Nat.le_of_ble_eq_true rfl) ?_
  refine aGo okX7_go 3 (f' := (5, [some (.inr 0), some (.inl x), some (.inl y), none], [.inl x, .inr 32], _)) rfl ?_
  by_cases hc5 : 0 ≤ x ∧ x < (p : Int)
  · refine b_vV (as := [.inl x]) (rest := []) (k := 32) (.inl 1) okX7_go rfl lkX7_95 caX3_isThere (Nat.le_of_ble_eq_true rfl) rfl (Nat.le_of_ble_eq_true rfl) rfl rfl rfl (c_isThere_1_t (x := x) (by omega) hc5.1 hc5.2) ?_
    refine b0_eq (tgt := 18) okX7_go rfl rfl ⟨by omega, by omega⟩ (fun h8 => absurd h8 (by omega)) (fun h8 => ?_)
    refine aGo okX7_go 1 (f' := (12, [some (.inr 0), some (.inl x), some (.inl y), none], [.inl y], _)) rfl ?_
    by_cases hc12 : 0 ≤ y ∧ y ≤ 35
    · refine b_vS (as := [.inl y]) (rest := []) (.inl 1) okX7_go rfl lkX7_134 caX7_isCell (Nat.le_of_ble_eq_true rfl) rfl (Nat.le_of_ble_eq_true rfl) rfl (c_isCell_t ⟨by omega, by omega⟩) ?_
      refine b0_ne (tgt := 24) okX7_go rfl rfl ⟨by omega, by omega⟩ (fun h15 => ?_) (fun h15 => absurd h15 (by omega))
      refine aGo okX7_go 3 (f' := (29, [some (.inr 0), some (.inl x), some (.inl y), none], [.inl x, .inr 32], _)) rfl ?_
      exact absurd (by unfold wy_go; (repeat' split) <;> omega) hw0
    · refine b_vS (as := [.inl y]) (rest := []) (.inl 0) okX7_go rfl lkX7_134 caX7_isCell (Nat.le_of_ble_eq_true rfl) rfl (Nat.le_of_ble_eq_true rfl) rfl (c_isCell_f ⟨by omega, by omega⟩ hc12) ?_
      refine b0_ne (tgt := 24) okX7_go rfl rfl ⟨by omega, by omega⟩ (fun h15 => absurd h15 (by omega)) (fun h15 => ?_)
      refine aGo okX7_go 2 (f' := (20, [some (.inr 0), some (.inl x), some (.inl y), none], [.inl (-1), .inr 0], _)) rfl ?_
      refine b_vE (as := [.inl (-1)]) (rest := []) (k := 0) okX7_go rfl lkX7_74 caX7_refuse (Nat.le_of_ble_eq_true rfl) rfl (Nat.le_of_ble_eq_true rfl) rfl rfl rfl (c_refuse_1 hre) ?_
      rintro _ _ ⟨rfl, rfl⟩
      have hw : (wy_go p x y) = -1 := by unfold wy_go; (repeat' split) <;> omega
      exact b_ret (v := (some (.inl (-1)))) ⟨rfl, Or.inl rfl⟩ ⟨by rw [hw]; first | done | rfl, by rw [hw, bump_1]; exact cSt_of hp6 hd9 ⟨htp, rtp, htl9, hto, rto, htc, by rw [List.length_set]; exact hre⟩ hm hB hms hI hi01⟩ rfl
  · refine b_vV (as := [.inl x]) (rest := []) (k := 32) (.inl 0) okX7_go rfl lkX7_95 caX3_isThere (Nat.le_of_ble_eq_true rfl) rfl (Nat.le_of_ble_eq_true rfl) rfl rfl rfl (c_isThere_1_f (x := x) (by omega) ⟨by omega, by omega⟩ hc5) ?_
    refine b0_eq (tgt := 18) okX7_go rfl rfl ⟨by omega, by omega⟩ (fun h8 => ?_) (fun h8 => absurd h8 (by omega))
    refine aGo okX7_go 2 (f' := (20, [some (.inr 0), some (.inl x), some (.inl y), none], [.inl (-1), .inr 0], _)) rfl ?_
    refine b_vE (as := [.inl (-1)]) (rest := []) (k := 0) okX7_go rfl lkX7_74 caX7_refuse (Nat.le_of_ble_eq_true rfl) rfl (Nat.le_of_ble_eq_true rfl) rfl rfl rfl (c_refuse_1 hre) ?_
    rintro _ _ ⟨rfl, rfl⟩
    have hw : (wy_go p x y) = -1 := by unfold wy_go; (repeat' split) <;> omega
    exact b_ret (v := (some (.inl (-1)))) ⟨rfl, Or.inl rfl⟩ ⟨by rw [hw]; first | done | rfl, by rw [hw, bump_1]; exact cSt_of hp6 hd9 ⟨htp, rtp, htl9, hto, rto, htc, by rw [List.length_set]; exact hre⟩ hm hB hms hI hi01⟩ rfl
set_option maxRecDepth 100000 in
set_option maxHeartbeats 4000000 in
theorem r_lend {imt : Int} {tc : Nat} {k f c n kp l : List Int} {p : Nat} {t d : Int} {to re : List Int} {tl : Nat} {tp : List Int} {I : moT} {C6 : List (Option aE)} {h : aH} {N : Nat} (hS : cSt imt tc k f c n kp l p t d to re tl tp I C6 h) {x : Int} (hx : aI x) {y : Int} (hy : aI y) {z : Int} (hz : aI z) (hw0 : (wy_lend p x y z) ≠ 0) : aEv mX7_lend 4 0 0 N [.inr 0, .inl x, .inl y, .inl z] h (fun rv h2 => rv = some (.inl ((wy_lend p x y z))) ∧ cSt imt tc k f c n kp l p t d to (bump re (wy_lend p x y z)) tl tp I C6 h2) := by
  obtain ⟨hp6, hd9, hax, nt, w, sh, wa, B, z0, fs, ss, sp, la, gr, B4, hm, hB, hms, hI, hi01, rfl⟩ := hS
  obtain ⟨htp, rtp, htl9, hto, rto, htc, hre⟩ := id hax
  obtain ⟨hfs, hss, hsp, hla, hgr⟩ := id hms
  obtain ⟨⟨hp7, hk, hf, hc, hn, hkp, hl, rk, rf, rc, rn, rkp, rl, ht0, ht1, hd0, hd1⟩, ⟨hnt, znt⟩, ⟨hw, zw, zwa⟩, ⟨hsh, zsh⟩⟩ := id hm
  obtain ⟨hx1, hx2⟩ := hx
  obtain ⟨hy1, hy2⟩ := hy
  obtain ⟨hz1, hz2⟩ := hz
  refine aEv_of okX7_lend caX7_lend (Nat.le_of_ble_eq_true rfl) ?_
  refine aGo okX7_lend 4 (f' := (6, [some (.inr 0), some (.inl x), some (.inl y), some (.inl z), none], [.inl y, .inl x, .inr 32], _)) rfl ?_
  by_cases hc6 : 0 ≤ x ∧ x < (p : Int) ∧ 0 ≤ y ∧ y < (p : Int) ∧ x ≠ y
  · refine b_vV (as := [.inl x, .inl y]) (rest := []) (k := 32) (.inl 1) okX7_lend rfl lkX7_126 caX3_areTwo (Nat.le_of_ble_eq_true rfl) rfl (Nat.le_of_ble_eq_true rfl) rfl rfl rfl (c_areTwo_1_t hp7 ⟨by omega, by omega⟩ ⟨by omega, by omega⟩ (by omega)) ?_
    refine b0_ne (tgt := 18) okX7_lend rfl rfl ⟨by omega, by omega⟩ (fun h9 => ?_) (fun h9 => absurd h9 (by omega))
    refine aGo okX7_lend 1 (f' := (19, [some (.inr 0), some (.inl x), some (.inl y), some (.inl z), none], [.inl z], _)) rfl ?_
    refine b0_ge (tgt := 29) okX7_lend rfl rfl ⟨by omega, by omega⟩ (fun h19 => ?_) (fun h19 => ?_)
    · refine aGo okX7_lend 2 (f' := (32, [some (.inr 0), some (.inl x), some (.inl y), some (.inl z), none], [.inl 99, .inl z], _)) rfl ?_
      refine b_le (tgt := 42) okX7_lend rfl rfl ⟨by omega, by omega⟩ ⟨by omega, by omega⟩ (fun h32 => ?_) (fun h32 => ?_)
      · refine aGo okX7_lend 4 (f' := (48, [some (.inr 0), some (.inl x), some (.inl y), some (.inl z), none], [.inl y, .inl x, .inr 32], _)) rfl ?_
        exact absurd (by unfold wy_lend; (repeat' split) <;> omega) hw0
      · refine aGo okX7_lend 2 (f' := (38, [some (.inr 0), some (.inl x), some (.inl y), some (.inl z), none], [.inl (-6), .inr 0], _)) rfl ?_
        refine b_vE (as := [.inl (-6)]) (rest := []) (k := 0) okX7_lend rfl lkX7_74 caX7_refuse (Nat.le_of_ble_eq_true rfl) rfl (Nat.le_of_ble_eq_true rfl) rfl rfl rfl (c_refuse_6 hre) ?_
        rintro _ _ ⟨rfl, rfl⟩
        have hw : (wy_lend p x y z) = -6 := by unfold wy_lend; (repeat' split) <;> omega
        exact b_ret (v := (some (.inl (-6)))) ⟨rfl, Or.inl rfl⟩ ⟨by rw [hw]; first | done | rfl, by rw [hw, bump_6]; exact cSt_of hp6 hd9 ⟨htp, rtp, htl9, hto, rto, htc, by rw [List.length_set]; exact hre⟩ hm hB hms hI hi01⟩ rfl
    · refine aGo okX7_lend 2 (f' := (25, [some (.inr 0), some (.inl x), some (.inl y), some (.inl z), none], [.inl (-4), .inr 0], _)) rfl ?_
      refine b_vE (as := [.inl (-4)]) (rest := []) (k := 0) okX7_lend rfl lkX7_74 caX7_refuse (Nat.le_of_ble_eq_true rfl) rfl (Nat.le_of_ble_eq_true rfl) rfl rfl rfl (c_refuse_4 hre) ?_
      rintro _ _ ⟨rfl, rfl⟩
      have hw : (wy_lend p x y z) = -4 := by unfold wy_lend; (repeat' split) <;> omega
      exact b_ret (v := (some (.inl (-4)))) ⟨rfl, Or.inl rfl⟩ ⟨by rw [hw]; first | done | rfl, by rw [hw, bump_4]; exact cSt_of hp6 hd9 ⟨htp, rtp, htl9, hto, rto, htc, by rw [List.length_set]; exact hre⟩ hm hB hms hI hi01⟩ rfl
  · refine b_vV (as := [.inl x, .inl y]) (rest := []) (k := 32) (.inl 0) okX7_lend rfl lkX7_126 caX3_areTwo (Nat.le_of_ble_eq_true rfl) rfl (Nat.le_of_ble_eq_true rfl) rfl rfl rfl (c_areTwo_1_f hp7 ⟨by omega, by omega⟩ ⟨by omega, by omega⟩ hc6) ?_
    refine b0_ne (tgt := 18) okX7_lend rfl rfl ⟨by omega, by omega⟩ (fun h9 => absurd h9 (by omega)) (fun h9 => ?_)
    refine aGo okX7_lend 2 (f' := (14, [some (.inr 0), some (.inl x), some (.inl y), some (.inl z), none], [.inl (-1), .inr 0], _)) rfl ?_
    refine b_vE (as := [.inl (-1)]) (rest := []) (k := 0) okX7_lend rfl lkX7_74 caX7_refuse (Nat.le_of_ble_eq_true rfl) rfl (Nat.le_of_ble_eq_true rfl) rfl rfl rfl (c_refuse_1 hre) ?_
    rintro _ _ ⟨rfl, rfl⟩
    have hw : (wy_lend p x y z) = -1 := by unfold wy_lend; (repeat' split) <;> omega
    exact b_ret (v := (some (.inl (-1)))) ⟨rfl, Or.inl rfl⟩ ⟨by rw [hw]; first | done | rfl, by rw [hw, bump_1]; exact cSt_of hp6 hd9 ⟨htp, rtp, htl9, hto, rto, htc, by rw [List.length_set]; exact hre⟩ hm hB hms hI hi01⟩ rfl
set_option maxRecDepth 100000 in
set_option maxHeartbeats 4000000 in
theorem r_keep {imt : Int} {tc : Nat} {k f c n kp l : List Int} {p : Nat} {t d : Int} {to re : List Int} {tl : Nat} {tp : List Int} {I : moT} {C6 : List (Option aE)} {h : aH} {N : Nat} (hS : cSt imt tc k f c n kp l p t d to re tl tp I C6 h) {x : Int} (hx : aI x) {y : Int} (hy : aI y) (hw0 : (wy_keep p x y) ≠ 0) : aEv mX7_keep 2 0 0 N [.inr 0, .inl x, .inl y] h (fun rv h2 => rv = some (.inl ((wy_keep p x y))) ∧ cSt imt tc k f c n kp l p t d to (bump re (wy_keep p x y)) tl tp I C6 h2) := by
  obtain ⟨hp6, hd9, hax, nt, w, sh, wa, B, z0, fs, ss, sp, la, gr, B4, hm, hB, hms, hI, hi01, rfl⟩ := hS
  obtain ⟨htp, rtp, htl9, hto, rto, htc, hre⟩ := id hax
  obtain ⟨hfs, hss, hsp, hla, hgr⟩ := id hms
  obtain ⟨⟨hp7, hk, hf, hc, hn, hkp, hl, rk, rf, rc, rn, rkp, rl, ht0, ht1, hd0, hd1⟩, ⟨hnt, znt⟩, ⟨hw, zw, zwa⟩, ⟨hsh, zsh⟩⟩ := id hm
  obtain ⟨hx1, hx2⟩ := hx
  obtain ⟨hy1, hy2⟩ := hy
  refine aEv_of okX7_keep caX7_keep (Nat.le_of_ble_eq_true rfl) ?_
  refine aGo okX7_keep 3 (f' := (5, [some (.inr 0), some (.inl x), some (.inl y), none], [.inl x, .inr 32], _)) rfl ?_
  by_cases hc5 : 0 ≤ x ∧ x < (p : Int)
  · refine b_vV (as := [.inl x]) (rest := []) (k := 32) (.inl 1) okX7_keep rfl lkX7_95 caX3_isThere (Nat.le_of_ble_eq_true rfl) rfl (Nat.le_of_ble_eq_true rfl) rfl rfl rfl (c_isThere_1_t (x := x) (by omega) hc5.1 hc5.2) ?_
    refine b0_ne (tgt := 17) okX7_keep rfl rfl ⟨by omega, by omega⟩ (fun h8 => ?_) (fun h8 => absurd h8 (by omega))
    refine aGo okX7_keep 1 (f' := (18, [some (.inr 0), some (.inl x), some (.inl y), none], [.inl y], _)) rfl ?_
    refine b0_ge (tgt := 28) okX7_keep rfl rfl ⟨by omega, by omega⟩ (fun h18 => ?_) (fun h18 => ?_)
    · refine aGo okX7_keep 2 (f' := (32, [some (.inr 0), some (.inl x), some (.inl y), none], [.inl 9999, .inl y], _)) rfl ?_
      refine b_le (tgt := 42) okX7_keep rfl rfl ⟨by omega, by omega⟩ ⟨by omega, by omega⟩ (fun h32 => ?_) (fun h32 => ?_)
      · refine aGo okX7_keep 3 (f' := (47, [some (.inr 0), some (.inl x), some (.inl y), none], [.inl x, .inr 32], _)) rfl ?_
        exact absurd (by unfold wy_keep; (repeat' split) <;> omega) hw0
      · refine aGo okX7_keep 2 (f' := (38, [some (.inr 0), some (.inl x), some (.inl y), none], [.inl (-6), .inr 0], _)) rfl ?_
        refine b_vE (as := [.inl (-6)]) (rest := []) (k := 0) okX7_keep rfl lkX7_74 caX7_refuse (Nat.le_of_ble_eq_true rfl) rfl (Nat.le_of_ble_eq_true rfl) rfl rfl rfl (c_refuse_6 hre) ?_
        rintro _ _ ⟨rfl, rfl⟩
        have hw : (wy_keep p x y) = -6 := by unfold wy_keep; (repeat' split) <;> omega
        exact b_ret (v := (some (.inl (-6)))) ⟨rfl, Or.inl rfl⟩ ⟨by rw [hw]; first | done | rfl, by rw [hw, bump_6]; exact cSt_of hp6 hd9 ⟨htp, rtp, htl9, hto, rto, htc, by rw [List.length_set]; exact hre⟩ hm hB hms hI hi01⟩ rfl
    · refine aGo okX7_keep 2 (f' := (24, [some (.inr 0), some (.inl x), some (.inl y), none], [.inl (-4), .inr 0], _)) rfl ?_
      refine b_vE (as := [.inl (-4)]) (rest := []) (k := 0) okX7_keep rfl lkX7_74 caX7_refuse (Nat.le_of_ble_eq_true rfl) rfl (Nat.le_of_ble_eq_true rfl) rfl rfl rfl (c_refuse_4 hre) ?_
      rintro _ _ ⟨rfl, rfl⟩
      have hw : (wy_keep p x y) = -4 := by unfold wy_keep; (repeat' split) <;> omega
      exact b_ret (v := (some (.inl (-4)))) ⟨rfl, Or.inl rfl⟩ ⟨by rw [hw]; first | done | rfl, by rw [hw, bump_4]; exact cSt_of hp6 hd9 ⟨htp, rtp, htl9, hto, rto, htc, by rw [List.length_set]; exact hre⟩ hm hB hms hI hi01⟩ rfl
  · refine b_vV (as := [.inl x]) (rest := []) (k := 32) (.inl 0) okX7_keep rfl lkX7_95 caX3_isThere (Nat.le_of_ble_eq_true rfl) rfl (Nat.le_of_ble_eq_true rfl) rfl rfl rfl (c_isThere_1_f (x := x) (by omega) ⟨by omega, by omega⟩ hc5) ?_
    refine b0_ne (tgt := 17) okX7_keep rfl rfl ⟨by omega, by omega⟩ (fun h8 => absurd h8 (by omega)) (fun h8 => ?_)
    refine aGo okX7_keep 2 (f' := (13, [some (.inr 0), some (.inl x), some (.inl y), none], [.inl (-1), .inr 0], _)) rfl ?_
    refine b_vE (as := [.inl (-1)]) (rest := []) (k := 0) okX7_keep rfl lkX7_74 caX7_refuse (Nat.le_of_ble_eq_true rfl) rfl (Nat.le_of_ble_eq_true rfl) rfl rfl rfl (c_refuse_1 hre) ?_
    rintro _ _ ⟨rfl, rfl⟩
    have hw : (wy_keep p x y) = -1 := by unfold wy_keep; (repeat' split) <;> omega
    exact b_ret (v := (some (.inl (-1)))) ⟨rfl, Or.inl rfl⟩ ⟨by rw [hw]; first | done | rfl, by rw [hw, bump_1]; exact cSt_of hp6 hd9 ⟨htp, rtp, htl9, hto, rto, htc, by rw [List.length_set]; exact hre⟩ hm hB hms hI hi01⟩ rfl
set_option maxRecDepth 100000 in
set_option maxHeartbeats 4000000 in
theorem r_need {imt : Int} {tc : Nat} {k f c n kp l : List Int} {p : Nat} {t d : Int} {to re : List Int} {tl : Nat} {tp : List Int} {I : moT} {C6 : List (Option aE)} {h : aH} {N : Nat} (hS : cSt imt tc k f c n kp l p t d to re tl tp I C6 h) {x : Int} (hx : aI x) {y : Int} (hy : aI y) (hw0 : (wy_need p x y) ≠ 0) : aEv mX7_need 2 0 0 N [.inr 0, .inl x, .inl y] h (fun rv h2 => rv = some (.inl ((wy_need p x y))) ∧ cSt imt tc k f c n kp l p t d to (bump re (wy_need p x y)) tl tp I C6 h2) := by
  obtain ⟨hp6, hd9, hax, nt, w, sh, wa, B, z0, fs, ss, sp, la, gr, B4, hm, hB, hms, hI, hi01, rfl⟩ := hS
  obtain ⟨htp, rtp, htl9, hto, rto, htc, hre⟩ := id hax
  obtain ⟨hfs, hss, hsp, hla, hgr⟩ := id hms
  obtain ⟨⟨hp7, hk, hf, hc, hn, hkp, hl, rk, rf, rc, rn, rkp, rl, ht0, ht1, hd0, hd1⟩, ⟨hnt, znt⟩, ⟨hw, zw, zwa⟩, ⟨hsh, zsh⟩⟩ := id hm
  obtain ⟨hx1, hx2⟩ := hx
  obtain ⟨hy1, hy2⟩ := hy
  refine aEv_of okX7_need caX7_need (Nat.le_of_ble_eq_true rfl) ?_
  refine aGo okX7_need 3 (f' := (5, [some (.inr 0), some (.inl x), some (.inl y), none], [.inl x, .inr 32], _)) rfl ?_
  by_cases hc5 : 0 ≤ x ∧ x < (p : Int)
  · refine b_vV (as := [.inl x]) (rest := []) (k := 32) (.inl 1) okX7_need rfl lkX7_95 caX3_isThere (Nat.le_of_ble_eq_true rfl) rfl (Nat.le_of_ble_eq_true rfl) rfl rfl rfl (c_isThere_1_t (x := x) (by omega) hc5.1 hc5.2) ?_
    refine b0_ne (tgt := 17) okX7_need rfl rfl ⟨by omega, by omega⟩ (fun h8 => ?_) (fun h8 => absurd h8 (by omega))
    refine aGo okX7_need 1 (f' := (18, [some (.inr 0), some (.inl x), some (.inl y), none], [.inl y], _)) rfl ?_
    refine b0_ge (tgt := 28) okX7_need rfl rfl ⟨by omega, by omega⟩ (fun h18 => ?_) (fun h18 => ?_)
    · refine aGo okX7_need 2 (f' := (31, [some (.inr 0), some (.inl x), some (.inl y), none], [.inl 99, .inl y], _)) rfl ?_
      refine b_le (tgt := 41) okX7_need rfl rfl ⟨by omega, by omega⟩ ⟨by omega, by omega⟩ (fun h31 => ?_) (fun h31 => ?_)
      · refine aGo okX7_need 3 (f' := (46, [some (.inr 0), some (.inl x), some (.inl y), none], [.inl x, .inr 32], _)) rfl ?_
        exact absurd (by unfold wy_need; (repeat' split) <;> omega) hw0
      · refine aGo okX7_need 2 (f' := (37, [some (.inr 0), some (.inl x), some (.inl y), none], [.inl (-6), .inr 0], _)) rfl ?_
        refine b_vE (as := [.inl (-6)]) (rest := []) (k := 0) okX7_need rfl lkX7_74 caX7_refuse (Nat.le_of_ble_eq_true rfl) rfl (Nat.le_of_ble_eq_true rfl) rfl rfl rfl (c_refuse_6 hre) ?_
        rintro _ _ ⟨rfl, rfl⟩
        have hw : (wy_need p x y) = -6 := by unfold wy_need; (repeat' split) <;> omega
        exact b_ret (v := (some (.inl (-6)))) ⟨rfl, Or.inl rfl⟩ ⟨by rw [hw]; first | done | rfl, by rw [hw, bump_6]; exact cSt_of hp6 hd9 ⟨htp, rtp, htl9, hto, rto, htc, by rw [List.length_set]; exact hre⟩ hm hB hms hI hi01⟩ rfl
    · refine aGo okX7_need 2 (f' := (24, [some (.inr 0), some (.inl x), some (.inl y), none], [.inl (-4), .inr 0], _)) rfl ?_
      refine b_vE (as := [.inl (-4)]) (rest := []) (k := 0) okX7_need rfl lkX7_74 caX7_refuse (Nat.le_of_ble_eq_true rfl) rfl (Nat.le_of_ble_eq_true rfl) rfl rfl rfl (c_refuse_4 hre) ?_
      rintro _ _ ⟨rfl, rfl⟩
      have hw : (wy_need p x y) = -4 := by unfold wy_need; (repeat' split) <;> omega
      exact b_ret (v := (some (.inl (-4)))) ⟨rfl, Or.inl rfl⟩ ⟨by rw [hw]; first | done | rfl, by rw [hw, bump_4]; exact cSt_of hp6 hd9 ⟨htp, rtp, htl9, hto, rto, htc, by rw [List.length_set]; exact hre⟩ hm hB hms hI hi01⟩ rfl
  · refine b_vV (as := [.inl x]) (rest := []) (k := 32) (.inl 0) okX7_need rfl lkX7_95 caX3_isThere (Nat.le_of_ble_eq_true rfl) rfl (Nat.le_of_ble_eq_true rfl) rfl rfl rfl (c_isThere_1_f (x := x) (by omega) ⟨by omega, by omega⟩ hc5) ?_
    refine b0_ne (tgt := 17) okX7_need rfl rfl ⟨by omega, by omega⟩ (fun h8 => absurd h8 (by omega)) (fun h8 => ?_)
    refine aGo okX7_need 2 (f' := (13, [some (.inr 0), some (.inl x), some (.inl y), none], [.inl (-1), .inr 0], _)) rfl ?_
    refine b_vE (as := [.inl (-1)]) (rest := []) (k := 0) okX7_need rfl lkX7_74 caX7_refuse (Nat.le_of_ble_eq_true rfl) rfl (Nat.le_of_ble_eq_true rfl) rfl rfl rfl (c_refuse_1 hre) ?_
    rintro _ _ ⟨rfl, rfl⟩
    have hw : (wy_need p x y) = -1 := by unfold wy_need; (repeat' split) <;> omega
    exact b_ret (v := (some (.inl (-1)))) ⟨rfl, Or.inl rfl⟩ ⟨by rw [hw]; first | done | rfl, by rw [hw, bump_1]; exact cSt_of hp6 hd9 ⟨htp, rtp, htl9, hto, rto, htc, by rw [List.length_set]; exact hre⟩ hm hB hms hI hi01⟩ rfl
set_option maxRecDepth 100000 in
set_option maxHeartbeats 4000000 in
theorem r_sum {imt : Int} {tc : Nat} {k f c n kp l : List Int} {p : Nat} {t d : Int} {to re : List Int} {tl : Nat} {tp : List Int} {I : moT} {C6 : List (Option aE)} {h : aH} {N : Nat} (hS : cSt imt tc k f c n kp l p t d to re tl tp I C6 h) {x : Int} (hx : aI x) (hw0 : (wy_sum x) ≠ 0) : aEv mX7_sum 3 0 0 N [.inr 0, .inl x] h (fun rv h2 => rv = some (.inl ((wy_sum x))) ∧ cSt imt tc k f c n kp l p t d to (bump re (wy_sum x)) tl tp I C6 h2) := by
  obtain ⟨hp6, hd9, hax, nt, w, sh, wa, B, z0, fs, ss, sp, la, gr, B4, hm, hB, hms, hI, hi01, rfl⟩ := hS
  obtain ⟨htp, rtp, htl9, hto, rto, htc, hre⟩ := id hax
  obtain ⟨hfs, hss, hsp, hla, hgr⟩ := id hms
  obtain ⟨⟨hp7, hk, hf, hc, hn, hkp, hl, rk, rf, rc, rn, rkp, rl, ht0, ht1, hd0, hd1⟩, ⟨hnt, znt⟩, ⟨hw, zw, zwa⟩, ⟨hsh, zsh⟩⟩ := id hm
  obtain ⟨hx1, hx2⟩ := hx
  refine aEv_of okX7_sum caX7_sum (Nat.le_of_ble_eq_true rfl) ?_
  refine aGo okX7_sum 1 (f' := (1, [some (.inr 0), some (.inl x), none], [.inl x], _)) rfl ?_
  refine b0_ge (tgt := 11) okX7_sum rfl rfl ⟨by omega, by omega⟩ (fun h1 => ?_) (fun h1 => ?_)
  · refine aGo okX7_sum 2 (f' := (15, [some (.inr 0), some (.inl x), none], [.inl 999, .inl x], _)) rfl ?_
    refine b_le (tgt := 25) okX7_sum rfl rfl ⟨by omega, by omega⟩ ⟨by omega, by omega⟩ (fun h15 => ?_) (fun h15 => ?_)
    · refine aGo okX7_sum 2 (f' := (29, [some (.inr 0), some (.inl x), none], [.inr 32], _)) rfl ?_
      exact absurd (by unfold wy_sum; (repeat' split) <;> omega) hw0
    · refine aGo okX7_sum 2 (f' := (21, [some (.inr 0), some (.inl x), none], [.inl (-6), .inr 0], _)) rfl ?_
      refine b_vE (as := [.inl (-6)]) (rest := []) (k := 0) okX7_sum rfl lkX7_74 caX7_refuse (Nat.le_of_ble_eq_true rfl) rfl (Nat.le_of_ble_eq_true rfl) rfl rfl rfl (c_refuse_6 hre) ?_
      rintro _ _ ⟨rfl, rfl⟩
      have hw : (wy_sum x) = -6 := by unfold wy_sum; (repeat' split) <;> omega
      exact b_ret (v := (some (.inl (-6)))) ⟨rfl, Or.inl rfl⟩ ⟨by rw [hw]; first | done | rfl, by rw [hw, bump_6]; exact cSt_of hp6 hd9 ⟨htp, rtp, htl9, hto, rto, htc, by rw [List.length_set]; exact hre⟩ hm hB hms hI hi01⟩ rfl
  · refine aGo okX7_sum 2 (f' := (7, [some (.inr 0), some (.inl x), none], [.inl (-4), .inr 0], _)) rfl ?_
    refine b_vE (as := [.inl (-4)]) (rest := []) (k := 0) okX7_sum rfl lkX7_74 caX7_refuse (Nat.le_of_ble_eq_true rfl) rfl (Nat.le_of_ble_eq_true rfl) rfl rfl rfl (c_refuse_4 hre) ?_
    rintro _ _ ⟨rfl, rfl⟩
    have hw : (wy_sum x) = -4 := by unfold wy_sum; (repeat' split) <;> omega
    exact b_ret (v := (some (.inl (-4)))) ⟨rfl, Or.inl rfl⟩ ⟨by rw [hw]; first | done | rfl, by rw [hw, bump_4]; exact cSt_of hp6 hd9 ⟨htp, rtp, htl9, hto, rto, htc, by rw [List.length_set]; exact hre⟩ hm hB hms hI hi01⟩ rfl
set_option maxRecDepth 100000 in
set_option maxHeartbeats 4000000 in
theorem r_days {imt : Int} {tc : Nat} {k f c n kp l : List Int} {p : Nat} {t d : Int} {to re : List Int} {tl : Nat} {tp : List Int} {I : moT} {C6 : List (Option aE)} {h : aH} {N : Nat} (hS : cSt imt tc k f c n kp l p t d to re tl tp I C6 h) {x : Int} (hx : aI x) (hw0 : (wy_days d x) ≠ 0) : aEv mX7_days 3 0 0 N [.inr 0, .inl x] h (fun rv h2 => rv = some (.inl ((wy_days d x))) ∧ cSt imt tc k f c n kp l p t d to (bump re (wy_days d x)) tl tp I C6 h2) := by
  obtain ⟨hp6, hd9, hax, nt, w, sh, wa, B, z0, fs, ss, sp, la, gr, B4, hm, hB, hms, hI, hi01, rfl⟩ := hS
  obtain ⟨htp, rtp, htl9, hto, rto, htc, hre⟩ := id hax
  obtain ⟨hfs, hss, hsp, hla, hgr⟩ := id hms
  obtain ⟨⟨hp7, hk, hf, hc, hn, hkp, hl, rk, rf, rc, rn, rkp, rl, ht0, ht1, hd0, hd1⟩, ⟨hnt, znt⟩, ⟨hw, zw, zwa⟩, ⟨hsh, zsh⟩⟩ := id hm
  obtain ⟨hx1, hx2⟩ := hx
  refine aEv_of okX7_days caX7_days (Nat.le_of_ble_eq_true rfl) ?_
  refine aGo okX7_days 2 (f' := (2, [some (.inr 0), some (.inl x)], [.inl 1, .inl x], _)) rfl ?_
  refine b_ge (tgt := 12) okX7_days rfl rfl ⟨by omega, by omega⟩ ⟨by omega, by omega⟩ (fun h2 => ?_) (fun h2 => ?_)
  · refine aGo okX7_days 2 (f' := (15, [some (.inr 0), some (.inl x)], [.inl 60, .inl x], _)) rfl ?_
    refine b_gt (tgt := 33) okX7_days rfl rfl ⟨by omega, by omega⟩ ⟨by omega, by omega⟩ (fun h15 => ?_) (fun h15 => ?_)
    · refine aGo okX7_days 2 (f' := (36, [some (.inr 0), some (.inl x)], [.inl (-6), .inr 0], _)) rfl ?_
      refine b_vE (as := [.inl (-6)]) (rest := []) (k := 0) okX7_days rfl lkX7_74 caX7_refuse (Nat.le_of_ble_eq_true rfl) rfl (Nat.le_of_ble_eq_true rfl) rfl rfl rfl (c_refuse_6 hre) ?_
      rintro _ _ ⟨rfl, rfl⟩
      have hw : (wy_days d x) = -6 := by unfold wy_days; (repeat' split) <;> omega
      exact b_ret (v := (some (.inl (-6)))) ⟨rfl, Or.inl rfl⟩ ⟨by rw [hw]; first | done | rfl, by rw [hw, bump_6]; exact cSt_of hp6 hd9 ⟨htp, rtp, htl9, hto, rto, htc, by rw [List.length_set]; exact hre⟩ hm hB hms hI hi01⟩ rfl
    · refine aGo okX7_days 2 (f' := (22, [some (.inr 0), some (.inl x)], [.inr 32], _)) rfl ?_
      refine b_vV (as := []) (rest := []) (k := 32) (.inl d) okX7_days rfl lkX7_158 caX3_day (Nat.le_of_ble_eq_true rfl) rfl (Nat.le_of_ble_eq_true rfl) rfl rfl rfl (c_day_1) ?_
      refine aGo okX7_days 3 (f' := (30, [some (.inr 0), some (.inl x)], [.inl 999, .inl (d + x)], _)) rfl ?_
      refine b_le (tgt := 40) okX7_days rfl rfl ⟨by omega, by omega⟩ ⟨by omega, by omega⟩ (fun h30 => ?_) (fun h30 => ?_)
      · refine aGo okX7_days 3 (f' := (45, [some (.inr 0), some (.inl x)], [.inl x, .inr 32], _)) rfl ?_
        exact absurd (by unfold wy_days; (repeat' split) <;> omega) hw0
      · refine aGo okX7_days 2 (f' := (36, [some (.inr 0), some (.inl x)], [.inl (-6), .inr 0], _)) rfl ?_
        refine b_vE (as := [.inl (-6)]) (rest := []) (k := 0) okX7_days rfl lkX7_74 caX7_refuse (Nat.le_of_ble_eq_true rfl) rfl (Nat.le_of_ble_eq_true rfl) rfl rfl rfl (c_refuse_6 hre) ?_
        rintro _ _ ⟨rfl, rfl⟩
        have hw : (wy_days d x) = -6 := by unfold wy_days; (repeat' split) <;> omega
        exact b_ret (v := (some (.inl (-6)))) ⟨rfl, Or.inl rfl⟩ ⟨by rw [hw]; first | done | rfl, by rw [hw, bump_6]; exact cSt_of hp6 hd9 ⟨htp, rtp, htl9, hto, rto, htc, by rw [List.length_set]; exact hre⟩ hm hB hms hI hi01⟩ rfl
  · refine aGo okX7_days 2 (f' := (8, [some (.inr 0), some (.inl x)], [.inl (-4), .inr 0], _)) rfl ?_
    refine b_vE (as := [.inl (-4)]) (rest := []) (k := 0) okX7_days rfl lkX7_74 caX7_refuse (Nat.le_of_ble_eq_true rfl) rfl (Nat.le_of_ble_eq_true rfl) rfl rfl rfl (c_refuse_4 hre) ?_
    rintro _ _ ⟨rfl, rfl⟩
    have hw : (wy_days d x) = -4 := by unfold wy_days; (repeat' split) <;> omega
    exact b_ret (v := (some (.inl (-4)))) ⟨rfl, Or.inl rfl⟩ ⟨by rw [hw]; first | done | rfl, by rw [hw, bump_4]; exact cSt_of hp6 hd9 ⟨htp, rtp, htl9, hto, rto, htc, by rw [List.length_set]; exact hre⟩ hm hB hms hI hi01⟩ rfl
set_option maxRecDepth 100000 in
set_option maxHeartbeats 4000000 in
theorem r_behind {imt : Int} {tc : Nat} {k f c n kp l : List Int} {p : Nat} {t d : Int} {to re : List Int} {tl : Nat} {tp : List Int} {I : moT} {C6 : List (Option aE)} {h : aH} {N : Nat} (hS : cSt imt tc k f c n kp l p t d to re tl tp I C6 h) {x : Int} (hx : aI x) {y : Int} (hy : aI y) {z : Int} (hz : aI z) (hw0 : (wy_behind p x y z) ≠ 0) : aEv mX7_behind 4 0 0 N [.inr 0, .inl x, .inl y, .inl z] h (fun rv h2 => rv = some (.inl ((wy_behind p x y z))) ∧ cSt imt tc k f c n kp l p t d to (bump re (wy_behind p x y z)) tl tp I C6 h2) := by
  obtain ⟨hp6, hd9, hax, nt, w, sh, wa, B, z0, fs, ss, sp, la, gr, B4, hm, hB, hms, hI, hi01, rfl⟩ := hS
  obtain ⟨htp, rtp, htl9, hto, rto, htc, hre⟩ := id hax
  obtain ⟨hfs, hss, hsp, hla, hgr⟩ := id hms
  obtain ⟨⟨hp7, hk, hf, hc, hn, hkp, hl, rk, rf, rc, rn, rkp, rl, ht0, ht1, hd0, hd1⟩, ⟨hnt, znt⟩, ⟨hw, zw, zwa⟩, ⟨hsh, zsh⟩⟩ := id hm
  obtain ⟨hx1, hx2⟩ := hx
  obtain ⟨hy1, hy2⟩ := hy
  obtain ⟨hz1, hz2⟩ := hz
  refine aEv_of okX7_behind caX7_behind (Nat.le_of_ble_eq_true rfl) ?_
  refine aGo okX7_behind 3 (f' := (5, [some (.inr 0), some (.inl x), some (.inl y), some (.inl z)], [.inl x, .inr 32], _)) rfl ?_
  by_cases hc5 : 0 ≤ x ∧ x < (p : Int)
  · refine b_vV (as := [.inl x]) (rest := []) (k := 32) (.inl 1) okX7_behind rfl lkX7_95 caX3_isThere (Nat.le_of_ble_eq_true rfl) rfl (Nat.le_of_ble_eq_true rfl) rfl rfl rfl (c_isThere_1_t (x := x) (by omega) hc5.1 hc5.2) ?_
    refine b0_ne (tgt := 17) okX7_behind rfl rfl ⟨by omega, by omega⟩ (fun h8 => ?_) (fun h8 => absurd h8 (by omega))
    refine aGo okX7_behind 1 (f' := (18, [some (.inr 0), some (.inl x), some (.inl y), some (.inl z)], [.inl y], _)) rfl ?_
    refine b0_ge (tgt := 28) okX7_behind rfl rfl ⟨by omega, by omega⟩ (fun h18 => ?_) (fun h18 => ?_)
    · refine aGo okX7_behind 2 (f' := (31, [some (.inr 0), some (.inl x), some (.inl y), some (.inl z)], [.inl 99, .inl y], _)) rfl ?_
      refine b_le (tgt := 41) okX7_behind rfl rfl ⟨by omega, by omega⟩ ⟨by omega, by omega⟩ (fun h31 => ?_) (fun h31 => ?_)
      · refine aGo okX7_behind 1 (f' := (42, [some (.inr 0), some (.inl x), some (.inl y), some (.inl z)], [.inl z], _)) rfl ?_
        refine b0_lt (tgt := 50) okX7_behind rfl rfl ⟨by omega, by omega⟩ (fun h42 => ?_) (fun h42 => ?_)
        · refine aGo okX7_behind 2 (f' := (53, [some (.inr 0), some (.inl x), some (.inl y), some (.inl z)], [.inl (-2), .inr 0], _)) rfl ?_
          refine b_vE (as := [.inl (-2)]) (rest := []) (k := 0) okX7_behind rfl lkX7_74 caX7_refuse (Nat.le_of_ble_eq_true rfl) rfl (Nat.le_of_ble_eq_true rfl) rfl rfl rfl (c_refuse_2 hre) ?_
          rintro _ _ ⟨rfl, rfl⟩
          have hw : (wy_behind p x y z) = -2 := by unfold wy_behind; (repeat' split) <;> omega
          exact b_ret (v := (some (.inl (-2)))) ⟨rfl, Or.inl rfl⟩ ⟨by rw [hw]; first | done | rfl, by rw [hw, bump_2]; exact cSt_of hp6 hd9 ⟨htp, rtp, htl9, hto, rto, htc, by rw [List.length_set]; exact hre⟩ hm hB hms hI hi01⟩ rfl
        · refine aGo okX7_behind 2 (f' := (47, [some (.inr 0), some (.inl x), some (.inl y), some (.inl z)], [.inl 1, .inl z], _)) rfl ?_
          refine b_le (tgt := 57) okX7_behind rfl rfl ⟨by omega, by omega⟩ ⟨by omega, by omega⟩ (fun h47 => ?_) (fun h47 => ?_)
          · refine aGo okX7_behind 1 (f' := (58, [some (.inr 0), some (.inl x), some (.inl y), some (.inl z)], [.inl z], _)) rfl ?_
            refine b0_ne (tgt := 73) okX7_behind rfl rfl ⟨by omega, by omega⟩ (fun h58 => ?_) (fun h58 => ?_)
            · refine aGo okX7_behind 4 (f' := (79, [some (.inr 0), some (.inl x), some (.inl y), some (.inl z)], [.inl y, .inl x, .inr 96], _)) rfl ?_
              exact absurd (by unfold wy_behind; (repeat' split) <;> omega) hw0
            · refine aGo okX7_behind 4 (f' := (67, [some (.inr 0), some (.inl x), some (.inl y), some (.inl z)], [.inl y, .inl x, .inr 96], _)) rfl ?_
              exact absurd (by unfold wy_behind; (repeat' split) <;> omega) hw0
          · refine aGo okX7_behind 2 (f' := (53, [some (.inr 0), some (.inl x), some (.inl y), some (.inl z)], [.inl (-2), .inr 0], _)) rfl ?_
            refine b_vE (as := [.inl (-2)]) (rest := []) (k := 0) okX7_behind rfl lkX7_74 caX7_refuse (Nat.le_of_ble_eq_true rfl) rfl (Nat.le_of_ble_eq_true rfl) rfl rfl rfl (c_refuse_2 hre) ?_
            rintro _ _ ⟨rfl, rfl⟩
            have hw : (wy_behind p x y z) = -2 := by unfold wy_behind; (repeat' split) <;> omega
            exact b_ret (v := (some (.inl (-2)))) ⟨rfl, Or.inl rfl⟩ ⟨by rw [hw]; first | done | rfl, by rw [hw, bump_2]; exact cSt_of hp6 hd9 ⟨htp, rtp, htl9, hto, rto, htc, by rw [List.length_set]; exact hre⟩ hm hB hms hI hi01⟩ rfl
      · refine aGo okX7_behind 2 (f' := (37, [some (.inr 0), some (.inl x), some (.inl y), some (.inl z)], [.inl (-6), .inr 0], _)) rfl ?_
        refine b_vE (as := [.inl (-6)]) (rest := []) (k := 0) okX7_behind rfl lkX7_74 caX7_refuse (Nat.le_of_ble_eq_true rfl) rfl (Nat.le_of_ble_eq_true rfl) rfl rfl rfl (c_refuse_6 hre) ?_
        rintro _ _ ⟨rfl, rfl⟩
        have hw : (wy_behind p x y z) = -6 := by unfold wy_behind; (repeat' split) <;> omega
        exact b_ret (v := (some (.inl (-6)))) ⟨rfl, Or.inl rfl⟩ ⟨by rw [hw]; first | done | rfl, by rw [hw, bump_6]; exact cSt_of hp6 hd9 ⟨htp, rtp, htl9, hto, rto, htc, by rw [List.length_set]; exact hre⟩ hm hB hms hI hi01⟩ rfl
    · refine aGo okX7_behind 2 (f' := (24, [some (.inr 0), some (.inl x), some (.inl y), some (.inl z)], [.inl (-4), .inr 0], _)) rfl ?_
      refine b_vE (as := [.inl (-4)]) (rest := []) (k := 0) okX7_behind rfl lkX7_74 caX7_refuse (Nat.le_of_ble_eq_true rfl) rfl (Nat.le_of_ble_eq_true rfl) rfl rfl rfl (c_refuse_4 hre) ?_
      rintro _ _ ⟨rfl, rfl⟩
      have hw : (wy_behind p x y z) = -4 := by unfold wy_behind; (repeat' split) <;> omega
      exact b_ret (v := (some (.inl (-4)))) ⟨rfl, Or.inl rfl⟩ ⟨by rw [hw]; first | done | rfl, by rw [hw, bump_4]; exact cSt_of hp6 hd9 ⟨htp, rtp, htl9, hto, rto, htc, by rw [List.length_set]; exact hre⟩ hm hB hms hI hi01⟩ rfl
  · refine b_vV (as := [.inl x]) (rest := []) (k := 32) (.inl 0) okX7_behind rfl lkX7_95 caX3_isThere (Nat.le_of_ble_eq_true rfl) rfl (Nat.le_of_ble_eq_true rfl) rfl rfl rfl (c_isThere_1_f (x := x) (by omega) ⟨by omega, by omega⟩ hc5) ?_
    refine b0_ne (tgt := 17) okX7_behind rfl rfl ⟨by omega, by omega⟩ (fun h8 => absurd h8 (by omega)) (fun h8 => ?_)
    refine aGo okX7_behind 2 (f' := (13, [some (.inr 0), some (.inl x), some (.inl y), some (.inl z)], [.inl (-1), .inr 0], _)) rfl ?_
    refine b_vE (as := [.inl (-1)]) (rest := []) (k := 0) okX7_behind rfl lkX7_74 caX7_refuse (Nat.le_of_ble_eq_true rfl) rfl (Nat.le_of_ble_eq_true rfl) rfl rfl rfl (c_refuse_1 hre) ?_
    rintro _ _ ⟨rfl, rfl⟩
    have hw : (wy_behind p x y z) = -1 := by unfold wy_behind; (repeat' split) <;> omega
    exact b_ret (v := (some (.inl (-1)))) ⟨rfl, Or.inl rfl⟩ ⟨by rw [hw]; first | done | rfl, by rw [hw, bump_1]; exact cSt_of hp6 hd9 ⟨htp, rtp, htl9, hto, rto, htc, by rw [List.length_set]; exact hre⟩ hm hB hms hI hi01⟩ rfl
set_option maxRecDepth 100000 in
set_option maxHeartbeats 4000000 in
theorem r_firstShort {imt : Int} {tc : Nat} {k f c n kp l : List Int} {p : Nat} {t d : Int} {to re : List Int} {tl : Nat} {tp : List Int} {I : moT} {C6 : List (Option aE)} {h : aH} {N : Nat} (hS : cSt imt tc k f c n kp l p t d to re tl tp I C6 h) {x : Int} (hx : aI x) (hw0 : (wy_firstShort x) ≠ 0) : aEv mX7_firstShort 4 0 0 N [.inr 0, .inl x] h (fun rv h2 => rv = some (.inl ((wy_firstShort x))) ∧ cSt imt tc k f c n kp l p t d to (bump re (wy_firstShort x)) tl tp I C6 h2) := by
  obtain ⟨hp6, hd9, hax, nt, w, sh, wa, B, z0, fs, ss, sp, la, gr, B4, hm, hB, hms, hI, hi01, rfl⟩ := hS
  obtain ⟨htp, rtp, htl9, hto, rto, htc, hre⟩ := id hax
  obtain ⟨hfs, hss, hsp, hla, hgr⟩ := id hms
  obtain ⟨⟨hp7, hk, hf, hc, hn, hkp, hl, rk, rf, rc, rn, rkp, rl, ht0, ht1, hd0, hd1⟩, ⟨hnt, znt⟩, ⟨hw, zw, zwa⟩, ⟨hsh, zsh⟩⟩ := id hm
  obtain ⟨hx1, hx2⟩ := hx
  refine aEv_of okX7_firstShort caX7_firstShort (Nat.le_of_ble_eq_true rfl) ?_
  refine aGo okX7_firstShort 1 (f' := (1, [some (.inr 0), some (.inl x)], [.inl x], _)) rfl ?_
  refine b0_lt (tgt := 9) okX7_firstShort rfl rfl ⟨by omega, by omega⟩ (fun h1 => ?_) (fun h1 => ?_)
  · refine aGo okX7_firstShort 2 (f' := (12, [some (.inr 0), some (.inl x)], [.inl (-2), .inr 0], _)) rfl ?_
    refine b_vE (as := [.inl (-2)]) (rest := []) (k := 0) okX7_firstShort rfl lkX7_74 caX7_refuse (Nat.le_of_ble_eq_true rfl) rfl (Nat.le_of_ble_eq_true rfl) rfl rfl rfl (c_refuse_2 hre) ?_
    rintro _ _ ⟨rfl, rfl⟩
    have hw : (wy_firstShort x) = -2 := by unfold wy_firstShort; (repeat' split) <;> omega
    exact b_ret (v := (some (.inl (-2)))) ⟨rfl, Or.inl rfl⟩ ⟨by rw [hw]; first | done | rfl, by rw [hw, bump_2]; exact cSt_of hp6 hd9 ⟨htp, rtp, htl9, hto, rto, htc, by rw [List.length_set]; exact hre⟩ hm hB hms hI hi01⟩ rfl
  · refine aGo okX7_firstShort 2 (f' := (6, [some (.inr 0), some (.inl x)], [.inl 1, .inl x], _)) rfl ?_
    refine b_le (tgt := 16) okX7_firstShort rfl rfl ⟨by omega, by omega⟩ ⟨by omega, by omega⟩ (fun h6 => ?_) (fun h6 => ?_)
    · refine aGo okX7_firstShort 1 (f' := (17, [some (.inr 0), some (.inl x)], [.inl x], _)) rfl ?_
      refine b0_ne (tgt := 30) okX7_firstShort rfl rfl ⟨by omega, by omega⟩ (fun h17 => ?_) (fun h17 => ?_)
      · refine aGo okX7_firstShort 2 (f' := (34, [some (.inr 0), some (.inl x)], [.inr 96], _)) rfl ?_
        exact absurd (by unfold wy_firstShort; (repeat' split) <;> omega) hw0
      · refine aGo okX7_firstShort 2 (f' := (24, [some (.inr 0), some (.inl x)], [.inr 96], _)) rfl ?_
        exact absurd (by unfold wy_firstShort; (repeat' split) <;> omega) hw0
    · refine aGo okX7_firstShort 2 (f' := (12, [some (.inr 0), some (.inl x)], [.inl (-2), .inr 0], _)) rfl ?_
      refine b_vE (as := [.inl (-2)]) (rest := []) (k := 0) okX7_firstShort rfl lkX7_74 caX7_refuse (Nat.le_of_ble_eq_true rfl) rfl (Nat.le_of_ble_eq_true rfl) rfl rfl rfl (c_refuse_2 hre) ?_
      rintro _ _ ⟨rfl, rfl⟩
      have hw : (wy_firstShort x) = -2 := by unfold wy_firstShort; (repeat' split) <;> omega
      exact b_ret (v := (some (.inl (-2)))) ⟨rfl, Or.inl rfl⟩ ⟨by rw [hw]; first | done | rfl, by rw [hw, bump_2]; exact cSt_of hp6 hd9 ⟨htp, rtp, htl9, hto, rto, htc, by rw [List.length_set]; exact hre⟩ hm hB hms hI hi01⟩ rfl
set_option maxRecDepth 100000 in
set_option maxHeartbeats 4000000 in
theorem r_lasts {imt : Int} {tc : Nat} {k f c n kp l : List Int} {p : Nat} {t d : Int} {to re : List Int} {tl : Nat} {tp : List Int} {I : moT} {C6 : List (Option aE)} {h : aH} {N : Nat} (hS : cSt imt tc k f c n kp l p t d to re tl tp I C6 h) {x : Int} (hx : aI x) (hw0 : (wy_lasts p x) ≠ 0) : aEv mX7_lasts 4 0 0 N [.inr 0, .inl x] h (fun rv h2 => rv = some (.inl ((wy_lasts p x))) ∧ cSt imt tc k f c n kp l p t d to (bump re (wy_lasts p x)) tl tp I C6 h2) := by
  obtain ⟨hp6, hd9, hax, nt, w, sh, wa, B, z0, fs, ss, sp, la, gr, B4, hm, hB, hms, hI, hi01, rfl⟩ := hS
  obtain ⟨htp, rtp, htl9, hto, rto, htc, hre⟩ := id hax
  obtain ⟨hfs, hss, hsp, hla, hgr⟩ := id hms
  obtain ⟨⟨hp7, hk, hf, hc, hn, hkp, hl, rk, rf, rc, rn, rkp, rl, ht0, ht1, hd0, hd1⟩, ⟨hnt, znt⟩, ⟨hw, zw, zwa⟩, ⟨hsh, zsh⟩⟩ := id hm
  obtain ⟨hx1, hx2⟩ := hx
  refine aEv_of okX7_lasts caX7_lasts (Nat.le_of_ble_eq_true rfl) ?_
  refine aGo okX7_lasts 3 (f' := (5, [some (.inr 0), some (.inl x)], [.inl x, .inr 32], _)) rfl ?_
  by_cases hc5 : 0 ≤ x ∧ x < (p : Int)
  · refine b_vV (as := [.inl x]) (rest := []) (k := 32) (.inl 1) okX7_lasts rfl lkX7_95 caX3_isThere (Nat.le_of_ble_eq_true rfl) rfl (Nat.le_of_ble_eq_true rfl) rfl rfl rfl (c_isThere_1_t (x := x) (by omega) hc5.1 hc5.2) ?_
    refine b0_ne (tgt := 17) okX7_lasts rfl rfl ⟨by omega, by omega⟩ (fun h8 => ?_) (fun h8 => absurd h8 (by omega))
    refine aGo okX7_lasts 3 (f' := (22, [some (.inr 0), some (.inl x)], [.inl x, .inr 96], _)) rfl ?_
    exact absurd (by unfold wy_lasts; (repeat' split) <;> omega) hw0
  · refine b_vV (as := [.inl x]) (rest := []) (k := 32) (.inl 0) okX7_lasts rfl lkX7_95 caX3_isThere (Nat.le_of_ble_eq_true rfl) rfl (Nat.le_of_ble_eq_true rfl) rfl rfl rfl (c_isThere_1_f (x := x) (by omega) ⟨by omega, by omega⟩ hc5) ?_
    refine b0_ne (tgt := 17) okX7_lasts rfl rfl ⟨by omega, by omega⟩ (fun h8 => absurd h8 (by omega)) (fun h8 => ?_)
    refine aGo okX7_lasts 2 (f' := (13, [some (.inr 0), some (.inl x)], [.inl (-1), .inr 0], _)) rfl ?_
    refine b_vE (as := [.inl (-1)]) (rest := []) (k := 0) okX7_lasts rfl lkX7_74 caX7_refuse (Nat.le_of_ble_eq_true rfl) rfl (Nat.le_of_ble_eq_true rfl) rfl rfl rfl (c_refuse_1 hre) ?_
    rintro _ _ ⟨rfl, rfl⟩
    have hw : (wy_lasts p x) = -1 := by unfold wy_lasts; (repeat' split) <;> omega
    exact b_ret (v := (some (.inl (-1)))) ⟨rfl, Or.inl rfl⟩ ⟨by rw [hw]; first | done | rfl, by rw [hw, bump_1]; exact cSt_of hp6 hd9 ⟨htp, rtp, htl9, hto, rto, htc, by rw [List.length_set]; exact hre⟩ hm hB hms hI hi01⟩ rfl
set_option maxRecDepth 100000 in
set_option maxHeartbeats 4000000 in
theorem r_bestCell {imt : Int} {tc : Nat} {k f c n kp l : List Int} {p : Nat} {t d : Int} {to re : List Int} {tl : Nat} {tp : List Int} {I : moT} {C6 : List (Option aE)} {h : aH} {N : Nat} (hS : cSt imt tc k f c n kp l p t d to re tl tp I C6 h) {x : Int} (hx : aI x) {y : Int} (hy : aI y) (hw0 : (wy_bestCell p x y) ≠ 0) : aEv mX7_bestCell 6 0 0 N [.inr 0, .inl x, .inl y] h (fun rv h2 => rv = some (.inl ((wy_bestCell p x y))) ∧ cSt imt tc k f c n kp l p t d to (bump re (wy_bestCell p x y)) tl tp I C6 h2) := by
  obtain ⟨hp6, hd9, hax, nt, w, sh, wa, B, z0, fs, ss, sp, la, gr, B4, hm, hB, hms, hI, hi01, rfl⟩ := hS
  obtain ⟨htp, rtp, htl9, hto, rto, htc, hre⟩ := id hax
  obtain ⟨hfs, hss, hsp, hla, hgr⟩ := id hms
  obtain ⟨⟨hp7, hk, hf, hc, hn, hkp, hl, rk, rf, rc, rn, rkp, rl, ht0, ht1, hd0, hd1⟩, ⟨hnt, znt⟩, ⟨hw, zw, zwa⟩, ⟨hsh, zsh⟩⟩ := id hm
  obtain ⟨hx1, hx2⟩ := hx
  obtain ⟨hy1, hy2⟩ := hy
  refine aEv_of okX7_bestCell caX7_bestCell (Nat.le_of_ble_eq_true rfl) ?_
  refine aGo okX7_bestCell 3 (f' := (5, [some (.inr 0), some (.inl x), some (.inl y)], [.inl x, .inr 32], _)) rfl ?_
  by_cases hc5 : 0 ≤ x ∧ x < (p : Int)
  · refine b_vV (as := [.inl x]) (rest := []) (k := 32) (.inl 1) okX7_bestCell rfl lkX7_95 caX3_isThere (Nat.le_of_ble_eq_true rfl) rfl (Nat.le_of_ble_eq_true rfl) rfl rfl rfl (c_isThere_1_t (x := x) (by omega) hc5.1 hc5.2) ?_
    refine b0_ne (tgt := 17) okX7_bestCell rfl rfl ⟨by omega, by omega⟩ (fun h8 => ?_) (fun h8 => absurd h8 (by omega))
    refine aGo okX7_bestCell 1 (f' := (18, [some (.inr 0), some (.inl x), some (.inl y)], [.inl y], _)) rfl ?_
    by_cases hs18 : 0 ≤ y ∧ y ≤ 2
    · have hsx := (show y = 0 ∨ y = 1 ∨ y = 2 from by omega)
      rcases hsx with hsw | hsw | hsw
      · refine b_cast (f' := (18, [some (.inr 0), some (.inl x), some (.inl y)], [.inl 0], [(mainSeg imt (tc : Int)), (moSeg 32 k f c n kp l nt w sh (p : Int) t d wa), B, (miscSeg z0 fs ss sp la gr (tl : Int) tp), B4, (auxSeg to re), C6])) (congrArg (fun zz : Int => ((18, [some (.inr 0), some (.inl x), some (.inl y)], .inl zz :: [], [(mainSeg imt (tc : Int)), (moSeg 32 k f c n kp l nt w sh (p : Int) t d wa), B, (miscSeg z0 fs ss sp la gr (tl : Int) tp), B4, (auxSeg to re), C6]) : aF)) hsw) ?_
        refine b_swIn (tgt := 44) okX7_bestCell rfl ⟨by decide, by decide⟩ (by decide) (by decide) rfl rfl ?_
        refine aGo okX7_bestCell 3 (f' := (49, [some (.inr 0), some (.inl x), some (.inl y)], [.inl x, .inr 97], _)) rfl ?_
        exact absurd (by unfold wy_bestCell; (repeat' split) <;> omega) hw0
      · refine b_cast (f' := (18, [some (.inr 0), some (.inl x), some (.inl y)], [.inl 1], [(mainSeg imt (tc : Int)), (moSeg 32 k f c n kp l nt w sh (p : Int) t d wa), B, (miscSeg z0 fs ss sp la gr (tl : Int) tp), B4, (auxSeg to re), C6])) (congrArg (fun zz : Int => ((18, [some (.inr 0), some (.inl x), some (.inl y)], .inl zz :: [], [(mainSeg imt (tc : Int)), (moSeg 32 k f c n kp l nt w sh (p : Int) t d wa), B, (miscSeg z0 fs ss sp la gr (tl : Int) tp), B4, (auxSeg to re), C6]) : aF)) hsw) ?_
        refine b_swIn (tgt := 53) okX7_bestCell rfl ⟨by decide, by decide⟩ (by decide) (by decide) rfl rfl ?_
        refine aGo okX7_bestCell 6 (f' := (63, [some (.inr 0), some (.inl x), some (.inl y)], [.inl x, .inr 97, .inl x, .inr 97], _)) rfl ?_
        exact absurd (by unfold wy_bestCell; (repeat' split) <;> omega) hw0
      · refine b_cast (f' := (18, [some (.inr 0), some (.inl x), some (.inl y)], [.inl 2], [(mainSeg imt (tc : Int)), (moSeg 32 k f c n kp l nt w sh (p : Int) t d wa), B, (miscSeg z0 fs ss sp la gr (tl : Int) tp), B4, (auxSeg to re), C6])) (congrArg (fun zz : Int => ((18, [some (.inr 0), some (.inl x), some (.inl y)], .inl zz :: [], [(mainSeg imt (tc : Int)), (moSeg 32 k f c n kp l nt w sh (p : Int) t d wa), B, (miscSeg z0 fs ss sp la gr (tl : Int) tp), B4, (auxSeg to re), C6]) : aF)) hsw) ?_
        refine b_swIn (tgt := 70) okX7_bestCell rfl ⟨by decide, by decide⟩ (by decide) (by decide) rfl rfl ?_
        refine aGo okX7_bestCell 3 (f' := (75, [some (.inr 0), some (.inl x), some (.inl y)], [.inl x, .inr 97], _)) rfl ?_
        exact absurd (by unfold wy_bestCell; (repeat' split) <;> omega) hw0
    · refine b_swOut (tgt := 79) okX7_bestCell rfl ⟨by omega, by omega⟩ (by omega) rfl ?_
      refine aGo okX7_bestCell 2 (f' := (82, [some (.inr 0), some (.inl x), some (.inl y)], [.inl (-2), .inr 0], _)) rfl ?_
      refine b_vE (as := [.inl (-2)]) (rest := []) (k := 0) okX7_bestCell rfl lkX7_74 caX7_refuse (Nat.le_of_ble_eq_true rfl) rfl (Nat.le_of_ble_eq_true rfl) rfl rfl rfl (c_refuse_2 hre) ?_
      rintro _ _ ⟨rfl, rfl⟩
      have hw : (wy_bestCell p x y) = -2 := by unfold wy_bestCell; (repeat' split) <;> omega
      exact b_ret (v := (some (.inl (-2)))) ⟨rfl, Or.inl rfl⟩ ⟨by rw [hw]; first | done | rfl, by rw [hw, bump_2]; exact cSt_of hp6 hd9 ⟨htp, rtp, htl9, hto, rto, htc, by rw [List.length_set]; exact hre⟩ hm hB hms hI hi01⟩ rfl
  · refine b_vV (as := [.inl x]) (rest := []) (k := 32) (.inl 0) okX7_bestCell rfl lkX7_95 caX3_isThere (Nat.le_of_ble_eq_true rfl) rfl (Nat.le_of_ble_eq_true rfl) rfl rfl rfl (c_isThere_1_f (x := x) (by omega) ⟨by omega, by omega⟩ hc5) ?_
    refine b0_ne (tgt := 17) okX7_bestCell rfl rfl ⟨by omega, by omega⟩ (fun h8 => absurd h8 (by omega)) (fun h8 => ?_)
    refine aGo okX7_bestCell 2 (f' := (13, [some (.inr 0), some (.inl x), some (.inl y)], [.inl (-1), .inr 0], _)) rfl ?_
    refine b_vE (as := [.inl (-1)]) (rest := []) (k := 0) okX7_bestCell rfl lkX7_74 caX7_refuse (Nat.le_of_ble_eq_true rfl) rfl (Nat.le_of_ble_eq_true rfl) rfl rfl rfl (c_refuse_1 hre) ?_
    rintro _ _ ⟨rfl, rfl⟩
    have hw : (wy_bestCell p x y) = -1 := by unfold wy_bestCell; (repeat' split) <;> omega
    exact b_ret (v := (some (.inl (-1)))) ⟨rfl, Or.inl rfl⟩ ⟨by rw [hw]; first | done | rfl, by rw [hw, bump_1]; exact cSt_of hp6 hd9 ⟨htp, rtp, htl9, hto, rto, htc, by rw [List.length_set]; exact hre⟩ hm hB hms hI hi01⟩ rfl
set_option maxRecDepth 100000 in
set_option maxHeartbeats 4000000 in
theorem r_takes {imt : Int} {tc : Nat} {k f c n kp l : List Int} {p : Nat} {t d : Int} {to re : List Int} {tl : Nat} {tp : List Int} {I : moT} {C6 : List (Option aE)} {h : aH} {N : Nat} (hS : cSt imt tc k f c n kp l p t d to re tl tp I C6 h) {x : Int} (hx : aI x) {y : Int} (hy : aI y) (hw0 : (wy_takes p x y) ≠ 0) : aEv mX7_takes 6 0 0 N [.inr 0, .inl x, .inl y] h (fun rv h2 => rv = some (.inl (1000000000 - (wy_takes p x y))) ∧ cSt imt tc k f c n kp l p t d to (bump re (wy_takes p x y)) tl tp I C6 h2) := by
  obtain ⟨hp6, hd9, hax, nt, w, sh, wa, B, z0, fs, ss, sp, la, gr, B4, hm, hB, hms, hI, hi01, rfl⟩ := hS
  obtain ⟨htp, rtp, htl9, hto, rto, htc, hre⟩ := id hax
  obtain ⟨hfs, hss, hsp, hla, hgr⟩ := id hms
  obtain ⟨⟨hp7, hk, hf, hc, hn, hkp, hl, rk, rf, rc, rn, rkp, rl, ht0, ht1, hd0, hd1⟩, ⟨hnt, znt⟩, ⟨hw, zw, zwa⟩, ⟨hsh, zsh⟩⟩ := id hm
  obtain ⟨hx1, hx2⟩ := hx
  obtain ⟨hy1, hy2⟩ := hy
  refine aEv_of okX7_takes caX7_takes (Nat.le_of_ble_eq_true rfl) ?_
  refine aGo okX7_takes 4 (f' := (6, [some (.inr 0), some (.inl x), some (.inl y)], [.inl y, .inl x, .inr 32], _)) rfl ?_
  by_cases hc6 : 0 ≤ x ∧ x < (p : Int) ∧ 0 ≤ y ∧ y < (p : Int) ∧ x ≠ y
  · refine b_vV (as := [.inl x, .inl y]) (rest := []) (k := 32) (.inl 1) okX7_takes rfl lkX7_126 caX3_areTwo (Nat.le_of_ble_eq_true rfl) rfl (Nat.le_of_ble_eq_true rfl) rfl rfl rfl (c_areTwo_1_t hp7 ⟨by omega, by omega⟩ ⟨by omega, by omega⟩ (by omega)) ?_
    refine b0_ne (tgt := 18) okX7_takes rfl rfl ⟨by omega, by omega⟩ (fun h9 => ?_) (fun h9 => absurd h9 (by omega))
    refine aGo okX7_takes 4 (f' := (24, [some (.inr 0), some (.inl x), some (.inl y)], [.inl y, .inl x, .inr 97], _)) rfl ?_
    exact absurd (by unfold wy_takes; (repeat' split) <;> omega) hw0
  · refine b_vV (as := [.inl x, .inl y]) (rest := []) (k := 32) (.inl 0) okX7_takes rfl lkX7_126 caX3_areTwo (Nat.le_of_ble_eq_true rfl) rfl (Nat.le_of_ble_eq_true rfl) rfl rfl rfl (c_areTwo_1_f hp7 ⟨by omega, by omega⟩ ⟨by omega, by omega⟩ hc6) ?_
    refine b0_ne (tgt := 18) okX7_takes rfl rfl ⟨by omega, by omega⟩ (fun h9 => absurd h9 (by omega)) (fun h9 => ?_)
    refine aGo okX7_takes 2 (f' := (14, [some (.inr 0), some (.inl x), some (.inl y)], [.inl (-1), .inr 0], _)) rfl ?_
    refine b_vE (as := [.inl (-1)]) (rest := []) (k := 0) okX7_takes rfl lkX7_120 caX7_refuseFar (Nat.le_of_ble_eq_true rfl) rfl (Nat.le_of_ble_eq_true rfl) rfl rfl rfl (c_refuseFar_1 hre) ?_
    rintro _ _ ⟨rfl, rfl⟩
    have hw : (wy_takes p x y) = -1 := by unfold wy_takes; (repeat' split) <;> omega
    exact b_ret (v := (some (.inl 1000000001))) ⟨rfl, Or.inl rfl⟩ ⟨by rw [hw]; first | done | rfl, by rw [hw, bump_1]; exact cSt_of hp6 hd9 ⟨htp, rtp, htl9, hto, rto, htc, by rw [List.length_set]; exact hre⟩ hm hB hms hI hi01⟩ rfl
set_option maxRecDepth 100000 in
set_option maxHeartbeats 4000000 in
theorem r_worst {imt : Int} {tc : Nat} {k f c n kp l : List Int} {p : Nat} {t d : Int} {to re : List Int} {tl : Nat} {tp : List Int} {I : moT} {C6 : List (Option aE)} {h : aH} {N : Nat} (hS : cSt imt tc k f c n kp l p t d to re tl tp I C6 h) {x : Int} (hx : aI x) (hw0 : (wy_worst p x) ≠ 0) : aEv mX7_worst 7 0 0 N [.inr 0, .inl x] h (fun rv h2 => rv = some (.inl ((wy_worst p x))) ∧ cSt imt tc k f c n kp l p t d to (bump re (wy_worst p x)) tl tp I C6 h2) := by
  obtain ⟨hp6, hd9, hax, nt, w, sh, wa, B, z0, fs, ss, sp, la, gr, B4, hm, hB, hms, hI, hi01, rfl⟩ := hS
  obtain ⟨htp, rtp, htl9, hto, rto, htc, hre⟩ := id hax
  obtain ⟨hfs, hss, hsp, hla, hgr⟩ := id hms
  obtain ⟨⟨hp7, hk, hf, hc, hn, hkp, hl, rk, rf, rc, rn, rkp, rl, ht0, ht1, hd0, hd1⟩, ⟨hnt, znt⟩, ⟨hw, zw, zwa⟩, ⟨hsh, zsh⟩⟩ := id hm
  obtain ⟨hx1, hx2⟩ := hx
  refine aEv_of okX7_worst caX7_worst (Nat.le_of_ble_eq_true rfl) ?_
  refine aGo okX7_worst 3 (f' := (5, [some (.inr 0), some (.inl x)], [.inl x, .inr 32], _)) rfl ?_
  by_cases hc5 : 0 ≤ x ∧ x < (p : Int)
  · refine b_vV (as := [.inl x]) (rest := []) (k := 32) (.inl 1) okX7_worst rfl lkX7_95 caX3_isThere (Nat.le_of_ble_eq_true rfl) rfl (Nat.le_of_ble_eq_true rfl) rfl rfl rfl (c_isThere_1_t (x := x) (by omega) hc5.1 hc5.2) ?_
    refine b0_ne (tgt := 17) okX7_worst rfl rfl ⟨by omega, by omega⟩ (fun h8 => ?_) (fun h8 => absurd h8 (by omega))
    refine aGo okX7_worst 3 (f' := (22, [some (.inr 0), some (.inl x)], [.inl x, .inr 97], _)) rfl ?_
    exact absurd (by unfold wy_worst; (repeat' split) <;> omega) hw0
  · refine b_vV (as := [.inl x]) (rest := []) (k := 32) (.inl 0) okX7_worst rfl lkX7_95 caX3_isThere (Nat.le_of_ble_eq_true rfl) rfl (Nat.le_of_ble_eq_true rfl) rfl rfl rfl (c_isThere_1_f (x := x) (by omega) ⟨by omega, by omega⟩ hc5) ?_
    refine b0_ne (tgt := 17) okX7_worst rfl rfl ⟨by omega, by omega⟩ (fun h8 => absurd h8 (by omega)) (fun h8 => ?_)
    refine aGo okX7_worst 2 (f' := (13, [some (.inr 0), some (.inl x)], [.inl (-1), .inr 0], _)) rfl ?_
    refine b_vE (as := [.inl (-1)]) (rest := []) (k := 0) okX7_worst rfl lkX7_74 caX7_refuse (Nat.le_of_ble_eq_true rfl) rfl (Nat.le_of_ble_eq_true rfl) rfl rfl rfl (c_refuse_1 hre) ?_
    rintro _ _ ⟨rfl, rfl⟩
    have hw : (wy_worst p x) = -1 := by unfold wy_worst; (repeat' split) <;> omega
    exact b_ret (v := (some (.inl (-1)))) ⟨rfl, Or.inl rfl⟩ ⟨by rw [hw]; first | done | rfl, by rw [hw, bump_1]; exact cSt_of hp6 hd9 ⟨htp, rtp, htl9, hto, rto, htc, by rw [List.length_set]; exact hre⟩ hm hB hms hI hi01⟩ rfl
set_option maxRecDepth 100000 in
set_option maxHeartbeats 4000000 in
theorem r_newcomer {imt : Int} {tc : Nat} {k f c n kp l : List Int} {p : Nat} {t d : Int} {to re : List Int} {tl : Nat} {tp : List Int} {I : moT} {C6 : List (Option aE)} {h : aH} {N : Nat} (hS : cSt imt tc k f c n kp l p t d to re tl tp I C6 h) {x : Int} (hx : aI x) {y : Int} (hy : aI y) (hw0 : (wy_newcomer x y) ≠ 0) : aEv mX7_newcomer 6 0 0 N [.inr 0, .inl x, .inl y] h (fun rv h2 => rv = some (.inl (1000000000 - (wy_newcomer x y))) ∧ cSt imt tc k f c n kp l p t d to (bump re (wy_newcomer x y)) tl tp I C6 h2) := by
  obtain ⟨hp6, hd9, hax, nt, w, sh, wa, B, z0, fs, ss, sp, la, gr, B4, hm, hB, hms, hI, hi01, rfl⟩ := hS
  obtain ⟨htp, rtp, htl9, hto, rto, htc, hre⟩ := id hax
  obtain ⟨hfs, hss, hsp, hla, hgr⟩ := id hms
  obtain ⟨⟨hp7, hk, hf, hc, hn, hkp, hl, rk, rf, rc, rn, rkp, rl, ht0, ht1, hd0, hd1⟩, ⟨hnt, znt⟩, ⟨hw, zw, zwa⟩, ⟨hsh, zsh⟩⟩ := id hm
  obtain ⟨hx1, hx2⟩ := hx
  obtain ⟨hy1, hy2⟩ := hy
  refine aEv_of okX7_newcomer caX7_newcomer (Nat.le_of_ble_eq_true rfl) ?_
  refine aGo okX7_newcomer 1 (f' := (1, [some (.inr 0), some (.inl x), some (.inl y), none], [.inl x], _)) rfl ?_
  by_cases hc1 : 0 ≤ x ∧ x ≤ 35
  · refine b_vS (as := [.inl x]) (rest := []) (.inl 1) okX7_newcomer rfl lkX7_134 caX7_isCell (Nat.le_of_ble_eq_true rfl) rfl (Nat.le_of_ble_eq_true rfl) rfl (c_isCell_t ⟨by omega, by omega⟩) ?_
    refine b0_ne (tgt := 13) okX7_newcomer rfl rfl ⟨by omega, by omega⟩ (fun h4 => ?_) (fun h4 => absurd h4 (by omega))
    refine aGo okX7_newcomer 1 (f' := (14, [some (.inr 0), some (.inl x), some (.inl y), none], [.inl y], _)) rfl ?_
    refine b0_lt (tgt := 22) okX7_newcomer rfl rfl ⟨by omega, by omega⟩ (fun h14 => ?_) (fun h14 => ?_)
    · refine aGo okX7_newcomer 2 (f' := (25, [some (.inr 0), some (.inl x), some (.inl y), none], [.inl (-2), .inr 0], _)) rfl ?_
      refine b_vE (as := [.inl (-2)]) (rest := []) (k := 0) okX7_newcomer rfl lkX7_120 caX7_refuseFar (Nat.le_of_ble_eq_true rfl) rfl (Nat.le_of_ble_eq_true rfl) rfl rfl rfl (c_refuseFar_2 hre) ?_
      rintro _ _ ⟨rfl, rfl⟩
      have hw : (wy_newcomer x y) = -2 := by unfold wy_newcomer; (repeat' split) <;> omega
      exact b_ret (v := (some (.inl 1000000002))) ⟨rfl, Or.inl rfl⟩ ⟨by rw [hw]; first | done | rfl, by rw [hw, bump_2]; exact cSt_of hp6 hd9 ⟨htp, rtp, htl9, hto, rto, htc, by rw [List.length_set]; exact hre⟩ hm hB hms hI hi01⟩ rfl
    · refine aGo okX7_newcomer 2 (f' := (19, [some (.inr 0), some (.inl x), some (.inl y), none], [.inl 1, .inl y], _)) rfl ?_
      refine b_le (tgt := 29) okX7_newcomer rfl rfl ⟨by omega, by omega⟩ ⟨by omega, by omega⟩ (fun h19 => ?_) (fun h19 => ?_)
      · refine aGo okX7_newcomer 2 (f' := (33, [some (.inr 0), some (.inl x), some (.inl y), none], [.inr 32], _)) rfl ?_
        refine b_vV (as := []) (rest := []) (k := 32) (.inl (p : Int)) okX7_newcomer rfl lkX7_199 caX3_people (Nat.le_of_ble_eq_true rfl) rfl (Nat.le_of_ble_eq_true rfl) rfl rfl rfl (c_people_1) ?_
        refine aGo okX7_newcomer 1 (f' := (38, [some (.inr 0), some (.inl x), some (.inl y), none], [.inl 6, .inl (p : Int)], _)) rfl ?_
        refine b_lt (tgt := 44) okX7_newcomer rfl rfl ⟨by omega, by omega⟩ ⟨by omega, by omega⟩ (fun h38 => ?_) (fun h38 => ?_)
        · refine aGo okX7_newcomer 3 (f' := (49, [some (.inr 0), some (.inl x), some (.inl y), none], [.inl x, .inr 97], _)) rfl ?_
          exact absurd (by unfold wy_newcomer; (repeat' split) <;> omega) hw0
        · exact absurd (by unfold wy_newcomer; (repeat' split) <;> omega) hw0
      · refine aGo okX7_newcomer 2 (f' := (25, [some (.inr 0), some (.inl x), some (.inl y), none], [.inl (-2), .inr 0], _)) rfl ?_
        refine b_vE (as := [.inl (-2)]) (rest := []) (k := 0) okX7_newcomer rfl lkX7_120 caX7_refuseFar (Nat.le_of_ble_eq_true rfl) rfl (Nat.le_of_ble_eq_true rfl) rfl rfl rfl (c_refuseFar_2 hre) ?_
        rintro _ _ ⟨rfl, rfl⟩
        have hw : (wy_newcomer x y) = -2 := by unfold wy_newcomer; (repeat' split) <;> omega
        exact b_ret (v := (some (.inl 1000000002))) ⟨rfl, Or.inl rfl⟩ ⟨by rw [hw]; first | done | rfl, by rw [hw, bump_2]; exact cSt_of hp6 hd9 ⟨htp, rtp, htl9, hto, rto, htc, by rw [List.length_set]; exact hre⟩ hm hB hms hI hi01⟩ rfl
  · refine b_vS (as := [.inl x]) (rest := []) (.inl 0) okX7_newcomer rfl lkX7_134 caX7_isCell (Nat.le_of_ble_eq_true rfl) rfl (Nat.le_of_ble_eq_true rfl) rfl (c_isCell_f ⟨by omega, by omega⟩ hc1) ?_
    refine b0_ne (tgt := 13) okX7_newcomer rfl rfl ⟨by omega, by omega⟩ (fun h4 => absurd h4 (by omega)) (fun h4 => ?_)
    refine aGo okX7_newcomer 2 (f' := (9, [some (.inr 0), some (.inl x), some (.inl y), none], [.inl (-1), .inr 0], _)) rfl ?_
    refine b_vE (as := [.inl (-1)]) (rest := []) (k := 0) okX7_newcomer rfl lkX7_120 caX7_refuseFar (Nat.le_of_ble_eq_true rfl) rfl (Nat.le_of_ble_eq_true rfl) rfl rfl rfl (c_refuseFar_1 hre) ?_
    rintro _ _ ⟨rfl, rfl⟩
    have hw : (wy_newcomer x y) = -1 := by unfold wy_newcomer; (repeat' split) <;> omega
    exact b_ret (v := (some (.inl 1000000001))) ⟨rfl, Or.inl rfl⟩ ⟨by rw [hw]; first | done | rfl, by rw [hw, bump_1]; exact cSt_of hp6 hd9 ⟨htp, rtp, htl9, hto, rto, htc, by rw [List.length_set]; exact hre⟩ hm hB hms hI hi01⟩ rfl
set_option maxRecDepth 100000 in
set_option maxHeartbeats 4000000 in
theorem r_leaves {imt : Int} {tc : Nat} {k f c n kp l : List Int} {p : Nat} {t d : Int} {to re : List Int} {tl : Nat} {tp : List Int} {I : moT} {C6 : List (Option aE)} {h : aH} {N : Nat} (hS : cSt imt tc k f c n kp l p t d to re tl tp I C6 h) {x : Int} (hx : aI x) (hw0 : (wy_leaves x) ≠ 0) : aEv mX7_leaves 7 0 0 N [.inr 0, .inl x] h (fun rv h2 => rv = some (.inl ((wy_leaves x))) ∧ cSt imt tc k f c n kp l p t d to (bump re (wy_leaves x)) tl tp I C6 h2) := by
  obtain ⟨hp6, hd9, hax, nt, w, sh, wa, B, z0, fs, ss, sp, la, gr, B4, hm, hB, hms, hI, hi01, rfl⟩ := hS
  obtain ⟨htp, rtp, htl9, hto, rto, htc, hre⟩ := id hax
  obtain ⟨hfs, hss, hsp, hla, hgr⟩ := id hms
  obtain ⟨⟨hp7, hk, hf, hc, hn, hkp, hl, rk, rf, rc, rn, rkp, rl, ht0, ht1, hd0, hd1⟩, ⟨hnt, znt⟩, ⟨hw, zw, zwa⟩, ⟨hsh, zsh⟩⟩ := id hm
  obtain ⟨hx1, hx2⟩ := hx
  refine aEv_of okX7_leaves caX7_leaves (Nat.le_of_ble_eq_true rfl) ?_
  refine aGo okX7_leaves 1 (f' := (1, [some (.inr 0), some (.inl x), none], [.inl x], _)) rfl ?_
  refine b0_lt (tgt := 9) okX7_leaves rfl rfl ⟨by omega, by omega⟩ (fun h1 => ?_) (fun h1 => ?_)
  · refine aGo okX7_leaves 2 (f' := (12, [some (.inr 0), some (.inl x), none], [.inl (-2), .inr 0], _)) rfl ?_
    refine b_vE (as := [.inl (-2)]) (rest := []) (k := 0) okX7_leaves rfl lkX7_74 caX7_refuse (Nat.le_of_ble_eq_true rfl) rfl (Nat.le_of_ble_eq_true rfl) rfl rfl rfl (c_refuse_2 hre) ?_
    rintro _ _ ⟨rfl, rfl⟩
    have hw : (wy_leaves x) = -2 := by unfold wy_leaves; (repeat' split) <;> omega
    exact b_ret (v := (some (.inl (-2)))) ⟨rfl, Or.inl rfl⟩ ⟨by rw [hw]; first | done | rfl, by rw [hw, bump_2]; exact cSt_of hp6 hd9 ⟨htp, rtp, htl9, hto, rto, htc, by rw [List.length_set]; exact hre⟩ hm hB hms hI hi01⟩ rfl
  · refine aGo okX7_leaves 2 (f' := (6, [some (.inr 0), some (.inl x), none], [.inl 1, .inl x], _)) rfl ?_
    refine b_le (tgt := 16) okX7_leaves rfl rfl ⟨by omega, by omega⟩ ⟨by omega, by omega⟩ (fun h6 => ?_) (fun h6 => ?_)
    · refine aGo okX7_leaves 2 (f' := (20, [some (.inr 0), some (.inl x), none], [.inr 97], _)) rfl ?_
      exact absurd (by unfold wy_leaves; (repeat' split) <;> omega) hw0
    · refine aGo okX7_leaves 2 (f' := (12, [some (.inr 0), some (.inl x), none], [.inl (-2), .inr 0], _)) rfl ?_
      refine b_vE (as := [.inl (-2)]) (rest := []) (k := 0) okX7_leaves rfl lkX7_74 caX7_refuse (Nat.le_of_ble_eq_true rfl) rfl (Nat.le_of_ble_eq_true rfl) rfl rfl rfl (c_refuse_2 hre) ?_
      rintro _ _ ⟨rfl, rfl⟩
      have hw : (wy_leaves x) = -2 := by unfold wy_leaves; (repeat' split) <;> omega
      exact b_ret (v := (some (.inl (-2)))) ⟨rfl, Or.inl rfl⟩ ⟨by rw [hw]; first | done | rfl, by rw [hw, bump_2]; exact cSt_of hp6 hd9 ⟨htp, rtp, htl9, hto, rto, htc, by rw [List.length_set]; exact hre⟩ hm hB hms hI hi01⟩ rfl
set_option maxRecDepth 100000 in
set_option maxHeartbeats 4000000 in
theorem r_help {imt : Int} {tc : Nat} {k f c n kp l : List Int} {p : Nat} {t d : Int} {to re : List Int} {tl : Nat} {tp : List Int} {I : moT} {C6 : List (Option aE)} {h : aH} {N : Nat} (hS : cSt imt tc k f c n kp l p t d to re tl tp I C6 h) {x : Int} (hx : aI x) {y : Int} (hy : aI y) (hw0 : (wy_help x y) ≠ 0) : aEv mX7_help 6 0 0 N [.inr 0, .inl x, .inl y] h (fun rv h2 => rv = some (.inl ((wy_help x y))) ∧ cSt imt tc k f c n kp l p t d to (bump re (wy_help x y)) tl tp I C6 h2) := by
  obtain ⟨hp6, hd9, hax, nt, w, sh, wa, B, z0, fs, ss, sp, la, gr, B4, hm, hB, hms, hI, hi01, rfl⟩ := hS
  obtain ⟨htp, rtp, htl9, hto, rto, htc, hre⟩ := id hax
  obtain ⟨hfs, hss, hsp, hla, hgr⟩ := id hms
  obtain ⟨⟨hp7, hk, hf, hc, hn, hkp, hl, rk, rf, rc, rn, rkp, rl, ht0, ht1, hd0, hd1⟩, ⟨hnt, znt⟩, ⟨hw, zw, zwa⟩, ⟨hsh, zsh⟩⟩ := id hm
  obtain ⟨hx1, hx2⟩ := hx
  obtain ⟨hy1, hy2⟩ := hy
  refine aEv_of okX7_help caX7_help (Nat.le_of_ble_eq_true rfl) ?_
  refine aGo okX7_help 1 (f' := (1, [some (.inr 0), some (.inl x), some (.inl y), none], [.inl x], _)) rfl ?_
  refine b0_ge (tgt := 11) okX7_help rfl rfl ⟨by omega, by omega⟩ (fun h1 => ?_) (fun h1 => ?_)
  · refine aGo okX7_help 2 (f' := (14, [some (.inr 0), some (.inl x), some (.inl y), none], [.inl 10, .inl x], _)) rfl ?_
    refine b_le (tgt := 24) okX7_help rfl rfl ⟨by omega, by omega⟩ ⟨by omega, by omega⟩ (fun h14 => ?_) (fun h14 => ?_)
    · refine aGo okX7_help 1 (f' := (25, [some (.inr 0), some (.inl x), some (.inl y), none], [.inl y], _)) rfl ?_
      refine b0_lt (tgt := 33) okX7_help rfl rfl ⟨by omega, by omega⟩ (fun h25 => ?_) (fun h25 => ?_)
      · refine aGo okX7_help 2 (f' := (36, [some (.inr 0), some (.inl x), some (.inl y), none], [.inl (-2), .inr 0], _)) rfl ?_
        refine b_vE (as := [.inl (-2)]) (rest := []) (k := 0) okX7_help rfl lkX7_74 caX7_refuse (Nat.le_of_ble_eq_true rfl) rfl (Nat.le_of_ble_eq_true rfl) rfl rfl rfl (c_refuse_2 hre) ?_
        rintro _ _ ⟨rfl, rfl⟩
        have hw : (wy_help x y) = -2 := by unfold wy_help; (repeat' split) <;> omega
        exact b_ret (v := (some (.inl (-2)))) ⟨rfl, Or.inl rfl⟩ ⟨by rw [hw]; first | done | rfl, by rw [hw, bump_2]; exact cSt_of hp6 hd9 ⟨htp, rtp, htl9, hto, rto, htc, by rw [List.length_set]; exact hre⟩ hm hB hms hI hi01⟩ rfl
      · refine aGo okX7_help 2 (f' := (30, [some (.inr 0), some (.inl x), some (.inl y), none], [.inl 1, .inl y], _)) rfl ?_
        refine b_le (tgt := 40) okX7_help rfl rfl ⟨by omega, by omega⟩ ⟨by omega, by omega⟩ (fun h30 => ?_) (fun h30 => ?_)
        · refine aGo okX7_help 3 (f' := (45, [some (.inr 0), some (.inl x), some (.inl y), none], [.inl x, .inr 103], _)) rfl ?_
          exact absurd (by unfold wy_help; (repeat' split) <;> omega) hw0
        · refine aGo okX7_help 2 (f' := (36, [some (.inr 0), some (.inl x), some (.inl y), none], [.inl (-2), .inr 0], _)) rfl ?_
          refine b_vE (as := [.inl (-2)]) (rest := []) (k := 0) okX7_help rfl lkX7_74 caX7_refuse (Nat.le_of_ble_eq_true rfl) rfl (Nat.le_of_ble_eq_true rfl) rfl rfl rfl (c_refuse_2 hre) ?_
          rintro _ _ ⟨rfl, rfl⟩
          have hw : (wy_help x y) = -2 := by unfold wy_help; (repeat' split) <;> omega
          exact b_ret (v := (some (.inl (-2)))) ⟨rfl, Or.inl rfl⟩ ⟨by rw [hw]; first | done | rfl, by rw [hw, bump_2]; exact cSt_of hp6 hd9 ⟨htp, rtp, htl9, hto, rto, htc, by rw [List.length_set]; exact hre⟩ hm hB hms hI hi01⟩ rfl
    · refine aGo okX7_help 2 (f' := (20, [some (.inr 0), some (.inl x), some (.inl y), none], [.inl (-6), .inr 0], _)) rfl ?_
      refine b_vE (as := [.inl (-6)]) (rest := []) (k := 0) okX7_help rfl lkX7_74 caX7_refuse (Nat.le_of_ble_eq_true rfl) rfl (Nat.le_of_ble_eq_true rfl) rfl rfl rfl (c_refuse_6 hre) ?_
      rintro _ _ ⟨rfl, rfl⟩
      have hw : (wy_help x y) = -6 := by unfold wy_help; (repeat' split) <;> omega
      exact b_ret (v := (some (.inl (-6)))) ⟨rfl, Or.inl rfl⟩ ⟨by rw [hw]; first | done | rfl, by rw [hw, bump_6]; exact cSt_of hp6 hd9 ⟨htp, rtp, htl9, hto, rto, htc, by rw [List.length_set]; exact hre⟩ hm hB hms hI hi01⟩ rfl
  · refine aGo okX7_help 2 (f' := (7, [some (.inr 0), some (.inl x), some (.inl y), none], [.inl (-4), .inr 0], _)) rfl ?_
    refine b_vE (as := [.inl (-4)]) (rest := []) (k := 0) okX7_help rfl lkX7_74 caX7_refuse (Nat.le_of_ble_eq_true rfl) rfl (Nat.le_of_ble_eq_true rfl) rfl rfl rfl (c_refuse_4 hre) ?_
    rintro _ _ ⟨rfl, rfl⟩
    have hw : (wy_help x y) = -4 := by unfold wy_help; (repeat' split) <;> omega
    exact b_ret (v := (some (.inl (-4)))) ⟨rfl, Or.inl rfl⟩ ⟨by rw [hw]; first | done | rfl, by rw [hw, bump_4]; exact cSt_of hp6 hd9 ⟨htp, rtp, htl9, hto, rto, htc, by rw [List.length_set]; exact hre⟩ hm hB hms hI hi01⟩ rfl
set_option maxRecDepth 100000 in
set_option maxHeartbeats 4000000 in
theorem r_net {imt : Int} {tc : Nat} {k f c n kp l : List Int} {p : Nat} {t d : Int} {to re : List Int} {tl : Nat} {tp : List Int} {I : moT} {C6 : List (Option aE)} {h : aH} {N : Nat} (hS : cSt imt tc k f c n kp l p t d to re tl tp I C6 h) {x : Int} (hx : aI x) (hw0 : (wy_net p x) ≠ 0) : aEv mX7_net 3 0 0 N [.inr 0, .inl x] h (fun rv h2 => rv = some (.inl (1000000000 - (wy_net p x))) ∧ cSt imt tc k f c n kp l p t d to (bump re (wy_net p x)) tl tp I C6 h2) := by
  obtain ⟨hp6, hd9, hax, nt, w, sh, wa, B, z0, fs, ss, sp, la, gr, B4, hm, hB, hms, hI, hi01, rfl⟩ := hS
  obtain ⟨htp, rtp, htl9, hto, rto, htc, hre⟩ := id hax
  obtain ⟨hfs, hss, hsp, hla, hgr⟩ := id hms
  obtain ⟨⟨hp7, hk, hf, hc, hn, hkp, hl, rk, rf, rc, rn, rkp, rl, ht0, ht1, hd0, hd1⟩, ⟨hnt, znt⟩, ⟨hw, zw, zwa⟩, ⟨hsh, zsh⟩⟩ := id hm
  obtain ⟨hx1, hx2⟩ := hx
  refine aEv_of okX7_net caX7_net (Nat.le_of_ble_eq_true rfl) ?_
  refine aGo okX7_net 3 (f' := (5, [some (.inr 0), some (.inl x)], [.inl x, .inr 32], _)) rfl ?_
  by_cases hc5 : 0 ≤ x ∧ x < (p : Int)
  · refine b_vV (as := [.inl x]) (rest := []) (k := 32) (.inl 1) okX7_net rfl lkX7_95 caX3_isThere (Nat.le_of_ble_eq_true rfl) rfl (Nat.le_of_ble_eq_true rfl) rfl rfl rfl (c_isThere_1_t (x := x) (by omega) hc5.1 hc5.2) ?_
    refine b0_ne (tgt := 17) okX7_net rfl rfl ⟨by omega, by omega⟩ (fun h8 => ?_) (fun h8 => absurd h8 (by omega))
    refine aGo okX7_net 3 (f' := (22, [some (.inr 0), some (.inl x)], [.inl x, .inr 32], _)) rfl ?_
    exact absurd (by unfold wy_net; (repeat' split) <;> omega) hw0
  · refine b_vV (as := [.inl x]) (rest := []) (k := 32) (.inl 0) okX7_net rfl lkX7_95 caX3_isThere (Nat.le_of_ble_eq_true rfl) rfl (Nat.le_of_ble_eq_true rfl) rfl rfl rfl (c_isThere_1_f (x := x) (by omega) ⟨by omega, by omega⟩ hc5) ?_
    refine b0_ne (tgt := 17) okX7_net rfl rfl ⟨by omega, by omega⟩ (fun h8 => absurd h8 (by omega)) (fun h8 => ?_)
    refine aGo okX7_net 2 (f' := (13, [some (.inr 0), some (.inl x)], [.inl (-1), .inr 0], _)) rfl ?_
    refine b_vE (as := [.inl (-1)]) (rest := []) (k := 0) okX7_net rfl lkX7_120 caX7_refuseFar (Nat.le_of_ble_eq_true rfl) rfl (Nat.le_of_ble_eq_true rfl) rfl rfl rfl (c_refuseFar_1 hre) ?_
    rintro _ _ ⟨rfl, rfl⟩
    have hw : (wy_net p x) = -1 := by unfold wy_net; (repeat' split) <;> omega
    exact b_ret (v := (some (.inl 1000000001))) ⟨rfl, Or.inl rfl⟩ ⟨by rw [hw]; first | done | rfl, by rw [hw, bump_1]; exact cSt_of hp6 hd9 ⟨htp, rtp, htl9, hto, rto, htc, by rw [List.length_set]; exact hre⟩ hm hB hms hI hi01⟩ rfl
set_option maxRecDepth 100000 in
set_option maxHeartbeats 4000000 in
theorem r_loans {imt : Int} {tc : Nat} {k f c n kp l : List Int} {p : Nat} {t d : Int} {to re : List Int} {tl : Nat} {tp : List Int} {I : moT} {C6 : List (Option aE)} {h : aH} {N : Nat} (hS : cSt imt tc k f c n kp l p t d to re tl tp I C6 h) {x : Int} (hx : aI x) (hw0 : (wy_loans x) ≠ 0) : aEv mX7_loans 3 0 0 N [.inr 0, .inl x] h (fun rv h2 => rv = some (.inl ((wy_loans x))) ∧ cSt imt tc k f c n kp l p t d to (bump re (wy_loans x)) tl tp I C6 h2) := by
  obtain ⟨hp6, hd9, hax, nt, w, sh, wa, B, z0, fs, ss, sp, la, gr, B4, hm, hB, hms, hI, hi01, rfl⟩ := hS
  obtain ⟨htp, rtp, htl9, hto, rto, htc, hre⟩ := id hax
  obtain ⟨hfs, hss, hsp, hla, hgr⟩ := id hms
  obtain ⟨⟨hp7, hk, hf, hc, hn, hkp, hl, rk, rf, rc, rn, rkp, rl, ht0, ht1, hd0, hd1⟩, ⟨hnt, znt⟩, ⟨hw, zw, zwa⟩, ⟨hsh, zsh⟩⟩ := id hm
  obtain ⟨hx1, hx2⟩ := hx
  refine aEv_of okX7_loans caX7_loans (Nat.le_of_ble_eq_true rfl) ?_
  refine aGo okX7_loans 1 (f' := (1, [some (.inr 0), some (.inl x)], [.inl x], _)) rfl ?_
  refine b0_lt (tgt := 9) okX7_loans rfl rfl ⟨by omega, by omega⟩ (fun h1 => ?_) (fun h1 => ?_)
  · refine aGo okX7_loans 2 (f' := (12, [some (.inr 0), some (.inl x)], [.inl (-2), .inr 0], _)) rfl ?_
    refine b_vE (as := [.inl (-2)]) (rest := []) (k := 0) okX7_loans rfl lkX7_74 caX7_refuse (Nat.le_of_ble_eq_true rfl) rfl (Nat.le_of_ble_eq_true rfl) rfl rfl rfl (c_refuse_2 hre) ?_
    rintro _ _ ⟨rfl, rfl⟩
    have hw : (wy_loans x) = -2 := by unfold wy_loans; (repeat' split) <;> omega
    exact b_ret (v := (some (.inl (-2)))) ⟨rfl, Or.inl rfl⟩ ⟨by rw [hw]; first | done | rfl, by rw [hw, bump_2]; exact cSt_of hp6 hd9 ⟨htp, rtp, htl9, hto, rto, htc, by rw [List.length_set]; exact hre⟩ hm hB hms hI hi01⟩ rfl
  · refine aGo okX7_loans 2 (f' := (6, [some (.inr 0), some (.inl x)], [.inl 1, .inl x], _)) rfl ?_
    refine b_le (tgt := 16) okX7_loans rfl rfl ⟨by omega, by omega⟩ ⟨by omega, by omega⟩ (fun h6 => ?_) (fun h6 => ?_)
    · refine aGo okX7_loans 1 (f' := (17, [some (.inr 0), some (.inl x)], [.inl x], _)) rfl ?_
      refine b0_ne (tgt := 30) okX7_loans rfl rfl ⟨by omega, by omega⟩ (fun h17 => ?_) (fun h17 => ?_)
      · refine aGo okX7_loans 2 (f' := (34, [some (.inr 0), some (.inl x)], [.inr 103], _)) rfl ?_
        exact absurd (by unfold wy_loans; (repeat' split) <;> omega) hw0
      · refine aGo okX7_loans 2 (f' := (24, [some (.inr 0), some (.inl x)], [.inr 32], _)) rfl ?_
        exact absurd (by unfold wy_loans; (repeat' split) <;> omega) hw0
    · refine aGo okX7_loans 2 (f' := (12, [some (.inr 0), some (.inl x)], [.inl (-2), .inr 0], _)) rfl ?_
      refine b_vE (as := [.inl (-2)]) (rest := []) (k := 0) okX7_loans rfl lkX7_74 caX7_refuse (Nat.le_of_ble_eq_true rfl) rfl (Nat.le_of_ble_eq_true rfl) rfl rfl rfl (c_refuse_2 hre) ?_
      rintro _ _ ⟨rfl, rfl⟩
      have hw : (wy_loans x) = -2 := by unfold wy_loans; (repeat' split) <;> omega
      exact b_ret (v := (some (.inl (-2)))) ⟨rfl, Or.inl rfl⟩ ⟨by rw [hw]; first | done | rfl, by rw [hw, bump_2]; exact cSt_of hp6 hd9 ⟨htp, rtp, htl9, hto, rto, htc, by rw [List.length_set]; exact hre⟩ hm hB hms hI hi01⟩ rfl
set_option maxRecDepth 100000 in
set_option maxHeartbeats 4000000 in
theorem r_survey {imt : Int} {tc : Nat} {k f c n kp l : List Int} {p : Nat} {t d : Int} {to re : List Int} {tl : Nat} {tp : List Int} {I : moT} {C6 : List (Option aE)} {h : aH} {N : Nat} (hS : cSt imt tc k f c n kp l p t d to re tl tp I C6 h) {x : Int} (hx : aI x) (hw0 : (wy_survey x) ≠ 0) : aEv mX7_survey 6 0 0 N [.inr 0, .inl x] h (fun rv h2 => rv = some (.inl ((wy_survey x))) ∧ cSt imt tc k f c n kp l p t d to (bump re (wy_survey x)) tl tp I C6 h2) := by
  obtain ⟨hp6, hd9, hax, nt, w, sh, wa, B, z0, fs, ss, sp, la, gr, B4, hm, hB, hms, hI, hi01, rfl⟩ := hS
  obtain ⟨htp, rtp, htl9, hto, rto, htc, hre⟩ := id hax
  obtain ⟨hfs, hss, hsp, hla, hgr⟩ := id hms
  obtain ⟨⟨hp7, hk, hf, hc, hn, hkp, hl, rk, rf, rc, rn, rkp, rl, ht0, ht1, hd0, hd1⟩, ⟨hnt, znt⟩, ⟨hw, zw, zwa⟩, ⟨hsh, zsh⟩⟩ := id hm
  obtain ⟨hx1, hx2⟩ := hx
  refine aEv_of okX7_survey caX7_survey (Nat.le_of_ble_eq_true rfl) ?_
  refine aGo okX7_survey 1 (f' := (1, [some (.inr 0), some (.inl x)], [.inl x], _)) rfl ?_
  by_cases hc1 : 0 ≤ x ∧ x ≤ 35
  · refine b_vS (as := [.inl x]) (rest := []) (.inl 1) okX7_survey rfl lkX7_134 caX7_isCell (Nat.le_of_ble_eq_true rfl) rfl (Nat.le_of_ble_eq_true rfl) rfl (c_isCell_t ⟨by omega, by omega⟩) ?_
    refine b0_ne (tgt := 13) okX7_survey rfl rfl ⟨by omega, by omega⟩ (fun h4 => ?_) (fun h4 => absurd h4 (by omega))
    refine aGo okX7_survey 3 (f' := (18, [some (.inr 0), some (.inl x)], [.inl x, .inr 97], _)) rfl ?_
    exact absurd (by unfold wy_survey; (repeat' split) <;> omega) hw0
  · refine b_vS (as := [.inl x]) (rest := []) (.inl 0) okX7_survey rfl lkX7_134 caX7_isCell (Nat.le_of_ble_eq_true rfl) rfl (Nat.le_of_ble_eq_true rfl) rfl (c_isCell_f ⟨by omega, by omega⟩ hc1) ?_
    refine b0_ne (tgt := 13) okX7_survey rfl rfl ⟨by omega, by omega⟩ (fun h4 => absurd h4 (by omega)) (fun h4 => ?_)
    refine aGo okX7_survey 2 (f' := (9, [some (.inr 0), some (.inl x)], [.inl (-1), .inr 0], _)) rfl ?_
    refine b_vE (as := [.inl (-1)]) (rest := []) (k := 0) okX7_survey rfl lkX7_74 caX7_refuse (Nat.le_of_ble_eq_true rfl) rfl (Nat.le_of_ble_eq_true rfl) rfl rfl rfl (c_refuse_1 hre) ?_
    rintro _ _ ⟨rfl, rfl⟩
    have hw : (wy_survey x) = -1 := by unfold wy_survey; (repeat' split) <;> omega
    exact b_ret (v := (some (.inl (-1)))) ⟨rfl, Or.inl rfl⟩ ⟨by rw [hw]; first | done | rfl, by rw [hw, bump_1]; exact cSt_of hp6 hd9 ⟨htp, rtp, htl9, hto, rto, htc, by rw [List.length_set]; exact hre⟩ hm hB hms hI hi01⟩ rfl
set_option maxRecDepth 100000 in
set_option maxHeartbeats 4000000 in
theorem r_quarrel {imt : Int} {tc : Nat} {k f c n kp l : List Int} {p : Nat} {t d : Int} {to re : List Int} {tl : Nat} {tp : List Int} {I : moT} {C6 : List (Option aE)} {h : aH} {N : Nat} (hS : cSt imt tc k f c n kp l p t d to re tl tp I C6 h) {x : Int} (hx : aI x) {y : Int} (hy : aI y) {z : Int} (hz : aI z) {u : Int} (hu : aI u) (hw0 : (wy_quarrel p x y z u) ≠ 0) : aEv mX7_quarrel 6 0 0 N [.inr 0, .inl x, .inl y, .inl z, .inl u] h (fun rv h2 => rv = some (.inl (1000000000 - (wy_quarrel p x y z u))) ∧ cSt imt tc k f c n kp l p t d to (bump re (wy_quarrel p x y z u)) tl tp I C6 h2) := by
  obtain ⟨hp6, hd9, hax, nt, w, sh, wa, B, z0, fs, ss, sp, la, gr, B4, hm, hB, hms, hI, hi01, rfl⟩ := hS
  obtain ⟨htp, rtp, htl9, hto, rto, htc, hre⟩ := id hax
  obtain ⟨hfs, hss, hsp, hla, hgr⟩ := id hms
  obtain ⟨⟨hp7, hk, hf, hc, hn, hkp, hl, rk, rf, rc, rn, rkp, rl, ht0, ht1, hd0, hd1⟩, ⟨hnt, znt⟩, ⟨hw, zw, zwa⟩, ⟨hsh, zsh⟩⟩ := id hm
  obtain ⟨hx1, hx2⟩ := hx
  obtain ⟨hy1, hy2⟩ := hy
  obtain ⟨hz1, hz2⟩ := hz
  obtain ⟨hu1, hu2⟩ := hu
  refine aEv_of okX7_quarrel caX7_quarrel (Nat.le_of_ble_eq_true rfl) ?_
  refine aGo okX7_quarrel 4 (f' := (6, [some (.inr 0), some (.inl x), some (.inl y), some (.inl z), some (.inl u), none], [.inl y, .inl x, .inr 32], _)) rfl ?_
  by_cases hc6 : 0 ≤ x ∧ x < (p : Int) ∧ 0 ≤ y ∧ y < (p : Int) ∧ x ≠ y
  · refine b_vV (as := [.inl x, .inl y]) (rest := []) (k := 32) (.inl 1) okX7_quarrel rfl lkX7_126 caX3_areTwo (Nat.le_of_ble_eq_true rfl) rfl (Nat.le_of_ble_eq_true rfl) rfl rfl rfl (c_areTwo_1_t hp7 ⟨by omega, by omega⟩ ⟨by omega, by omega⟩ (by omega)) ?_
    refine b0_ne (tgt := 18) okX7_quarrel rfl rfl ⟨by omega, by omega⟩ (fun h9 => ?_) (fun h9 => absurd h9 (by omega))
    refine aGo okX7_quarrel 2 (f' := (20, [some (.inr 0), some (.inl x), some (.inl y), some (.inl z), some (.inl u), none], [.inl 1, .inl z], _)) rfl ?_
    refine b_ge (tgt := 30) okX7_quarrel rfl rfl ⟨by omega, by omega⟩ ⟨by omega, by omega⟩ (fun h20 => ?_) (fun h20 => ?_)
    · refine aGo okX7_quarrel 2 (f' := (33, [some (.inr 0), some (.inl x), some (.inl y), some (.inl z), some (.inl u), none], [.inl 10, .inl z], _)) rfl ?_
      refine b_le (tgt := 43) okX7_quarrel rfl rfl ⟨by omega, by omega⟩ ⟨by omega, by omega⟩ (fun h33 => ?_) (fun h33 => ?_)
      · refine aGo okX7_quarrel 1 (f' := (45, [some (.inr 0), some (.inl x), some (.inl y), some (.inl z), some (.inl u), none], [.inl u], _)) rfl ?_
        refine b0_lt (tgt := 54) okX7_quarrel rfl rfl ⟨by omega, by omega⟩ (fun h45 => ?_) (fun h45 => ?_)
        · refine aGo okX7_quarrel 2 (f' := (57, [some (.inr 0), some (.inl x), some (.inl y), some (.inl z), some (.inl u), none], [.inl (-2), .inr 0], _)) rfl ?_
          refine b_vE (as := [.inl (-2)]) (rest := []) (k := 0) okX7_quarrel rfl lkX7_120 caX7_refuseFar (Nat.le_of_ble_eq_true rfl) rfl (Nat.le_of_ble_eq_true rfl) rfl rfl rfl (c_refuseFar_2 hre) ?_
          rintro _ _ ⟨rfl, rfl⟩
          have hw : (wy_quarrel p x y z u) = -2 := by unfold wy_quarrel; (repeat' split) <;> omega
          exact b_ret (v := (some (.inl 1000000002))) ⟨rfl, Or.inl rfl⟩ ⟨by rw [hw]; first | done | rfl, by rw [hw, bump_2]; exact cSt_of hp6 hd9 ⟨htp, rtp, htl9, hto, rto, htc, by rw [List.length_set]; exact hre⟩ hm hB hms hI hi01⟩ rfl
        · refine aGo okX7_quarrel 2 (f' := (51, [some (.inr 0), some (.inl x), some (.inl y), some (.inl z), some (.inl u), none], [.inl 1, .inl u], _)) rfl ?_
          refine b_le (tgt := 61) okX7_quarrel rfl rfl ⟨by omega, by omega⟩ ⟨by omega, by omega⟩ (fun h51 => ?_) (fun h51 => ?_)
          · refine aGo okX7_quarrel 5 (f' := (68, [some (.inr 0), some (.inl x), some (.inl y), some (.inl z), some (.inl u), none], [.inl z, .inl y, .inl x, .inr 97], _)) rfl ?_
            exact absurd (by unfold wy_quarrel; (repeat' split) <;> omega) hw0
          · refine aGo okX7_quarrel 2 (f' := (57, [some (.inr 0), some (.inl x), some (.inl y), some (.inl z), some (.inl u), none], [.inl (-2), .inr 0], _)) rfl ?_
            refine b_vE (as := [.inl (-2)]) (rest := []) (k := 0) okX7_quarrel rfl lkX7_120 caX7_refuseFar (Nat.le_of_ble_eq_true rfl) rfl (Nat.le_of_ble_eq_true rfl) rfl rfl rfl (c_refuseFar_2 hre) ?_
            rintro _ _ ⟨rfl, rfl⟩
            have hw : (wy_quarrel p x y z u) = -2 := by unfold wy_quarrel; (repeat' split) <;> omega
            exact b_ret (v := (some (.inl 1000000002))) ⟨rfl, Or.inl rfl⟩ ⟨by rw [hw]; first | done | rfl, by rw [hw, bump_2]; exact cSt_of hp6 hd9 ⟨htp, rtp, htl9, hto, rto, htc, by rw [List.length_set]; exact hre⟩ hm hB hms hI hi01⟩ rfl
      · refine aGo okX7_quarrel 2 (f' := (39, [some (.inr 0), some (.inl x), some (.inl y), some (.inl z), some (.inl u), none], [.inl (-6), .inr 0], _)) rfl ?_
        refine b_vE (as := [.inl (-6)]) (rest := []) (k := 0) okX7_quarrel rfl lkX7_120 caX7_refuseFar (Nat.le_of_ble_eq_true rfl) rfl (Nat.le_of_ble_eq_true rfl) rfl rfl rfl (c_refuseFar_6 hre) ?_
        rintro _ _ ⟨rfl, rfl⟩
        have hw : (wy_quarrel p x y z u) = -6 := by unfold wy_quarrel; (repeat' split) <;> omega
        exact b_ret (v := (some (.inl 1000000006))) ⟨rfl, Or.inl rfl⟩ ⟨by rw [hw]; first | done | rfl, by rw [hw, bump_6]; exact cSt_of hp6 hd9 ⟨htp, rtp, htl9, hto, rto, htc, by rw [List.length_set]; exact hre⟩ hm hB hms hI hi01⟩ rfl
    · refine aGo okX7_quarrel 2 (f' := (26, [some (.inr 0), some (.inl x), some (.inl y), some (.inl z), some (.inl u), none], [.inl (-4), .inr 0], _)) rfl ?_
      refine b_vE (as := [.inl (-4)]) (rest := []) (k := 0) okX7_quarrel rfl lkX7_120 caX7_refuseFar (Nat.le_of_ble_eq_true rfl) rfl (Nat.le_of_ble_eq_true rfl) rfl rfl rfl (c_refuseFar_4 hre) ?_
      rintro _ _ ⟨rfl, rfl⟩
      have hw : (wy_quarrel p x y z u) = -4 := by unfold wy_quarrel; (repeat' split) <;> omega
      exact b_ret (v := (some (.inl 1000000004))) ⟨rfl, Or.inl rfl⟩ ⟨by rw [hw]; first | done | rfl, by rw [hw, bump_4]; exact cSt_of hp6 hd9 ⟨htp, rtp, htl9, hto, rto, htc, by rw [List.length_set]; exact hre⟩ hm hB hms hI hi01⟩ rfl
  · refine b_vV (as := [.inl x, .inl y]) (rest := []) (k := 32) (.inl 0) okX7_quarrel rfl lkX7_126 caX3_areTwo (Nat.le_of_ble_eq_true rfl) rfl (Nat.le_of_ble_eq_true rfl) rfl rfl rfl (c_areTwo_1_f hp7 ⟨by omega, by omega⟩ ⟨by omega, by omega⟩ hc6) ?_
    refine b0_ne (tgt := 18) okX7_quarrel rfl rfl ⟨by omega, by omega⟩ (fun h9 => absurd h9 (by omega)) (fun h9 => ?_)
    refine aGo okX7_quarrel 2 (f' := (14, [some (.inr 0), some (.inl x), some (.inl y), some (.inl z), some (.inl u), none], [.inl (-1), .inr 0], _)) rfl ?_
    refine b_vE (as := [.inl (-1)]) (rest := []) (k := 0) okX7_quarrel rfl lkX7_120 caX7_refuseFar (Nat.le_of_ble_eq_true rfl) rfl (Nat.le_of_ble_eq_true rfl) rfl rfl rfl (c_refuseFar_1 hre) ?_
    rintro _ _ ⟨rfl, rfl⟩
    have hw : (wy_quarrel p x y z u) = -1 := by unfold wy_quarrel; (repeat' split) <;> omega
    exact b_ret (v := (some (.inl 1000000001))) ⟨rfl, Or.inl rfl⟩ ⟨by rw [hw]; first | done | rfl, by rw [hw, bump_1]; exact cSt_of hp6 hd9 ⟨htp, rtp, htl9, hto, rto, htc, by rw [List.length_set]; exact hre⟩ hm hB hms hI hi01⟩ rfl
set_option maxRecDepth 100000 in
set_option maxHeartbeats 4000000 in
theorem r_two {imt : Int} {tc : Nat} {k f c n kp l : List Int} {p : Nat} {t d : Int} {to re : List Int} {tl : Nat} {tp : List Int} {I : moT} {C6 : List (Option aE)} {h : aH} {N : Nat} (hS : cSt imt tc k f c n kp l p t d to re tl tp I C6 h) {x : Int} (hx : aI x) {y : Int} (hy : aI y) (hw0 : (wy_two p x y) ≠ 0) : aEv mX7_two 7 0 0 N [.inr 0, .inl x, .inl y] h (fun rv h2 => rv = some (.inl ((wy_two p x y))) ∧ cSt imt tc k f c n kp l p t d to (bump re (wy_two p x y)) tl tp I C6 h2) := by
  obtain ⟨hp6, hd9, hax, nt, w, sh, wa, B, z0, fs, ss, sp, la, gr, B4, hm, hB, hms, hI, hi01, rfl⟩ := hS
  obtain ⟨htp, rtp, htl9, hto, rto, htc, hre⟩ := id hax
  obtain ⟨hfs, hss, hsp, hla, hgr⟩ := id hms
  obtain ⟨⟨hp7, hk, hf, hc, hn, hkp, hl, rk, rf, rc, rn, rkp, rl, ht0, ht1, hd0, hd1⟩, ⟨hnt, znt⟩, ⟨hw, zw, zwa⟩, ⟨hsh, zsh⟩⟩ := id hm
  obtain ⟨hx1, hx2⟩ := hx
  obtain ⟨hy1, hy2⟩ := hy
  refine aEv_of okX7_two caX7_two (Nat.le_of_ble_eq_true rfl) ?_
  refine aGo okX7_two 4 (f' := (6, [some (.inr 0), some (.inl x), some (.inl y)], [.inl y, .inl x, .inr 32], _)) rfl ?_
  by_cases hc6 : 0 ≤ x ∧ x < (p : Int) ∧ 0 ≤ y ∧ y < (p : Int) ∧ x ≠ y
  · refine b_vV (as := [.inl x, .inl y]) (rest := []) (k := 32) (.inl 1) okX7_two rfl lkX7_126 caX3_areTwo (Nat.le_of_ble_eq_true rfl) rfl (Nat.le_of_ble_eq_true rfl) rfl rfl rfl (c_areTwo_1_t hp7 ⟨by omega, by omega⟩ ⟨by omega, by omega⟩ (by omega)) ?_
    refine b0_ne (tgt := 18) okX7_two rfl rfl ⟨by omega, by omega⟩ (fun h9 => ?_) (fun h9 => absurd h9 (by omega))
    refine aGo okX7_two 4 (f' := (24, [some (.inr 0), some (.inl x), some (.inl y)], [.inl y, .inl x, .inr 97], _)) rfl ?_
    exact absurd (by unfold wy_two; (repeat' split) <;> omega) hw0
  · refine b_vV (as := [.inl x, .inl y]) (rest := []) (k := 32) (.inl 0) okX7_two rfl lkX7_126 caX3_areTwo (Nat.le_of_ble_eq_true rfl) rfl (Nat.le_of_ble_eq_true rfl) rfl rfl rfl (c_areTwo_1_f hp7 ⟨by omega, by omega⟩ ⟨by omega, by omega⟩ hc6) ?_
    refine b0_ne (tgt := 18) okX7_two rfl rfl ⟨by omega, by omega⟩ (fun h9 => absurd h9 (by omega)) (fun h9 => ?_)
    refine aGo okX7_two 2 (f' := (14, [some (.inr 0), some (.inl x), some (.inl y)], [.inl (-1), .inr 0], _)) rfl ?_
    refine b_vE (as := [.inl (-1)]) (rest := []) (k := 0) okX7_two rfl lkX7_74 caX7_refuse (Nat.le_of_ble_eq_true rfl) rfl (Nat.le_of_ble_eq_true rfl) rfl rfl rfl (c_refuse_1 hre) ?_
    rintro _ _ ⟨rfl, rfl⟩
    have hw : (wy_two p x y) = -1 := by unfold wy_two; (repeat' split) <;> omega
    exact b_ret (v := (some (.inl (-1)))) ⟨rfl, Or.inl rfl⟩ ⟨by rw [hw]; first | done | rfl, by rw [hw, bump_1]; exact cSt_of hp6 hd9 ⟨htp, rtp, htl9, hto, rto, htc, by rw [List.length_set]; exact hre⟩ hm hB hms hI hi01⟩ rfl
set_option maxRecDepth 100000 in
set_option maxHeartbeats 4000000 in
theorem r_crowd {imt : Int} {tc : Nat} {k f c n kp l : List Int} {p : Nat} {t d : Int} {to re : List Int} {tl : Nat} {tp : List Int} {I : moT} {C6 : List (Option aE)} {h : aH} {N : Nat} (hS : cSt imt tc k f c n kp l p t d to re tl tp I C6 h) {x : Int} (hx : aI x) (hw0 : (wy_crowd x) ≠ 0) : aEv mX7_crowd 5 0 0 N [.inr 0, .inl x] h (fun rv h2 => rv = some (.inl ((wy_crowd x))) ∧ cSt imt tc k f c n kp l p t d to (bump re (wy_crowd x)) tl tp I C6 h2) := by
  obtain ⟨hp6, hd9, hax, nt, w, sh, wa, B, z0, fs, ss, sp, la, gr, B4, hm, hB, hms, hI, hi01, rfl⟩ := hS
  obtain ⟨htp, rtp, htl9, hto, rto, htc, hre⟩ := id hax
  obtain ⟨hfs, hss, hsp, hla, hgr⟩ := id hms
  obtain ⟨⟨hp7, hk, hf, hc, hn, hkp, hl, rk, rf, rc, rn, rkp, rl, ht0, ht1, hd0, hd1⟩, ⟨hnt, znt⟩, ⟨hw, zw, zwa⟩, ⟨hsh, zsh⟩⟩ := id hm
  obtain ⟨hx1, hx2⟩ := hx
  refine aEv_of okX7_crowd caX7_crowd (Nat.le_of_ble_eq_true rfl) ?_
  refine aGo okX7_crowd 1 (f' := (1, [some (.inr 0), some (.inl x)], [.inl x], _)) rfl ?_
  by_cases hs1 : 0 ≤ x ∧ x ≤ 2
  · have hsx := (show x = 0 ∨ x = 1 ∨ x = 2 from by omega)
    rcases hsx with hsw | hsw | hsw
    · refine b_cast (f' := (1, [some (.inr 0), some (.inl x)], [.inl 0], [(mainSeg imt (tc : Int)), (moSeg 32 k f c n kp l nt w sh (p : Int) t d wa), B, (miscSeg z0 fs ss sp la gr (tl : Int) tp), B4, (auxSeg to re), C6])) (congrArg (fun zz : Int => ((1, [some (.inr 0), some (.inl x)], .inl zz :: [], [(mainSeg imt (tc : Int)), (moSeg 32 k f c n kp l nt w sh (p : Int) t d wa), B, (miscSeg z0 fs ss sp la gr (tl : Int) tp), B4, (auxSeg to re), C6]) : aF)) hsw) ?_
      refine b_swIn (tgt := 28) okX7_crowd rfl ⟨by decide, by decide⟩ (by decide) (by decide) rfl rfl ?_
      refine aGo okX7_crowd 2 (f' := (32, [some (.inr 0), some (.inl x)], [.inr 32], _)) rfl ?_
      exact absurd (by unfold wy_crowd; (repeat' split) <;> omega) hw0
    · refine b_cast (f' := (1, [some (.inr 0), some (.inl x)], [.inl 1], [(mainSeg imt (tc : Int)), (moSeg 32 k f c n kp l nt w sh (p : Int) t d wa), B, (miscSeg z0 fs ss sp la gr (tl : Int) tp), B4, (auxSeg to re), C6])) (congrArg (fun zz : Int => ((1, [some (.inr 0), some (.inl x)], .inl zz :: [], [(mainSeg imt (tc : Int)), (moSeg 32 k f c n kp l nt w sh (p : Int) t d wa), B, (miscSeg z0 fs ss sp la gr (tl : Int) tp), B4, (auxSeg to re), C6]) : aF)) hsw) ?_
      refine b_swIn (tgt := 36) okX7_crowd rfl ⟨by decide, by decide⟩ (by decide) (by decide) rfl rfl ?_
      refine aGo okX7_crowd 2 (f' := (40, [some (.inr 0), some (.inl x)], [.inr 32], _)) rfl ?_
      exact absurd (by unfold wy_crowd; (repeat' split) <;> omega) hw0
    · refine b_cast (f' := (1, [some (.inr 0), some (.inl x)], [.inl 2], [(mainSeg imt (tc : Int)), (moSeg 32 k f c n kp l nt w sh (p : Int) t d wa), B, (miscSeg z0 fs ss sp la gr (tl : Int) tp), B4, (auxSeg to re), C6])) (congrArg (fun zz : Int => ((1, [some (.inr 0), some (.inl x)], .inl zz :: [], [(mainSeg imt (tc : Int)), (moSeg 32 k f c n kp l nt w sh (p : Int) t d wa), B, (miscSeg z0 fs ss sp la gr (tl : Int) tp), B4, (auxSeg to re), C6]) : aF)) hsw) ?_
      refine b_swIn (tgt := 44) okX7_crowd rfl ⟨by decide, by decide⟩ (by decide) (by decide) rfl rfl ?_
      refine aGo okX7_crowd 2 (f' := (48, [some (.inr 0), some (.inl x)], [.inr 32], _)) rfl ?_
      exact absurd (by unfold wy_crowd; (repeat' split) <;> omega) hw0
  · refine b_swOut (tgt := 52) okX7_crowd rfl ⟨by omega, by omega⟩ (by omega) rfl ?_
    refine aGo okX7_crowd 2 (f' := (55, [some (.inr 0), some (.inl x)], [.inl (-2), .inr 0], _)) rfl ?_
    refine b_vE (as := [.inl (-2)]) (rest := []) (k := 0) okX7_crowd rfl lkX7_74 caX7_refuse (Nat.le_of_ble_eq_true rfl) rfl (Nat.le_of_ble_eq_true rfl) rfl rfl rfl (c_refuse_2 hre) ?_
    rintro _ _ ⟨rfl, rfl⟩
    have hw : (wy_crowd x) = -2 := by unfold wy_crowd; (repeat' split) <;> omega
    exact b_ret (v := (some (.inl (-2)))) ⟨rfl, Or.inl rfl⟩ ⟨by rw [hw]; first | done | rfl, by rw [hw, bump_2]; exact cSt_of hp6 hd9 ⟨htp, rtp, htl9, hto, rto, htc, by rw [List.length_set]; exact hre⟩ hm hB hms hI hi01⟩ rfl
set_option maxRecDepth 100000 in
set_option maxHeartbeats 4000000 in
theorem r_easter {imt : Int} {tc : Nat} {k f c n kp l : List Int} {p : Nat} {t d : Int} {to re : List Int} {tl : Nat} {tp : List Int} {I : moT} {C6 : List (Option aE)} {h : aH} {N : Nat} (hS : cSt imt tc k f c n kp l p t d to re tl tp I C6 h) {x : Int} (hx : aI x) {y : Int} (hy : aI y) {z : Int} (hz : aI z) (hw0 : (wy_easter p x y z) ≠ 0) : aEv mX7_easter 6 0 0 N [.inr 0, .inl x, .inl y, .inl z] h (fun rv h2 => rv = some (.inl ((wy_easter p x y z))) ∧ cSt imt tc k f c n kp l p t d to (bump re (wy_easter p x y z)) tl tp I C6 h2) := by
  obtain ⟨hp6, hd9, hax, nt, w, sh, wa, B, z0, fs, ss, sp, la, gr, B4, hm, hB, hms, hI, hi01, rfl⟩ := hS
  obtain ⟨htp, rtp, htl9, hto, rto, htc, hre⟩ := id hax
  obtain ⟨hfs, hss, hsp, hla, hgr⟩ := id hms
  obtain ⟨⟨hp7, hk, hf, hc, hn, hkp, hl, rk, rf, rc, rn, rkp, rl, ht0, ht1, hd0, hd1⟩, ⟨hnt, znt⟩, ⟨hw, zw, zwa⟩, ⟨hsh, zsh⟩⟩ := id hm
  obtain ⟨hx1, hx2⟩ := hx
  obtain ⟨hy1, hy2⟩ := hy
  obtain ⟨hz1, hz2⟩ := hz
  refine aEv_of okX7_easter caX7_easter (Nat.le_of_ble_eq_true rfl) ?_
  refine aGo okX7_easter 4 (f' := (6, [some (.inr 0), some (.inl x), some (.inl y), some (.inl z)], [.inl y, .inl x, .inr 32], _)) rfl ?_
  by_cases hc6 : 0 ≤ x ∧ x < (p : Int) ∧ 0 ≤ y ∧ y < (p : Int) ∧ x ≠ y
  · refine b_vV (as := [.inl x, .inl y]) (rest := []) (k := 32) (.inl 1) okX7_easter rfl lkX7_126 caX3_areTwo (Nat.le_of_ble_eq_true rfl) rfl (Nat.le_of_ble_eq_true rfl) rfl rfl rfl (c_areTwo_1_t hp7 ⟨by omega, by omega⟩ ⟨by omega, by omega⟩ (by omega)) ?_
    refine b0_ne (tgt := 18) okX7_easter rfl rfl ⟨by omega, by omega⟩ (fun h9 => ?_) (fun h9 => absurd h9 (by omega))
    refine aGo okX7_easter 1 (f' := (19, [some (.inr 0), some (.inl x), some (.inl y), some (.inl z)], [.inl z], _)) rfl ?_
    refine b0_ge (tgt := 29) okX7_easter rfl rfl ⟨by omega, by omega⟩ (fun h19 => ?_) (fun h19 => ?_)
    · refine aGo okX7_easter 2 (f' := (32, [some (.inr 0), some (.inl x), some (.inl y), some (.inl z)], [.inl 99, .inl z], _)) rfl ?_
      refine b_le (tgt := 42) okX7_easter rfl rfl ⟨by omega, by omega⟩ ⟨by omega, by omega⟩ (fun h32 => ?_) (fun h32 => ?_)
      · refine aGo okX7_easter 5 (f' := (49, [some (.inr 0), some (.inl x), some (.inl y), some (.inl z)], [.inl z, .inl y, .inl x, .inr 96], _)) rfl ?_
        exact absurd (by unfold wy_easter; (repeat' split) <;> omega) hw0
      · refine aGo okX7_easter 2 (f' := (38, [some (.inr 0), some (.inl x), some (.inl y), some (.inl z)], [.inl (-6), .inr 0], _)) rfl ?_
        refine b_vE (as := [.inl (-6)]) (rest := []) (k := 0) okX7_easter rfl lkX7_74 caX7_refuse (Nat.le_of_ble_eq_true rfl) rfl (Nat.le_of_ble_eq_true rfl) rfl rfl rfl (c_refuse_6 hre) ?_
        rintro _ _ ⟨rfl, rfl⟩
        have hw : (wy_easter p x y z) = -6 := by unfold wy_easter; (repeat' split) <;> omega
        exact b_ret (v := (some (.inl (-6)))) ⟨rfl, Or.inl rfl⟩ ⟨by rw [hw]; first | done | rfl, by rw [hw, bump_6]; exact cSt_of hp6 hd9 ⟨htp, rtp, htl9, hto, rto, htc, by rw [List.length_set]; exact hre⟩ hm hB hms hI hi01⟩ rfl
    · refine aGo okX7_easter 2 (f' := (25, [some (.inr 0), some (.inl x), some (.inl y), some (.inl z)], [.inl (-4), .inr 0], _)) rfl ?_
      refine b_vE (as := [.inl (-4)]) (rest := []) (k := 0) okX7_easter rfl lkX7_74 caX7_refuse (Nat.le_of_ble_eq_true rfl) rfl (Nat.le_of_ble_eq_true rfl) rfl rfl rfl (c_refuse_4 hre) ?_
      rintro _ _ ⟨rfl, rfl⟩
      have hw : (wy_easter p x y z) = -4 := by unfold wy_easter; (repeat' split) <;> omega
      exact b_ret (v := (some (.inl (-4)))) ⟨rfl, Or.inl rfl⟩ ⟨by rw [hw]; first | done | rfl, by rw [hw, bump_4]; exact cSt_of hp6 hd9 ⟨htp, rtp, htl9, hto, rto, htc, by rw [List.length_set]; exact hre⟩ hm hB hms hI hi01⟩ rfl
  · refine b_vV (as := [.inl x, .inl y]) (rest := []) (k := 32) (.inl 0) okX7_easter rfl lkX7_126 caX3_areTwo (Nat.le_of_ble_eq_true rfl) rfl (Nat.le_of_ble_eq_true rfl) rfl rfl rfl (c_areTwo_1_f hp7 ⟨by omega, by omega⟩ ⟨by omega, by omega⟩ hc6) ?_
    refine b0_ne (tgt := 18) okX7_easter rfl rfl ⟨by omega, by omega⟩ (fun h9 => absurd h9 (by omega)) (fun h9 => ?_)
    refine aGo okX7_easter 2 (f' := (14, [some (.inr 0), some (.inl x), some (.inl y), some (.inl z)], [.inl (-1), .inr 0], _)) rfl ?_
    refine b_vE (as := [.inl (-1)]) (rest := []) (k := 0) okX7_easter rfl lkX7_74 caX7_refuse (Nat.le_of_ble_eq_true rfl) rfl (Nat.le_of_ble_eq_true rfl) rfl rfl rfl (c_refuse_1 hre) ?_
    rintro _ _ ⟨rfl, rfl⟩
    have hw : (wy_easter p x y z) = -1 := by unfold wy_easter; (repeat' split) <;> omega
    exact b_ret (v := (some (.inl (-1)))) ⟨rfl, Or.inl rfl⟩ ⟨by rw [hw]; first | done | rfl, by rw [hw, bump_1]; exact cSt_of hp6 hd9 ⟨htp, rtp, htl9, hto, rto, htc, by rw [List.length_set]; exact hre⟩ hm hB hms hI hi01⟩ rfl
set_option maxRecDepth 100000 in
set_option maxHeartbeats 4000000 in
theorem r_whatIs {imt : Int} {tc : Nat} {k f c n kp l : List Int} {p : Nat} {t d : Int} {to re : List Int} {tl : Nat} {tp : List Int} {I : moT} {C6 : List (Option aE)} {h : aH} {N : Nat} (hS : cSt imt tc k f c n kp l p t d to re tl tp I C6 h) {x : Int} (hx : aI x) {y : Int} (hy : aI y) (hw0 : (wy_whatIs tc p x y) ≠ 0) : aEv mX7_whatIs 6 0 0 N [.inr 0, .inl x, .inl y] h (fun rv h2 => rv = some (.inl ((wy_whatIs tc p x y))) ∧ cSt imt tc k f c n kp l p t d to (bump re (wy_whatIs tc p x y)) tl tp I C6 h2) := by
  obtain ⟨hp6, hd9, hax, nt, w, sh, wa, B, z0, fs, ss, sp, la, gr, B4, hm, hB, hms, hI, hi01, rfl⟩ := hS
  obtain ⟨htp, rtp, htl9, hto, rto, htc, hre⟩ := id hax
  obtain ⟨hfs, hss, hsp, hla, hgr⟩ := id hms
  obtain ⟨⟨hp7, hk, hf, hc, hn, hkp, hl, rk, rf, rc, rn, rkp, rl, ht0, ht1, hd0, hd1⟩, ⟨hnt, znt⟩, ⟨hw, zw, zwa⟩, ⟨hsh, zsh⟩⟩ := id hm
  obtain ⟨hx1, hx2⟩ := hx
  obtain ⟨hy1, hy2⟩ := hy
  refine aEv_of okX7_whatIs caX7_whatIs (Nat.le_of_ble_eq_true rfl) ?_
  refine aGo okX7_whatIs 3 (f' := (5, [some (.inr 0), some (.inl x), some (.inl y)], [.inl x, .inr 32], _)) rfl ?_
  by_cases hc5 : 0 ≤ x ∧ x < (p : Int)
  · refine b_vV (as := [.inl x]) (rest := []) (k := 32) (.inl 1) okX7_whatIs rfl lkX7_95 caX3_isThere (Nat.le_of_ble_eq_true rfl) rfl (Nat.le_of_ble_eq_true rfl) rfl rfl rfl (c_isThere_1_t (x := x) (by omega) hc5.1 hc5.2) ?_
    refine b0_ne (tgt := 17) okX7_whatIs rfl rfl ⟨by omega, by omega⟩ (fun h8 => ?_) (fun h8 => absurd h8 (by omega))
    refine aGo okX7_whatIs 1 (f' := (18, [some (.inr 0), some (.inl x), some (.inl y)], [.inl y], _)) rfl ?_
    refine b0_lt (tgt := 26) okX7_whatIs rfl rfl ⟨by omega, by omega⟩ (fun h18 => ?_) (fun h18 => ?_)
    · refine aGo okX7_whatIs 2 (f' := (29, [some (.inr 0), some (.inl x), some (.inl y)], [.inl (-2), .inr 0], _)) rfl ?_
      refine b_vE (as := [.inl (-2)]) (rest := []) (k := 0) okX7_whatIs rfl lkX7_74 caX7_refuse (Nat.le_of_ble_eq_true rfl) rfl (Nat.le_of_ble_eq_true rfl) rfl rfl rfl (c_refuse_2 hre) ?_
      rintro _ _ ⟨rfl, rfl⟩
      have hw : (wy_whatIs tc p x y) = -2 := by unfold wy_whatIs; (repeat' split) <;> omega
      exact b_ret (v := (some (.inl (-2)))) ⟨rfl, Or.inl rfl⟩ ⟨by rw [hw]; first | done | rfl, by rw [hw, bump_2]; exact cSt_of hp6 hd9 ⟨htp, rtp, htl9, hto, rto, htc, by rw [List.length_set]; exact hre⟩ hm hB hms hI hi01⟩ rfl
    · refine aGo okX7_whatIs 2 (f' := (23, [some (.inr 0), some (.inl x), some (.inl y)], [.inl 1, .inl y], _)) rfl ?_
      refine b_le (tgt := 33) okX7_whatIs rfl rfl ⟨by omega, by omega⟩ ⟨by omega, by omega⟩ (fun h23 => ?_) (fun h23 => ?_)
      · refine aGo okX7_whatIs 4 (f' := (41, [some (.inr 0), some (.inl x), some (.inl y)], [.inr 32, .inl (tc : Int)], _)) rfl ?_
        refine b_vV (as := []) (rest := [.inl (tc : Int)]) (k := 32) (.inl (p : Int)) okX7_whatIs rfl lkX7_199 caX3_people (Nat.le_of_ble_eq_true rfl) rfl (Nat.le_of_ble_eq_true rfl) rfl rfl rfl (c_people_1) ?_
        refine b_eq (tgt := 54) okX7_whatIs rfl rfl ⟨by omega, by omega⟩ ⟨by omega, by omega⟩ (fun h44 => ?_) (fun h44 => ?_)
        · refine aGo okX7_whatIs 1 (f' := (55, [some (.inr 0), some (.inl x), some (.inl y)], [.inl y], _)) rfl ?_
          refine b0_ne (tgt := 73) okX7_whatIs rfl rfl ⟨by omega, by omega⟩ (fun h55 => ?_) (fun h55 => ?_)
          · refine aGo okX7_whatIs 5 (f' := (82, [some (.inr 0), some (.inl x), some (.inl y)], [.inr 160, .inl x, .inr 97], _)) rfl ?_
            exact absurd (by unfold wy_whatIs; (repeat' split) <;> omega) hw0
          · refine aGo okX7_whatIs 5 (f' := (67, [some (.inr 0), some (.inl x), some (.inl y)], [.inr 160, .inl x, .inr 97], _)) rfl ?_
            exact absurd (by unfold wy_whatIs; (repeat' split) <;> omega) hw0
        · refine aGo okX7_whatIs 2 (f' := (50, [some (.inr 0), some (.inl x), some (.inl y)], [.inl (-3), .inr 0], _)) rfl ?_
          refine b_vE (as := [.inl (-3)]) (rest := []) (k := 0) okX7_whatIs rfl lkX7_74 caX7_refuse (Nat.le_of_ble_eq_true rfl) rfl (Nat.le_of_ble_eq_true rfl) rfl rfl rfl (c_refuse_3 hre) ?_
          rintro _ _ ⟨rfl, rfl⟩
          have hw : (wy_whatIs tc p x y) = -3 := by unfold wy_whatIs; (repeat' split) <;> omega
          exact b_ret (v := (some (.inl (-3)))) ⟨rfl, Or.inl rfl⟩ ⟨by rw [hw]; first | done | rfl, by rw [hw, bump_3]; exact cSt_of hp6 hd9 ⟨htp, rtp, htl9, hto, rto, htc, by rw [List.length_set]; exact hre⟩ hm hB hms hI hi01⟩ rfl
      · refine aGo okX7_whatIs 2 (f' := (29, [some (.inr 0), some (.inl x), some (.inl y)], [.inl (-2), .inr 0], _)) rfl ?_
        refine b_vE (as := [.inl (-2)]) (rest := []) (k := 0) okX7_whatIs rfl lkX7_74 caX7_refuse (Nat.le_of_ble_eq_true rfl) rfl (Nat.le_of_ble_eq_true rfl) rfl rfl rfl (c_refuse_2 hre) ?_
        rintro _ _ ⟨rfl, rfl⟩
        have hw : (wy_whatIs tc p x y) = -2 := by unfold wy_whatIs; (repeat' split) <;> omega
        exact b_ret (v := (some (.inl (-2)))) ⟨rfl, Or.inl rfl⟩ ⟨by rw [hw]; first | done | rfl, by rw [hw, bump_2]; exact cSt_of hp6 hd9 ⟨htp, rtp, htl9, hto, rto, htc, by rw [List.length_set]; exact hre⟩ hm hB hms hI hi01⟩ rfl
  · refine b_vV (as := [.inl x]) (rest := []) (k := 32) (.inl 0) okX7_whatIs rfl lkX7_95 caX3_isThere (Nat.le_of_ble_eq_true rfl) rfl (Nat.le_of_ble_eq_true rfl) rfl rfl rfl (c_isThere_1_f (x := x) (by omega) ⟨by omega, by omega⟩ hc5) ?_
    refine b0_ne (tgt := 17) okX7_whatIs rfl rfl ⟨by omega, by omega⟩ (fun h8 => absurd h8 (by omega)) (fun h8 => ?_)
    refine aGo okX7_whatIs 2 (f' := (13, [some (.inr 0), some (.inl x), some (.inl y)], [.inl (-1), .inr 0], _)) rfl ?_
    refine b_vE (as := [.inl (-1)]) (rest := []) (k := 0) okX7_whatIs rfl lkX7_74 caX7_refuse (Nat.le_of_ble_eq_true rfl) rfl (Nat.le_of_ble_eq_true rfl) rfl rfl rfl (c_refuse_1 hre) ?_
    rintro _ _ ⟨rfl, rfl⟩
    have hw : (wy_whatIs tc p x y) = -1 := by unfold wy_whatIs; (repeat' split) <;> omega
    exact b_ret (v := (some (.inl (-1)))) ⟨rfl, Or.inl rfl⟩ ⟨by rw [hw]; first | done | rfl, by rw [hw, bump_1]; exact cSt_of hp6 hd9 ⟨htp, rtp, htl9, hto, rto, htc, by rw [List.length_set]; exact hre⟩ hm hB hms hI hi01⟩ rfl
set_option maxRecDepth 100000 in
set_option maxHeartbeats 4000000 in
theorem r_row {imt : Int} {tc : Nat} {k f c n kp l : List Int} {p : Nat} {t d : Int} {to re : List Int} {tl : Nat} {tp : List Int} {I : moT} {C6 : List (Option aE)} {h : aH} {N : Nat} (hS : cSt imt tc k f c n kp l p t d to re tl tp I C6 h) {x : Int} (hx : aI x) (hw0 : (wy_row tc x) ≠ 0) : aEv mX7_row 2 0 0 N [.inr 0, .inl x] h (fun rv h2 => rv = some (.inl ((wy_row tc x))) ∧ cSt imt tc k f c n kp l p t d to (bump re (wy_row tc x)) tl tp I C6 h2) := by
  obtain ⟨hp6, hd9, hax, nt, w, sh, wa, B, z0, fs, ss, sp, la, gr, B4, hm, hB, hms, hI, hi01, rfl⟩ := hS
  obtain ⟨htp, rtp, htl9, hto, rto, htc, hre⟩ := id hax
  obtain ⟨hfs, hss, hsp, hla, hgr⟩ := id hms
  obtain ⟨⟨hp7, hk, hf, hc, hn, hkp, hl, rk, rf, rc, rn, rkp, rl, ht0, ht1, hd0, hd1⟩, ⟨hnt, znt⟩, ⟨hw, zw, zwa⟩, ⟨hsh, zsh⟩⟩ := id hm
  obtain ⟨hx1, hx2⟩ := hx
  refine aEv_of okX7_row caX7_row (Nat.le_of_ble_eq_true rfl) ?_
  refine aGo okX7_row 1 (f' := (1, [some (.inr 0), some (.inl x)], [.inl x], _)) rfl ?_
  refine b0_ge (tgt := 11) okX7_row rfl rfl ⟨by omega, by omega⟩ (fun h1 => ?_) (fun h1 => ?_)
  · refine aGo okX7_row 2 (f' := (14, [some (.inr 0), some (.inl x)], [.inl 99, .inl x], _)) rfl ?_
    refine b_gt (tgt := 26) okX7_row rfl rfl ⟨by omega, by omega⟩ ⟨by omega, by omega⟩ (fun h14 => ?_) (fun h14 => ?_)
    · refine aGo okX7_row 2 (f' := (29, [some (.inr 0), some (.inl x)], [.inl (-6), .inr 0], _)) rfl ?_
      refine b_vE (as := [.inl (-6)]) (rest := []) (k := 0) okX7_row rfl lkX7_74 caX7_refuse (Nat.le_of_ble_eq_true rfl) rfl (Nat.le_of_ble_eq_true rfl) rfl rfl rfl (c_refuse_6 hre) ?_
      rintro _ _ ⟨rfl, rfl⟩
      have hw : (wy_row tc x) = -6 := by unfold wy_row; (repeat' split) <;> omega
      exact b_ret (v := (some (.inl (-6)))) ⟨rfl, Or.inl rfl⟩ ⟨by rw [hw]; first | done | rfl, by rw [hw, bump_6]; exact cSt_of hp6 hd9 ⟨htp, rtp, htl9, hto, rto, htc, by rw [List.length_set]; exact hre⟩ hm hB hms hI hi01⟩ rfl
    · refine aGo okX7_row 3 (f' := (23, [some (.inr 0), some (.inl x)], [.inl 12, .inl (tc : Int)], _)) rfl ?_
      refine b_lt (tgt := 33) okX7_row rfl rfl ⟨by omega, by omega⟩ ⟨by omega, by omega⟩ (fun h23 => ?_) (fun h23 => ?_)
      · exact absurd (by unfold wy_row; (repeat' split) <;> omega) hw0
      · refine aGo okX7_row 2 (f' := (29, [some (.inr 0), some (.inl x)], [.inl (-6), .inr 0], _)) rfl ?_
        refine b_vE (as := [.inl (-6)]) (rest := []) (k := 0) okX7_row rfl lkX7_74 caX7_refuse (Nat.le_of_ble_eq_true rfl) rfl (Nat.le_of_ble_eq_true rfl) rfl rfl rfl (c_refuse_6 hre) ?_
        rintro _ _ ⟨rfl, rfl⟩
        have hw : (wy_row tc x) = -6 := by unfold wy_row; (repeat' split) <;> omega
        exact b_ret (v := (some (.inl (-6)))) ⟨rfl, Or.inl rfl⟩ ⟨by rw [hw]; first | done | rfl, by rw [hw, bump_6]; exact cSt_of hp6 hd9 ⟨htp, rtp, htl9, hto, rto, htc, by rw [List.length_set]; exact hre⟩ hm hB hms hI hi01⟩ rfl
  · refine aGo okX7_row 2 (f' := (7, [some (.inr 0), some (.inl x)], [.inl (-4), .inr 0], _)) rfl ?_
    refine b_vE (as := [.inl (-4)]) (rest := []) (k := 0) okX7_row rfl lkX7_74 caX7_refuse (Nat.le_of_ble_eq_true rfl) rfl (Nat.le_of_ble_eq_true rfl) rfl rfl rfl (c_refuse_4 hre) ?_
    rintro _ _ ⟨rfl, rfl⟩
    have hw : (wy_row tc x) = -4 := by unfold wy_row; (repeat' split) <;> omega
    exact b_ret (v := (some (.inl (-4)))) ⟨rfl, Or.inl rfl⟩ ⟨by rw [hw]; first | done | rfl, by rw [hw, bump_4]; exact cSt_of hp6 hd9 ⟨htp, rtp, htl9, hto, rto, htc, by rw [List.length_set]; exact hre⟩ hm hB hms hI hi01⟩ rfl
set_option maxRecDepth 100000 in
set_option maxHeartbeats 4000000 in
theorem r_judge {imt : Int} {tc : Nat} {k f c n kp l : List Int} {p : Nat} {t d : Int} {to re : List Int} {tl : Nat} {tp : List Int} {I : moT} {C6 : List (Option aE)} {h : aH} {N : Nat} (hS : cSt imt tc k f c n kp l p t d to re tl tp I C6 h) {x : Int} (hx : aI x) (hw0 : (wy_judge p x) ≠ 0) : aEv mX7_judge 4 0 0 N [.inr 0, .inl x] h (fun rv h2 => rv = some (.inl ((wy_judge p x))) ∧ cSt imt tc k f c n kp l p t d to (bump re (wy_judge p x)) tl tp I C6 h2) := by
  obtain ⟨hp6, hd9, hax, nt, w, sh, wa, B, z0, fs, ss, sp, la, gr, B4, hm, hB, hms, hI, hi01, rfl⟩ := hS
  obtain ⟨htp, rtp, htl9, hto, rto, htc, hre⟩ := id hax
  obtain ⟨hfs, hss, hsp, hla, hgr⟩ := id hms
  obtain ⟨⟨hp7, hk, hf, hc, hn, hkp, hl, rk, rf, rc, rn, rkp, rl, ht0, ht1, hd0, hd1⟩, ⟨hnt, znt⟩, ⟨hw, zw, zwa⟩, ⟨hsh, zsh⟩⟩ := id hm
  obtain ⟨hx1, hx2⟩ := hx
  refine aEv_of okX7_judge caX7_judge (Nat.le_of_ble_eq_true rfl) ?_
  refine aGo okX7_judge 3 (f' := (5, [some (.inr 0), some (.inl x), none], [.inl x, .inr 32], _)) rfl ?_
  by_cases hc5 : 0 ≤ x ∧ x < (p : Int)
  · refine b_vV (as := [.inl x]) (rest := []) (k := 32) (.inl 1) okX7_judge rfl lkX7_95 caX3_isThere (Nat.le_of_ble_eq_true rfl) rfl (Nat.le_of_ble_eq_true rfl) rfl rfl rfl (c_isThere_1_t (x := x) (by omega) hc5.1 hc5.2) ?_
    refine b0_ne (tgt := 17) okX7_judge rfl rfl ⟨by omega, by omega⟩ (fun h8 => ?_) (fun h8 => absurd h8 (by omega))
    refine aGo okX7_judge 7 (f' := (30, [some (.inr 0), some (.inl x), none], [.inl (tc : Int), .inr 160, .inl x, .inr 96], _)) rfl ?_
    exact absurd (by unfold wy_judge; (repeat' split) <;> omega) hw0
  · refine b_vV (as := [.inl x]) (rest := []) (k := 32) (.inl 0) okX7_judge rfl lkX7_95 caX3_isThere (Nat.le_of_ble_eq_true rfl) rfl (Nat.le_of_ble_eq_true rfl) rfl rfl rfl (c_isThere_1_f (x := x) (by omega) ⟨by omega, by omega⟩ hc5) ?_
    refine b0_ne (tgt := 17) okX7_judge rfl rfl ⟨by omega, by omega⟩ (fun h8 => absurd h8 (by omega)) (fun h8 => ?_)
    refine aGo okX7_judge 2 (f' := (13, [some (.inr 0), some (.inl x), none], [.inl (-1), .inr 0], _)) rfl ?_
    refine b_vE (as := [.inl (-1)]) (rest := []) (k := 0) okX7_judge rfl lkX7_74 caX7_refuse (Nat.le_of_ble_eq_true rfl) rfl (Nat.le_of_ble_eq_true rfl) rfl rfl rfl (c_refuse_1 hre) ?_
    rintro _ _ ⟨rfl, rfl⟩
    have hw : (wy_judge p x) = -1 := by unfold wy_judge; (repeat' split) <;> omega
    exact b_ret (v := (some (.inl (-1)))) ⟨rfl, Or.inl rfl⟩ ⟨by rw [hw]; first | done | rfl, by rw [hw, bump_1]; exact cSt_of hp6 hd9 ⟨htp, rtp, htl9, hto, rto, htc, by rw [List.length_set]; exact hre⟩ hm hB hms hI hi01⟩ rfl
set_option maxRecDepth 100000 in
set_option maxHeartbeats 4000000 in
theorem r_lots {imt : Int} {tc : Nat} {k f c n kp l : List Int} {p : Nat} {t d : Int} {to re : List Int} {tl : Nat} {tp : List Int} {I : moT} {C6 : List (Option aE)} {h : aH} {N : Nat} (hS : cSt imt tc k f c n kp l p t d to re tl tp I C6 h) {x : Int} (hx : aI x) {y : Int} (hy : aI y) {z : Int} (hz : aI z) (hw0 : (wy_lots p x y z) ≠ 0) : aEv mX7_lots 7 0 0 N [.inr 0, .inl x, .inl y, .inl z] h (fun rv h2 => rv = some (.inl ((wy_lots p x y z))) ∧ cSt imt tc k f c n kp l p t d to (bump re (wy_lots p x y z)) tl tp I C6 h2) := by
  obtain ⟨hp6, hd9, hax, nt, w, sh, wa, B, z0, fs, ss, sp, la, gr, B4, hm, hB, hms, hI, hi01, rfl⟩ := hS
  obtain ⟨htp, rtp, htl9, hto, rto, htc, hre⟩ := id hax
  obtain ⟨hfs, hss, hsp, hla, hgr⟩ := id hms
  obtain ⟨⟨hp7, hk, hf, hc, hn, hkp, hl, rk, rf, rc, rn, rkp, rl, ht0, ht1, hd0, hd1⟩, ⟨hnt, znt⟩, ⟨hw, zw, zwa⟩, ⟨hsh, zsh⟩⟩ := id hm
  obtain ⟨hx1, hx2⟩ := hx
  obtain ⟨hy1, hy2⟩ := hy
  obtain ⟨hz1, hz2⟩ := hz
  refine aEv_of okX7_lots caX7_lots (Nat.le_of_ble_eq_true rfl) ?_
  refine aGo okX7_lots 2 (f' := (2, [some (.inr 0), some (.inl x), some (.inl y), some (.inl z)], [.inl 1, .inl x], _)) rfl ?_
  refine b_ge (tgt := 12) okX7_lots rfl rfl ⟨by omega, by omega⟩ ⟨by omega, by omega⟩ (fun h2 => ?_) (fun h2 => ?_)
  · refine aGo okX7_lots 2 (f' := (15, [some (.inr 0), some (.inl x), some (.inl y), some (.inl z)], [.inl 20, .inl x], _)) rfl ?_
    refine b_le (tgt := 25) okX7_lots rfl rfl ⟨by omega, by omega⟩ ⟨by omega, by omega⟩ (fun h15 => ?_) (fun h15 => ?_)
    · refine aGo okX7_lots 1 (f' := (26, [some (.inr 0), some (.inl x), some (.inl y), some (.inl z)], [.inl z], _)) rfl ?_
      refine b0_lt (tgt := 34) okX7_lots rfl rfl ⟨by omega, by omega⟩ (fun h26 => ?_) (fun h26 => ?_)
      · refine aGo okX7_lots 2 (f' := (37, [some (.inr 0), some (.inl x), some (.inl y), some (.inl z)], [.inl (-2), .inr 0], _)) rfl ?_
        refine b_vE (as := [.inl (-2)]) (rest := []) (k := 0) okX7_lots rfl lkX7_74 caX7_refuse (Nat.le_of_ble_eq_true rfl) rfl (Nat.le_of_ble_eq_true rfl) rfl rfl rfl (c_refuse_2 hre) ?_
        rintro _ _ ⟨rfl, rfl⟩
        have hw : (wy_lots p x y z) = -2 := by unfold wy_lots; (repeat' split) <;> omega
        exact b_ret (v := (some (.inl (-2)))) ⟨rfl, Or.inl rfl⟩ ⟨by rw [hw]; first | done | rfl, by rw [hw, bump_2]; exact cSt_of hp6 hd9 ⟨htp, rtp, htl9, hto, rto, htc, by rw [List.length_set]; exact hre⟩ hm hB hms hI hi01⟩ rfl
      · refine aGo okX7_lots 2 (f' := (31, [some (.inr 0), some (.inl x), some (.inl y), some (.inl z)], [.inl 1, .inl z], _)) rfl ?_
        refine b_le (tgt := 41) okX7_lots rfl rfl ⟨by omega, by omega⟩ ⟨by omega, by omega⟩ (fun h31 => ?_) (fun h31 => ?_)
        · refine aGo okX7_lots 2 (f' := (45, [some (.inr 0), some (.inl x), some (.inl y), some (.inl z)], [.inr 32], _)) rfl ?_
          refine b_vV (as := []) (rest := []) (k := 32) (.inl (p : Int)) okX7_lots rfl lkX7_199 caX3_people (Nat.le_of_ble_eq_true rfl) rfl (Nat.le_of_ble_eq_true rfl) rfl rfl rfl (c_people_1) ?_
          refine aGo okX7_lots 1 (f' := (49, [some (.inr 0), some (.inl x), some (.inl y), some (.inl z)], [.inl 1, .inl (p : Int)], _)) rfl ?_
          refine b_ge (tgt := 59) okX7_lots rfl rfl ⟨by omega, by omega⟩ ⟨by omega, by omega⟩ (fun h49 => ?_) (fun h49 => ?_)
          · refine aGo okX7_lots 1 (f' := (60, [some (.inr 0), some (.inl x), some (.inl y), some (.inl z)], [.inl z], _)) rfl ?_
            refine b0_ne (tgt := 75) okX7_lots rfl rfl ⟨by omega, by omega⟩ (fun h60 => ?_) (fun h60 => ?_)
            · refine aGo okX7_lots 4 (f' := (81, [some (.inr 0), some (.inl x), some (.inl y), some (.inl z)], [.inl y, .inl x, .inr 97], _)) rfl ?_
              exact absurd (by unfold wy_lots; (repeat' split) <;> omega) hw0
            · refine aGo okX7_lots 4 (f' := (69, [some (.inr 0), some (.inl x), some (.inl y), some (.inl z)], [.inl y, .inl x, .inr 97], _)) rfl ?_
              exact absurd (by unfold wy_lots; (repeat' split) <;> omega) hw0
          · refine aGo okX7_lots 2 (f' := (55, [some (.inr 0), some (.inl x), some (.inl y), some (.inl z)], [.inl (-3), .inr 0], _)) rfl ?_
            refine b_vE (as := [.inl (-3)]) (rest := []) (k := 0) okX7_lots rfl lkX7_74 caX7_refuse (Nat.le_of_ble_eq_true rfl) rfl (Nat.le_of_ble_eq_true rfl) rfl rfl rfl (c_refuse_3 hre) ?_
            rintro _ _ ⟨rfl, rfl⟩
            have hw : (wy_lots p x y z) = -3 := by unfold wy_lots; (repeat' split) <;> omega
            exact b_ret (v := (some (.inl (-3)))) ⟨rfl, Or.inl rfl⟩ ⟨by rw [hw]; first | done | rfl, by rw [hw, bump_3]; exact cSt_of hp6 hd9 ⟨htp, rtp, htl9, hto, rto, htc, by rw [List.length_set]; exact hre⟩ hm hB hms hI hi01⟩ rfl
        · refine aGo okX7_lots 2 (f' := (37, [some (.inr 0), some (.inl x), some (.inl y), some (.inl z)], [.inl (-2), .inr 0], _)) rfl ?_
          refine b_vE (as := [.inl (-2)]) (rest := []) (k := 0) okX7_lots rfl lkX7_74 caX7_refuse (Nat.le_of_ble_eq_true rfl) rfl (Nat.le_of_ble_eq_true rfl) rfl rfl rfl (c_refuse_2 hre) ?_
          rintro _ _ ⟨rfl, rfl⟩
          have hw : (wy_lots p x y z) = -2 := by unfold wy_lots; (repeat' split) <;> omega
          exact b_ret (v := (some (.inl (-2)))) ⟨rfl, Or.inl rfl⟩ ⟨by rw [hw]; first | done | rfl, by rw [hw, bump_2]; exact cSt_of hp6 hd9 ⟨htp, rtp, htl9, hto, rto, htc, by rw [List.length_set]; exact hre⟩ hm hB hms hI hi01⟩ rfl
    · refine aGo okX7_lots 2 (f' := (21, [some (.inr 0), some (.inl x), some (.inl y), some (.inl z)], [.inl (-6), .inr 0], _)) rfl ?_
      refine b_vE (as := [.inl (-6)]) (rest := []) (k := 0) okX7_lots rfl lkX7_74 caX7_refuse (Nat.le_of_ble_eq_true rfl) rfl (Nat.le_of_ble_eq_true rfl) rfl rfl rfl (c_refuse_6 hre) ?_
      rintro _ _ ⟨rfl, rfl⟩
      have hw : (wy_lots p x y z) = -6 := by unfold wy_lots; (repeat' split) <;> omega
      exact b_ret (v := (some (.inl (-6)))) ⟨rfl, Or.inl rfl⟩ ⟨by rw [hw]; first | done | rfl, by rw [hw, bump_6]; exact cSt_of hp6 hd9 ⟨htp, rtp, htl9, hto, rto, htc, by rw [List.length_set]; exact hre⟩ hm hB hms hI hi01⟩ rfl
  · refine aGo okX7_lots 2 (f' := (8, [some (.inr 0), some (.inl x), some (.inl y), some (.inl z)], [.inl (-4), .inr 0], _)) rfl ?_
    refine b_vE (as := [.inl (-4)]) (rest := []) (k := 0) okX7_lots rfl lkX7_74 caX7_refuse (Nat.le_of_ble_eq_true rfl) rfl (Nat.le_of_ble_eq_true rfl) rfl rfl rfl (c_refuse_4 hre) ?_
    rintro _ _ ⟨rfl, rfl⟩
    have hw : (wy_lots p x y z) = -4 := by unfold wy_lots; (repeat' split) <;> omega
    exact b_ret (v := (some (.inl (-4)))) ⟨rfl, Or.inl rfl⟩ ⟨by rw [hw]; first | done | rfl, by rw [hw, bump_4]; exact cSt_of hp6 hd9 ⟨htp, rtp, htl9, hto, rto, htc, by rw [List.length_set]; exact hre⟩ hm hB hms hI hi01⟩ rfl
set_option maxRecDepth 100000 in
set_option maxHeartbeats 4000000 in
theorem r_on {imt : Int} {tc : Nat} {k f c n kp l : List Int} {p : Nat} {t d : Int} {to re : List Int} {tl : Nat} {tp : List Int} {I : moT} {C6 : List (Option aE)} {h : aH} {N : Nat} (hS : cSt imt tc k f c n kp l p t d to re tl tp I C6 h) (hw0 : (wy_on imt) ≠ 0) : aEv mX7_on 3 0 0 N [.inr 0] h (fun rv h2 => rv = some (.inl ((wy_on imt))) ∧ cSt imt tc k f c n kp l p t d to (bump re (wy_on imt)) tl tp I C6 h2) := by
  obtain ⟨hp6, hd9, hax, nt, w, sh, wa, B, z0, fs, ss, sp, la, gr, B4, hm, hB, hms, hI, hi01, rfl⟩ := hS
  obtain ⟨htp, rtp, htl9, hto, rto, htc, hre⟩ := id hax
  obtain ⟨hfs, hss, hsp, hla, hgr⟩ := id hms
  obtain ⟨⟨hp7, hk, hf, hc, hn, hkp, hl, rk, rf, rc, rn, rkp, rl, ht0, ht1, hd0, hd1⟩, ⟨hnt, znt⟩, ⟨hw, zw, zwa⟩, ⟨hsh, zsh⟩⟩ := id hm
  refine aEv_of okX7_on caX7_on (Nat.le_of_ble_eq_true rfl) ?_
  refine aGo okX7_on 2 (f' := (4, [some (.inr 0)], [.inl imt], _)) rfl ?_
  refine b0_ne (tgt := 14) okX7_on rfl rfl ⟨by omega, by omega⟩ (fun h4 => ?_) (fun h4 => ?_)
  · exact absurd (by unfold wy_on; (repeat' split) <;> omega) hw0
  · refine aGo okX7_on 2 (f' := (10, [some (.inr 0)], [.inl (-3), .inr 0], _)) rfl ?_
    refine b_vE (as := [.inl (-3)]) (rest := []) (k := 0) okX7_on rfl lkX7_74 caX7_refuse (Nat.le_of_ble_eq_true rfl) rfl (Nat.le_of_ble_eq_true rfl) rfl rfl rfl (c_refuse_3 hre) ?_
    rintro _ _ ⟨rfl, rfl⟩
    have hw : (wy_on imt) = -3 := by unfold wy_on; (repeat' split) <;> omega
    exact b_ret (v := (some (.inl (-3)))) ⟨rfl, Or.inl rfl⟩ ⟨by rw [hw]; first | done | rfl, by rw [hw, bump_3]; exact cSt_of hp6 hd9 ⟨htp, rtp, htl9, hto, rto, htc, by rw [List.length_set]; exact hre⟩ hm hB hms hI hi01⟩ rfl
