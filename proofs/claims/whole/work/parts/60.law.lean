/-! The law's body; laid by gen_law.py -/
def QL : Option aV → aH → Prop := fun v _ => v = some (.inl 1)
set_option maxRecDepth 100000 in
theorem la_letter {L n i : Nat} {xs : Nat → Int32} {h : aH} (hi : i + 5 ≤ L) (hL : L ≤ 2560) (hh : LI h) (K : ∀ h2, LI h2 → AW mL_law 12 0 0 n (some (L, xs)) QL (1224, [some (.inr 1024), some (.inr 0), some (.inr 192), some (.inl (i : Int))], [], h2)) : AW mL_law 12 0 0 n (some (L, xs)) QL (200, [some (.inr 1024), some (.inr 0), some (.inr 192), some (.inl (i : Int))], [], h) := by
  obtain ⟨V, Q1, e1, ⟨fs0, hk0⟩, e2⟩ := ag_letter n (xs (i + 1)) h hh
  refine aGo okL_law 5 (f' := (205, [some (.inr 1024), some (.inr 0), some (.inr 192), some (.inl (i : Int))], [.inl ((i : Int) + 1), .inr 1024, .inr 0], h)) rfl ?_
  refine b_sld (j := i + 1) okL_law rfl rfl (by omega) (by omega) (by omega) ?_
  refine b_vE (as := [.inl (xs (i + 1)).toInt]) (rest := []) (k := 0) okL_law rfl lkL_13 caX7_letter (Nat.le_of_ble_eq_true rfl) rfl (Nat.le_of_ble_eq_true rfl) hk0 rfl rfl e1 ?_
  rintro _ h2 ⟨rfl, hq⟩
  obtain ⟨⟨fs1, hk1⟩, e3⟩ := e2 h2 hq
  refine b_cast (f' := (209, [some (.inr 1024), some (.inr 0), some (.inr 192), some (.inl (i : Int))], [.inl V], h2)) rfl ?_
  refine aGo okL_law 5 (f' := (214, [some (.inr 1024), some (.inr 0), some (.inr 192), some (.inl (i : Int))], [.inl ((i : Int) + 1), .inr 1024, .inr 192, .inl V], h2)) rfl ?_
  refine b_sld (j := i + 1) okL_law rfl rfl (by omega) (by omega) (by omega) ?_
  refine b_vE (as := [.inl (xs (i + 1)).toInt]) (rest := [.inl V]) (k := 192) okL_law rfl lkL_17 caX8_letter (Nat.le_of_ble_eq_true rfl) rfl (Nat.le_of_ble_eq_true rfl) hk1 rfl rfl e3 ?_
  rintro _ h3 ⟨rfl, hl3⟩
  refine b_cast (f' := (218, [some (.inr 1024), some (.inr 0), some (.inr 192), some (.inl (i : Int))], [.inl V, .inl V], h3)) rfl ?_
  exact b_same (tgt := 1224) okL_law rfl rfl rfl (K h3 hl3)
set_option maxRecDepth 100000 in
theorem la_moor {L n i : Nat} {xs : Nat → Int32} {h : aH} (hi : i + 5 ≤ L) (hL : L ≤ 2560) (hh : LI h) (K : ∀ h2, LI h2 → AW mL_law 12 0 0 n (some (L, xs)) QL (1224, [some (.inr 1024), some (.inr 0), some (.inr 192), some (.inl (i : Int))], [], h2)) : AW mL_law 12 0 0 n (some (L, xs)) QL (223, [some (.inr 1024), some (.inr 0), some (.inr 192), some (.inl (i : Int))], [], h) := by
  obtain ⟨V, Q1, e1, ⟨fs0, hk0⟩, e2⟩ := ag_moor n h hh
  refine aGo okL_law 1 (f' := (224, [some (.inr 1024), some (.inr 0), some (.inr 192), some (.inl (i : Int))], [.inr 0], h)) rfl ?_
  refine b_vE (as := []) (rest := []) (k := 0) okL_law rfl lkL_18 caX7_moor (Nat.le_of_ble_eq_true rfl) rfl (Nat.le_of_ble_eq_true rfl) hk0 rfl rfl e1 ?_
  rintro _ h2 ⟨rfl, hq⟩
  obtain ⟨⟨fs1, hk1⟩, e3⟩ := e2 h2 hq
  refine b_cast (f' := (227, [some (.inr 1024), some (.inr 0), some (.inr 192), some (.inl (i : Int))], [.inl V], h2)) rfl ?_
  refine aGo okL_law 1 (f' := (228, [some (.inr 1024), some (.inr 0), some (.inr 192), some (.inl (i : Int))], [.inr 192, .inl V], h2)) rfl ?_
  refine b_vE (as := []) (rest := [.inl V]) (k := 192) okL_law rfl lkL_22 caX8_moor (Nat.le_of_ble_eq_true rfl) rfl (Nat.le_of_ble_eq_true rfl) hk1 rfl rfl e3 ?_
  rintro _ h3 ⟨rfl, hl3⟩
  refine b_cast (f' := (231, [some (.inr 1024), some (.inr 0), some (.inr 192), some (.inl (i : Int))], [.inl V, .inl V], h3)) rfl ?_
  exact b_same (tgt := 1224) okL_law rfl rfl rfl (K h3 hl3)
set_option maxRecDepth 100000 in
theorem la_person {L n i : Nat} {xs : Nat → Int32} {h : aH} (hi : i + 5 ≤ L) (hL : L ≤ 2560) (hh : LI h) (K : ∀ h2, LI h2 → AW mL_law 12 0 0 n (some (L, xs)) QL (1224, [some (.inr 1024), some (.inr 0), some (.inr 192), some (.inl (i : Int))], [], h2)) : AW mL_law 12 0 0 n (some (L, xs)) QL (236, [some (.inr 1024), some (.inr 0), some (.inr 192), some (.inl (i : Int))], [], h) := by
  obtain ⟨V, Q1, e1, ⟨fs0, hk0⟩, e2⟩ := ag_person n (xs (i + 1)) (xs (i + 2)) h hh
  refine aGo okL_law 5 (f' := (241, [some (.inr 1024), some (.inr 0), some (.inr 192), some (.inl (i : Int))], [.inl ((i : Int) + 1), .inr 1024, .inr 0], h)) rfl ?_
  refine b_sld (j := i + 1) okL_law rfl rfl (by omega) (by omega) (by omega) ?_
  refine aGo okL_law 4 (f' := (246, [some (.inr 1024), some (.inr 0), some (.inr 192), some (.inl (i : Int))], [.inl ((i : Int) + 2), .inr 1024, .inl (xs (i + 1)).toInt, .inr 0], h)) rfl ?_
  refine b_sld (j := i + 2) okL_law rfl rfl (by omega) (by omega) (by omega) ?_
  refine b_vE (as := [.inl (xs (i + 1)).toInt, .inl (xs (i + 2)).toInt]) (rest := []) (k := 0) okL_law rfl lkL_23 caX7_person (Nat.le_of_ble_eq_true rfl) rfl (Nat.le_of_ble_eq_true rfl) hk0 rfl rfl e1 ?_
  rintro _ h2 ⟨rfl, hq⟩
  obtain ⟨⟨fs1, hk1⟩, e3⟩ := e2 h2 hq
  refine b_cast (f' := (250, [some (.inr 1024), some (.inr 0), some (.inr 192), some (.inl (i : Int))], [.inl V], h2)) rfl ?_
  refine aGo okL_law 5 (f' := (255, [some (.inr 1024), some (.inr 0), some (.inr 192), some (.inl (i : Int))], [.inl ((i : Int) + 1), .inr 1024, .inr 192, .inl V], h2)) rfl ?_
  refine b_sld (j := i + 1) okL_law rfl rfl (by omega) (by omega) (by omega) ?_
  refine aGo okL_law 4 (f' := (260, [some (.inr 1024), some (.inr 0), some (.inr 192), some (.inl (i : Int))], [.inl ((i : Int) + 2), .inr 1024, .inl (xs (i + 1)).toInt, .inr 192, .inl V], h2)) rfl ?_
  refine b_sld (j := i + 2) okL_law rfl rfl (by omega) (by omega) (by omega) ?_
  refine b_vE (as := [.inl (xs (i + 1)).toInt, .inl (xs (i + 2)).toInt]) (rest := [.inl V]) (k := 192) okL_law rfl lkL_27 caX8_person (Nat.le_of_ble_eq_true rfl) rfl (Nat.le_of_ble_eq_true rfl) hk1 rfl rfl e3 ?_
  rintro _ h3 ⟨rfl, hl3⟩
  refine b_cast (f' := (264, [some (.inr 1024), some (.inr 0), some (.inr 192), some (.inl (i : Int))], [.inl V, .inl V], h3)) rfl ?_
  exact b_same (tgt := 1224) okL_law rfl rfl rfl (K h3 hl3)
set_option maxRecDepth 100000 in
theorem la_owns {L n i : Nat} {xs : Nat → Int32} {h : aH} (hi : i + 5 ≤ L) (hL : L ≤ 2560) (hh : LI h) (K : ∀ h2, LI h2 → AW mL_law 12 0 0 n (some (L, xs)) QL (1224, [some (.inr 1024), some (.inr 0), some (.inr 192), some (.inl (i : Int))], [], h2)) : AW mL_law 12 0 0 n (some (L, xs)) QL (269, [some (.inr 1024), some (.inr 0), some (.inr 192), some (.inl (i : Int))], [], h) := by
  obtain ⟨V, Q1, e1, ⟨fs0, hk0⟩, e2⟩ := ag_owns n (xs (i + 1)) h hh
  refine aGo okL_law 5 (f' := (274, [some (.inr 1024), some (.inr 0), some (.inr 192), some (.inl (i : Int))], [.inl ((i : Int) + 1), .inr 1024, .inr 0], h)) rfl ?_
  refine b_sld (j := i + 1) okL_law rfl rfl (by omega) (by omega) (by omega) ?_
  refine b_vE (as := [.inl (xs (i + 1)).toInt]) (rest := []) (k := 0) okL_law rfl lkL_28 caX7_owns (Nat.le_of_ble_eq_true rfl) rfl (Nat.le_of_ble_eq_true rfl) hk0 rfl rfl e1 ?_
  rintro _ h2 ⟨rfl, hq⟩
  obtain ⟨⟨fs1, hk1⟩, e3⟩ := e2 h2 hq
  refine b_cast (f' := (278, [some (.inr 1024), some (.inr 0), some (.inr 192), some (.inl (i : Int))], [.inl V], h2)) rfl ?_
  refine aGo okL_law 5 (f' := (283, [some (.inr 1024), some (.inr 0), some (.inr 192), some (.inl (i : Int))], [.inl ((i : Int) + 1), .inr 1024, .inr 192, .inl V], h2)) rfl ?_
  refine b_sld (j := i + 1) okL_law rfl rfl (by omega) (by omega) (by omega) ?_
  refine b_vE (as := [.inl (xs (i + 1)).toInt]) (rest := [.inl V]) (k := 192) okL_law rfl lkL_31 caX8_owns (Nat.le_of_ble_eq_true rfl) rfl (Nat.le_of_ble_eq_true rfl) hk1 rfl rfl e3 ?_
  rintro _ h3 ⟨rfl, hl3⟩
  refine b_cast (f' := (287, [some (.inr 1024), some (.inr 0), some (.inr 192), some (.inl (i : Int))], [.inl V, .inl V], h3)) rfl ?_
  exact b_same (tgt := 1224) okL_law rfl rfl rfl (K h3 hl3)
set_option maxRecDepth 100000 in
theorem la_loan {L n i : Nat} {xs : Nat → Int32} {h : aH} (hi : i + 5 ≤ L) (hL : L ≤ 2560) (hh : LI h) (K : ∀ h2, LI h2 → AW mL_law 12 0 0 n (some (L, xs)) QL (1224, [some (.inr 1024), some (.inr 0), some (.inr 192), some (.inl (i : Int))], [], h2)) : AW mL_law 12 0 0 n (some (L, xs)) QL (292, [some (.inr 1024), some (.inr 0), some (.inr 192), some (.inl (i : Int))], [], h) := by
  obtain ⟨V, Q1, e1, ⟨fs0, hk0⟩, e2⟩ := ag_loan n (xs (i + 1)) (xs (i + 2)) h hh
  refine aGo okL_law 5 (f' := (297, [some (.inr 1024), some (.inr 0), some (.inr 192), some (.inl (i : Int))], [.inl ((i : Int) + 1), .inr 1024, .inr 0], h)) rfl ?_
  refine b_sld (j := i + 1) okL_law rfl rfl (by omega) (by omega) (by omega) ?_
  refine aGo okL_law 4 (f' := (302, [some (.inr 1024), some (.inr 0), some (.inr 192), some (.inl (i : Int))], [.inl ((i : Int) + 2), .inr 1024, .inl (xs (i + 1)).toInt, .inr 0], h)) rfl ?_
  refine b_sld (j := i + 2) okL_law rfl rfl (by omega) (by omega) (by omega) ?_
  refine b_vE (as := [.inl (xs (i + 1)).toInt, .inl (xs (i + 2)).toInt]) (rest := []) (k := 0) okL_law rfl lkL_32 caX7_loan (Nat.le_of_ble_eq_true rfl) rfl (Nat.le_of_ble_eq_true rfl) hk0 rfl rfl e1 ?_
  rintro _ h2 ⟨rfl, hq⟩
  obtain ⟨⟨fs1, hk1⟩, e3⟩ := e2 h2 hq
  refine b_cast (f' := (306, [some (.inr 1024), some (.inr 0), some (.inr 192), some (.inl (i : Int))], [.inl V], h2)) rfl ?_
  refine aGo okL_law 5 (f' := (311, [some (.inr 1024), some (.inr 0), some (.inr 192), some (.inl (i : Int))], [.inl ((i : Int) + 1), .inr 1024, .inr 192, .inl V], h2)) rfl ?_
  refine b_sld (j := i + 1) okL_law rfl rfl (by omega) (by omega) (by omega) ?_
  refine aGo okL_law 4 (f' := (316, [some (.inr 1024), some (.inr 0), some (.inr 192), some (.inl (i : Int))], [.inl ((i : Int) + 2), .inr 1024, .inl (xs (i + 1)).toInt, .inr 192, .inl V], h2)) rfl ?_
  refine b_sld (j := i + 2) okL_law rfl rfl (by omega) (by omega) (by omega) ?_
  refine b_vE (as := [.inl (xs (i + 1)).toInt, .inl (xs (i + 2)).toInt]) (rest := [.inl V]) (k := 192) okL_law rfl lkL_35 caX8_loan (Nat.le_of_ble_eq_true rfl) rfl (Nat.le_of_ble_eq_true rfl) hk1 rfl rfl e3 ?_
  rintro _ h3 ⟨rfl, hl3⟩
  refine b_cast (f' := (320, [some (.inr 1024), some (.inr 0), some (.inr 192), some (.inl (i : Int))], [.inl V, .inl V], h3)) rfl ?_
  exact b_same (tgt := 1224) okL_law rfl rfl rfl (K h3 hl3)
set_option maxRecDepth 100000 in
theorem la_go {L n i : Nat} {xs : Nat → Int32} {h : aH} (hi : i + 5 ≤ L) (hL : L ≤ 2560) (hh : LI h) (K : ∀ h2, LI h2 → AW mL_law 12 0 0 n (some (L, xs)) QL (1224, [some (.inr 1024), some (.inr 0), some (.inr 192), some (.inl (i : Int))], [], h2)) : AW mL_law 12 0 0 n (some (L, xs)) QL (325, [some (.inr 1024), some (.inr 0), some (.inr 192), some (.inl (i : Int))], [], h) := by
  obtain ⟨V, Q1, e1, ⟨fs0, hk0⟩, e2⟩ := ag_go n (xs (i + 1)) (xs (i + 2)) h hh
  refine aGo okL_law 5 (f' := (330, [some (.inr 1024), some (.inr 0), some (.inr 192), some (.inl (i : Int))], [.inl ((i : Int) + 1), .inr 1024, .inr 0], h)) rfl ?_
  refine b_sld (j := i + 1) okL_law rfl rfl (by omega) (by omega) (by omega) ?_
  refine aGo okL_law 4 (f' := (335, [some (.inr 1024), some (.inr 0), some (.inr 192), some (.inl (i : Int))], [.inl ((i : Int) + 2), .inr 1024, .inl (xs (i + 1)).toInt, .inr 0], h)) rfl ?_
  refine b_sld (j := i + 2) okL_law rfl rfl (by omega) (by omega) (by omega) ?_
  refine b_vE (as := [.inl (xs (i + 1)).toInt, .inl (xs (i + 2)).toInt]) (rest := []) (k := 0) okL_law rfl lkL_36 caX7_go (Nat.le_of_ble_eq_true rfl) rfl (Nat.le_of_ble_eq_true rfl) hk0 rfl rfl e1 ?_
  rintro _ h2 ⟨rfl, hq⟩
  obtain ⟨⟨fs1, hk1⟩, e3⟩ := e2 h2 hq
  refine b_cast (f' := (339, [some (.inr 1024), some (.inr 0), some (.inr 192), some (.inl (i : Int))], [.inl V], h2)) rfl ?_
  refine aGo okL_law 5 (f' := (344, [some (.inr 1024), some (.inr 0), some (.inr 192), some (.inl (i : Int))], [.inl ((i : Int) + 1), .inr 1024, .inr 192, .inl V], h2)) rfl ?_
  refine b_sld (j := i + 1) okL_law rfl rfl (by omega) (by omega) (by omega) ?_
  refine aGo okL_law 4 (f' := (349, [some (.inr 1024), some (.inr 0), some (.inr 192), some (.inl (i : Int))], [.inl ((i : Int) + 2), .inr 1024, .inl (xs (i + 1)).toInt, .inr 192, .inl V], h2)) rfl ?_
  refine b_sld (j := i + 2) okL_law rfl rfl (by omega) (by omega) (by omega) ?_
  refine b_vE (as := [.inl (xs (i + 1)).toInt, .inl (xs (i + 2)).toInt]) (rest := [.inl V]) (k := 192) okL_law rfl lkL_39 caX8_go (Nat.le_of_ble_eq_true rfl) rfl (Nat.le_of_ble_eq_true rfl) hk1 rfl rfl e3 ?_
  rintro _ h3 ⟨rfl, hl3⟩
  refine b_cast (f' := (353, [some (.inr 1024), some (.inr 0), some (.inr 192), some (.inl (i : Int))], [.inl V, .inl V], h3)) rfl ?_
  exact b_same (tgt := 1224) okL_law rfl rfl rfl (K h3 hl3)
set_option maxRecDepth 100000 in
theorem la_lend {L n i : Nat} {xs : Nat → Int32} {h : aH} (hi : i + 5 ≤ L) (hL : L ≤ 2560) (hh : LI h) (K : ∀ h2, LI h2 → AW mL_law 12 0 0 n (some (L, xs)) QL (1224, [some (.inr 1024), some (.inr 0), some (.inr 192), some (.inl (i : Int))], [], h2)) : AW mL_law 12 0 0 n (some (L, xs)) QL (358, [some (.inr 1024), some (.inr 0), some (.inr 192), some (.inl (i : Int))], [], h) := by
  obtain ⟨V, Q1, e1, ⟨fs0, hk0⟩, e2⟩ := ag_lend n (xs (i + 1)) (xs (i + 2)) (xs (i + 3)) h hh
  refine aGo okL_law 5 (f' := (363, [some (.inr 1024), some (.inr 0), some (.inr 192), some (.inl (i : Int))], [.inl ((i : Int) + 1), .inr 1024, .inr 0], h)) rfl ?_
  refine b_sld (j := i + 1) okL_law rfl rfl (by omega) (by omega) (by omega) ?_
  refine aGo okL_law 4 (f' := (368, [some (.inr 1024), some (.inr 0), some (.inr 192), some (.inl (i : Int))], [.inl ((i : Int) + 2), .inr 1024, .inl (xs (i + 1)).toInt, .inr 0], h)) rfl ?_
  refine b_sld (j := i + 2) okL_law rfl rfl (by omega) (by omega) (by omega) ?_
  refine aGo okL_law 4 (f' := (373, [some (.inr 1024), some (.inr 0), some (.inr 192), some (.inl (i : Int))], [.inl ((i : Int) + 3), .inr 1024, .inl (xs (i + 2)).toInt, .inl (xs (i + 1)).toInt, .inr 0], h)) rfl ?_
  refine b_sld (j := i + 3) okL_law rfl rfl (by omega) (by omega) (by omega) ?_
  refine b_vE (as := [.inl (xs (i + 1)).toInt, .inl (xs (i + 2)).toInt, .inl (xs (i + 3)).toInt]) (rest := []) (k := 0) okL_law rfl lkL_40 caX7_lend (Nat.le_of_ble_eq_true rfl) rfl (Nat.le_of_ble_eq_true rfl) hk0 rfl rfl e1 ?_
  rintro _ h2 ⟨rfl, hq⟩
  obtain ⟨⟨fs1, hk1⟩, e3⟩ := e2 h2 hq
  refine b_cast (f' := (377, [some (.inr 1024), some (.inr 0), some (.inr 192), some (.inl (i : Int))], [.inl V], h2)) rfl ?_
  refine aGo okL_law 5 (f' := (382, [some (.inr 1024), some (.inr 0), some (.inr 192), some (.inl (i : Int))], [.inl ((i : Int) + 1), .inr 1024, .inr 192, .inl V], h2)) rfl ?_
  refine b_sld (j := i + 1) okL_law rfl rfl (by omega) (by omega) (by omega) ?_
  refine aGo okL_law 4 (f' := (387, [some (.inr 1024), some (.inr 0), some (.inr 192), some (.inl (i : Int))], [.inl ((i : Int) + 2), .inr 1024, .inl (xs (i + 1)).toInt, .inr 192, .inl V], h2)) rfl ?_
  refine b_sld (j := i + 2) okL_law rfl rfl (by omega) (by omega) (by omega) ?_
  refine aGo okL_law 4 (f' := (392, [some (.inr 1024), some (.inr 0), some (.inr 192), some (.inl (i : Int))], [.inl ((i : Int) + 3), .inr 1024, .inl (xs (i + 2)).toInt, .inl (xs (i + 1)).toInt, .inr 192, .inl V], h2)) rfl ?_
  refine b_sld (j := i + 3) okL_law rfl rfl (by omega) (by omega) (by omega) ?_
  refine b_vE (as := [.inl (xs (i + 1)).toInt, .inl (xs (i + 2)).toInt, .inl (xs (i + 3)).toInt]) (rest := [.inl V]) (k := 192) okL_law rfl lkL_44 caX8_lend (Nat.le_of_ble_eq_true rfl) rfl (Nat.le_of_ble_eq_true rfl) hk1 rfl rfl e3 ?_
  rintro _ h3 ⟨rfl, hl3⟩
  refine b_cast (f' := (396, [some (.inr 1024), some (.inr 0), some (.inr 192), some (.inl (i : Int))], [.inl V, .inl V], h3)) rfl ?_
  exact b_same (tgt := 1224) okL_law rfl rfl rfl (K h3 hl3)
set_option maxRecDepth 100000 in
theorem la_keep {L n i : Nat} {xs : Nat → Int32} {h : aH} (hi : i + 5 ≤ L) (hL : L ≤ 2560) (hh : LI h) (K : ∀ h2, LI h2 → AW mL_law 12 0 0 n (some (L, xs)) QL (1224, [some (.inr 1024), some (.inr 0), some (.inr 192), some (.inl (i : Int))], [], h2)) : AW mL_law 12 0 0 n (some (L, xs)) QL (401, [some (.inr 1024), some (.inr 0), some (.inr 192), some (.inl (i : Int))], [], h) := by
  obtain ⟨V, Q1, e1, ⟨fs0, hk0⟩, e2⟩ := ag_keep n (xs (i + 1)) (xs (i + 2)) h hh
  refine aGo okL_law 5 (f' := (406, [some (.inr 1024), some (.inr 0), some (.inr 192), some (.inl (i : Int))], [.inl ((i : Int) + 1), .inr 1024, .inr 0], h)) rfl ?_
  refine b_sld (j := i + 1) okL_law rfl rfl (by omega) (by omega) (by omega) ?_
  refine aGo okL_law 4 (f' := (411, [some (.inr 1024), some (.inr 0), some (.inr 192), some (.inl (i : Int))], [.inl ((i : Int) + 2), .inr 1024, .inl (xs (i + 1)).toInt, .inr 0], h)) rfl ?_
  refine b_sld (j := i + 2) okL_law rfl rfl (by omega) (by omega) (by omega) ?_
  refine b_vE (as := [.inl (xs (i + 1)).toInt, .inl (xs (i + 2)).toInt]) (rest := []) (k := 0) okL_law rfl lkL_45 caX7_keep (Nat.le_of_ble_eq_true rfl) rfl (Nat.le_of_ble_eq_true rfl) hk0 rfl rfl e1 ?_
  rintro _ h2 ⟨rfl, hq⟩
  obtain ⟨⟨fs1, hk1⟩, e3⟩ := e2 h2 hq
  refine b_cast (f' := (415, [some (.inr 1024), some (.inr 0), some (.inr 192), some (.inl (i : Int))], [.inl V], h2)) rfl ?_
  refine aGo okL_law 5 (f' := (420, [some (.inr 1024), some (.inr 0), some (.inr 192), some (.inl (i : Int))], [.inl ((i : Int) + 1), .inr 1024, .inr 192, .inl V], h2)) rfl ?_
  refine b_sld (j := i + 1) okL_law rfl rfl (by omega) (by omega) (by omega) ?_
  refine aGo okL_law 4 (f' := (425, [some (.inr 1024), some (.inr 0), some (.inr 192), some (.inl (i : Int))], [.inl ((i : Int) + 2), .inr 1024, .inl (xs (i + 1)).toInt, .inr 192, .inl V], h2)) rfl ?_
  refine b_sld (j := i + 2) okL_law rfl rfl (by omega) (by omega) (by omega) ?_
  refine b_vE (as := [.inl (xs (i + 1)).toInt, .inl (xs (i + 2)).toInt]) (rest := [.inl V]) (k := 192) okL_law rfl lkL_48 caX8_keep (Nat.le_of_ble_eq_true rfl) rfl (Nat.le_of_ble_eq_true rfl) hk1 rfl rfl e3 ?_
  rintro _ h3 ⟨rfl, hl3⟩
  refine b_cast (f' := (429, [some (.inr 1024), some (.inr 0), some (.inr 192), some (.inl (i : Int))], [.inl V, .inl V], h3)) rfl ?_
  exact b_same (tgt := 1224) okL_law rfl rfl rfl (K h3 hl3)
set_option maxRecDepth 100000 in
theorem la_need {L n i : Nat} {xs : Nat → Int32} {h : aH} (hi : i + 5 ≤ L) (hL : L ≤ 2560) (hh : LI h) (K : ∀ h2, LI h2 → AW mL_law 12 0 0 n (some (L, xs)) QL (1224, [some (.inr 1024), some (.inr 0), some (.inr 192), some (.inl (i : Int))], [], h2)) : AW mL_law 12 0 0 n (some (L, xs)) QL (434, [some (.inr 1024), some (.inr 0), some (.inr 192), some (.inl (i : Int))], [], h) := by
  obtain ⟨V, Q1, e1, ⟨fs0, hk0⟩, e2⟩ := ag_need n (xs (i + 1)) (xs (i + 2)) h hh
  refine aGo okL_law 5 (f' := (439, [some (.inr 1024), some (.inr 0), some (.inr 192), some (.inl (i : Int))], [.inl ((i : Int) + 1), .inr 1024, .inr 0], h)) rfl ?_
  refine b_sld (j := i + 1) okL_law rfl rfl (by omega) (by omega) (by omega) ?_
  refine aGo okL_law 4 (f' := (444, [some (.inr 1024), some (.inr 0), some (.inr 192), some (.inl (i : Int))], [.inl ((i : Int) + 2), .inr 1024, .inl (xs (i + 1)).toInt, .inr 0], h)) rfl ?_
  refine b_sld (j := i + 2) okL_law rfl rfl (by omega) (by omega) (by omega) ?_
  refine b_vE (as := [.inl (xs (i + 1)).toInt, .inl (xs (i + 2)).toInt]) (rest := []) (k := 0) okL_law rfl lkL_49 caX7_need (Nat.le_of_ble_eq_true rfl) rfl (Nat.le_of_ble_eq_true rfl) hk0 rfl rfl e1 ?_
  rintro _ h2 ⟨rfl, hq⟩
  obtain ⟨⟨fs1, hk1⟩, e3⟩ := e2 h2 hq
  refine b_cast (f' := (448, [some (.inr 1024), some (.inr 0), some (.inr 192), some (.inl (i : Int))], [.inl V], h2)) rfl ?_
  refine aGo okL_law 5 (f' := (453, [some (.inr 1024), some (.inr 0), some (.inr 192), some (.inl (i : Int))], [.inl ((i : Int) + 1), .inr 1024, .inr 192, .inl V], h2)) rfl ?_
  refine b_sld (j := i + 1) okL_law rfl rfl (by omega) (by omega) (by omega) ?_
  refine aGo okL_law 4 (f' := (458, [some (.inr 1024), some (.inr 0), some (.inr 192), some (.inl (i : Int))], [.inl ((i : Int) + 2), .inr 1024, .inl (xs (i + 1)).toInt, .inr 192, .inl V], h2)) rfl ?_
  refine b_sld (j := i + 2) okL_law rfl rfl (by omega) (by omega) (by omega) ?_
  refine b_vE (as := [.inl (xs (i + 1)).toInt, .inl (xs (i + 2)).toInt]) (rest := [.inl V]) (k := 192) okL_law rfl lkL_52 caX8_need (Nat.le_of_ble_eq_true rfl) rfl (Nat.le_of_ble_eq_true rfl) hk1 rfl rfl e3 ?_
  rintro _ h3 ⟨rfl, hl3⟩
  refine b_cast (f' := (462, [some (.inr 1024), some (.inr 0), some (.inr 192), some (.inl (i : Int))], [.inl V, .inl V], h3)) rfl ?_
  exact b_same (tgt := 1224) okL_law rfl rfl rfl (K h3 hl3)
set_option maxRecDepth 100000 in
theorem la_sum {L n i : Nat} {xs : Nat → Int32} {h : aH} (hi : i + 5 ≤ L) (hL : L ≤ 2560) (hh : LI h) (K : ∀ h2, LI h2 → AW mL_law 12 0 0 n (some (L, xs)) QL (1224, [some (.inr 1024), some (.inr 0), some (.inr 192), some (.inl (i : Int))], [], h2)) : AW mL_law 12 0 0 n (some (L, xs)) QL (467, [some (.inr 1024), some (.inr 0), some (.inr 192), some (.inl (i : Int))], [], h) := by
  obtain ⟨V, Q1, e1, ⟨fs0, hk0⟩, e2⟩ := ag_sum n (xs (i + 1)) h hh
  refine aGo okL_law 5 (f' := (472, [some (.inr 1024), some (.inr 0), some (.inr 192), some (.inl (i : Int))], [.inl ((i : Int) + 1), .inr 1024, .inr 0], h)) rfl ?_
  refine b_sld (j := i + 1) okL_law rfl rfl (by omega) (by omega) (by omega) ?_
  refine b_vE (as := [.inl (xs (i + 1)).toInt]) (rest := []) (k := 0) okL_law rfl lkL_53 caX7_sum (Nat.le_of_ble_eq_true rfl) rfl (Nat.le_of_ble_eq_true rfl) hk0 rfl rfl e1 ?_
  rintro _ h2 ⟨rfl, hq⟩
  obtain ⟨⟨fs1, hk1⟩, e3⟩ := e2 h2 hq
  refine b_cast (f' := (476, [some (.inr 1024), some (.inr 0), some (.inr 192), some (.inl (i : Int))], [.inl V], h2)) rfl ?_
  refine aGo okL_law 5 (f' := (481, [some (.inr 1024), some (.inr 0), some (.inr 192), some (.inl (i : Int))], [.inl ((i : Int) + 1), .inr 1024, .inr 192, .inl V], h2)) rfl ?_
  refine b_sld (j := i + 1) okL_law rfl rfl (by omega) (by omega) (by omega) ?_
  refine b_vE (as := [.inl (xs (i + 1)).toInt]) (rest := [.inl V]) (k := 192) okL_law rfl lkL_56 caX8_sum (Nat.le_of_ble_eq_true rfl) rfl (Nat.le_of_ble_eq_true rfl) hk1 rfl rfl e3 ?_
  rintro _ h3 ⟨rfl, hl3⟩
  refine b_cast (f' := (485, [some (.inr 1024), some (.inr 0), some (.inr 192), some (.inl (i : Int))], [.inl V, .inl V], h3)) rfl ?_
  exact b_same (tgt := 1224) okL_law rfl rfl rfl (K h3 hl3)
set_option maxRecDepth 100000 in
theorem la_days {L n i : Nat} {xs : Nat → Int32} {h : aH} (hi : i + 5 ≤ L) (hL : L ≤ 2560) (hh : LI h) (K : ∀ h2, LI h2 → AW mL_law 12 0 0 n (some (L, xs)) QL (1224, [some (.inr 1024), some (.inr 0), some (.inr 192), some (.inl (i : Int))], [], h2)) : AW mL_law 12 0 0 n (some (L, xs)) QL (490, [some (.inr 1024), some (.inr 0), some (.inr 192), some (.inl (i : Int))], [], h) := by
  obtain ⟨V, Q1, e1, ⟨fs0, hk0⟩, e2⟩ := ag_days n (xs (i + 1)) h hh
  refine aGo okL_law 5 (f' := (495, [some (.inr 1024), some (.inr 0), some (.inr 192), some (.inl (i : Int))], [.inl ((i : Int) + 1), .inr 1024, .inr 0], h)) rfl ?_
  refine b_sld (j := i + 1) okL_law rfl rfl (by omega) (by omega) (by omega) ?_
  refine b_vE (as := [.inl (xs (i + 1)).toInt]) (rest := []) (k := 0) okL_law rfl lkL_57 caX7_days (Nat.le_of_ble_eq_true rfl) rfl (Nat.le_of_ble_eq_true rfl) hk0 rfl rfl e1 ?_
  rintro _ h2 ⟨rfl, hq⟩
  obtain ⟨⟨fs1, hk1⟩, e3⟩ := e2 h2 hq
  refine b_cast (f' := (499, [some (.inr 1024), some (.inr 0), some (.inr 192), some (.inl (i : Int))], [.inl V], h2)) rfl ?_
  refine aGo okL_law 5 (f' := (504, [some (.inr 1024), some (.inr 0), some (.inr 192), some (.inl (i : Int))], [.inl ((i : Int) + 1), .inr 1024, .inr 192, .inl V], h2)) rfl ?_
  refine b_sld (j := i + 1) okL_law rfl rfl (by omega) (by omega) (by omega) ?_
  refine b_vE (as := [.inl (xs (i + 1)).toInt]) (rest := [.inl V]) (k := 192) okL_law rfl lkL_60 caX8_days (Nat.le_of_ble_eq_true rfl) rfl (Nat.le_of_ble_eq_true rfl) hk1 rfl rfl e3 ?_
  rintro _ h3 ⟨rfl, hl3⟩
  refine b_cast (f' := (508, [some (.inr 1024), some (.inr 0), some (.inr 192), some (.inl (i : Int))], [.inl V, .inl V], h3)) rfl ?_
  exact b_same (tgt := 1224) okL_law rfl rfl rfl (K h3 hl3)
set_option maxRecDepth 100000 in
theorem la_behind {L n i : Nat} {xs : Nat → Int32} {h : aH} (hi : i + 5 ≤ L) (hL : L ≤ 2560) (hh : LI h) (K : ∀ h2, LI h2 → AW mL_law 12 0 0 n (some (L, xs)) QL (1224, [some (.inr 1024), some (.inr 0), some (.inr 192), some (.inl (i : Int))], [], h2)) : AW mL_law 12 0 0 n (some (L, xs)) QL (513, [some (.inr 1024), some (.inr 0), some (.inr 192), some (.inl (i : Int))], [], h) := by
  obtain ⟨V, Q1, e1, ⟨fs0, hk0⟩, e2⟩ := ag_behind n (xs (i + 1)) (xs (i + 2)) (xs (i + 3)) h hh
  refine aGo okL_law 5 (f' := (518, [some (.inr 1024), some (.inr 0), some (.inr 192), some (.inl (i : Int))], [.inl ((i : Int) + 1), .inr 1024, .inr 0], h)) rfl ?_
  refine b_sld (j := i + 1) okL_law rfl rfl (by omega) (by omega) (by omega) ?_
  refine aGo okL_law 4 (f' := (523, [some (.inr 1024), some (.inr 0), some (.inr 192), some (.inl (i : Int))], [.inl ((i : Int) + 2), .inr 1024, .inl (xs (i + 1)).toInt, .inr 0], h)) rfl ?_
  refine b_sld (j := i + 2) okL_law rfl rfl (by omega) (by omega) (by omega) ?_
  refine aGo okL_law 4 (f' := (528, [some (.inr 1024), some (.inr 0), some (.inr 192), some (.inl (i : Int))], [.inl ((i : Int) + 3), .inr 1024, .inl (xs (i + 2)).toInt, .inl (xs (i + 1)).toInt, .inr 0], h)) rfl ?_
  refine b_sld (j := i + 3) okL_law rfl rfl (by omega) (by omega) (by omega) ?_
  refine b_vE (as := [.inl (xs (i + 1)).toInt, .inl (xs (i + 2)).toInt, .inl (xs (i + 3)).toInt]) (rest := []) (k := 0) okL_law rfl lkL_61 caX7_behind (Nat.le_of_ble_eq_true rfl) rfl (Nat.le_of_ble_eq_true rfl) hk0 rfl rfl e1 ?_
  rintro _ h2 ⟨rfl, hq⟩
  obtain ⟨⟨fs1, hk1⟩, e3⟩ := e2 h2 hq
  refine b_cast (f' := (532, [some (.inr 1024), some (.inr 0), some (.inr 192), some (.inl (i : Int))], [.inl V], h2)) rfl ?_
  refine aGo okL_law 5 (f' := (537, [some (.inr 1024), some (.inr 0), some (.inr 192), some (.inl (i : Int))], [.inl ((i : Int) + 1), .inr 1024, .inr 192, .inl V], h2)) rfl ?_
  refine b_sld (j := i + 1) okL_law rfl rfl (by omega) (by omega) (by omega) ?_
  refine aGo okL_law 4 (f' := (542, [some (.inr 1024), some (.inr 0), some (.inr 192), some (.inl (i : Int))], [.inl ((i : Int) + 2), .inr 1024, .inl (xs (i + 1)).toInt, .inr 192, .inl V], h2)) rfl ?_
  refine b_sld (j := i + 2) okL_law rfl rfl (by omega) (by omega) (by omega) ?_
  refine aGo okL_law 4 (f' := (547, [some (.inr 1024), some (.inr 0), some (.inr 192), some (.inl (i : Int))], [.inl ((i : Int) + 3), .inr 1024, .inl (xs (i + 2)).toInt, .inl (xs (i + 1)).toInt, .inr 192, .inl V], h2)) rfl ?_
  refine b_sld (j := i + 3) okL_law rfl rfl (by omega) (by omega) (by omega) ?_
  refine b_vE (as := [.inl (xs (i + 1)).toInt, .inl (xs (i + 2)).toInt, .inl (xs (i + 3)).toInt]) (rest := [.inl V]) (k := 192) okL_law rfl lkL_64 caX8_behind (Nat.le_of_ble_eq_true rfl) rfl (Nat.le_of_ble_eq_true rfl) hk1 rfl rfl e3 ?_
  rintro _ h3 ⟨rfl, hl3⟩
  refine b_cast (f' := (551, [some (.inr 1024), some (.inr 0), some (.inr 192), some (.inl (i : Int))], [.inl V, .inl V], h3)) rfl ?_
  exact b_same (tgt := 1224) okL_law rfl rfl rfl (K h3 hl3)
set_option maxRecDepth 100000 in
theorem la_firstShort {L n i : Nat} {xs : Nat → Int32} {h : aH} (hi : i + 5 ≤ L) (hL : L ≤ 2560) (hh : LI h) (K : ∀ h2, LI h2 → AW mL_law 12 0 0 n (some (L, xs)) QL (1224, [some (.inr 1024), some (.inr 0), some (.inr 192), some (.inl (i : Int))], [], h2)) : AW mL_law 12 0 0 n (some (L, xs)) QL (556, [some (.inr 1024), some (.inr 0), some (.inr 192), some (.inl (i : Int))], [], h) := by
  obtain ⟨V, Q1, e1, ⟨fs0, hk0⟩, e2⟩ := ag_firstShort n (xs (i + 1)) h hh
  refine aGo okL_law 5 (f' := (561, [some (.inr 1024), some (.inr 0), some (.inr 192), some (.inl (i : Int))], [.inl ((i : Int) + 1), .inr 1024, .inr 0], h)) rfl ?_
  refine b_sld (j := i + 1) okL_law rfl rfl (by omega) (by omega) (by omega) ?_
  refine b_vE (as := [.inl (xs (i + 1)).toInt]) (rest := []) (k := 0) okL_law rfl lkL_65 caX7_firstShort (Nat.le_of_ble_eq_true rfl) rfl (Nat.le_of_ble_eq_true rfl) hk0 rfl rfl e1 ?_
  rintro _ h2 ⟨rfl, hq⟩
  obtain ⟨⟨fs1, hk1⟩, e3⟩ := e2 h2 hq
  refine b_cast (f' := (565, [some (.inr 1024), some (.inr 0), some (.inr 192), some (.inl (i : Int))], [.inl V], h2)) rfl ?_
  refine aGo okL_law 5 (f' := (570, [some (.inr 1024), some (.inr 0), some (.inr 192), some (.inl (i : Int))], [.inl ((i : Int) + 1), .inr 1024, .inr 192, .inl V], h2)) rfl ?_
  refine b_sld (j := i + 1) okL_law rfl rfl (by omega) (by omega) (by omega) ?_
  refine b_vE (as := [.inl (xs (i + 1)).toInt]) (rest := [.inl V]) (k := 192) okL_law rfl lkL_68 caX8_firstShort (Nat.le_of_ble_eq_true rfl) rfl (Nat.le_of_ble_eq_true rfl) hk1 rfl rfl e3 ?_
  rintro _ h3 ⟨rfl, hl3⟩
  refine b_cast (f' := (574, [some (.inr 1024), some (.inr 0), some (.inr 192), some (.inl (i : Int))], [.inl V, .inl V], h3)) rfl ?_
  exact b_same (tgt := 1224) okL_law rfl rfl rfl (K h3 hl3)
set_option maxRecDepth 100000 in
theorem la_lasts {L n i : Nat} {xs : Nat → Int32} {h : aH} (hi : i + 5 ≤ L) (hL : L ≤ 2560) (hh : LI h) (K : ∀ h2, LI h2 → AW mL_law 12 0 0 n (some (L, xs)) QL (1224, [some (.inr 1024), some (.inr 0), some (.inr 192), some (.inl (i : Int))], [], h2)) : AW mL_law 12 0 0 n (some (L, xs)) QL (579, [some (.inr 1024), some (.inr 0), some (.inr 192), some (.inl (i : Int))], [], h) := by
  obtain ⟨V, Q1, e1, ⟨fs0, hk0⟩, e2⟩ := ag_lasts n (xs (i + 1)) h hh
  refine aGo okL_law 5 (f' := (584, [some (.inr 1024), some (.inr 0), some (.inr 192), some (.inl (i : Int))], [.inl ((i : Int) + 1), .inr 1024, .inr 0], h)) rfl ?_
  refine b_sld (j := i + 1) okL_law rfl rfl (by omega) (by omega) (by omega) ?_
  refine b_vE (as := [.inl (xs (i + 1)).toInt]) (rest := []) (k := 0) okL_law rfl lkL_69 caX7_lasts (Nat.le_of_ble_eq_true rfl) rfl (Nat.le_of_ble_eq_true rfl) hk0 rfl rfl e1 ?_
  rintro _ h2 ⟨rfl, hq⟩
  obtain ⟨⟨fs1, hk1⟩, e3⟩ := e2 h2 hq
  refine b_cast (f' := (588, [some (.inr 1024), some (.inr 0), some (.inr 192), some (.inl (i : Int))], [.inl V], h2)) rfl ?_
  refine aGo okL_law 5 (f' := (593, [some (.inr 1024), some (.inr 0), some (.inr 192), some (.inl (i : Int))], [.inl ((i : Int) + 1), .inr 1024, .inr 192, .inl V], h2)) rfl ?_
  refine b_sld (j := i + 1) okL_law rfl rfl (by omega) (by omega) (by omega) ?_
  refine b_vE (as := [.inl (xs (i + 1)).toInt]) (rest := [.inl V]) (k := 192) okL_law rfl lkL_72 caX8_lasts (Nat.le_of_ble_eq_true rfl) rfl (Nat.le_of_ble_eq_true rfl) hk1 rfl rfl e3 ?_
  rintro _ h3 ⟨rfl, hl3⟩
  refine b_cast (f' := (597, [some (.inr 1024), some (.inr 0), some (.inr 192), some (.inl (i : Int))], [.inl V, .inl V], h3)) rfl ?_
  exact b_same (tgt := 1224) okL_law rfl rfl rfl (K h3 hl3)
set_option maxRecDepth 100000 in
theorem la_bestCell {L n i : Nat} {xs : Nat → Int32} {h : aH} (hi : i + 5 ≤ L) (hL : L ≤ 2560) (hh : LI h) (K : ∀ h2, LI h2 → AW mL_law 12 0 0 n (some (L, xs)) QL (1224, [some (.inr 1024), some (.inr 0), some (.inr 192), some (.inl (i : Int))], [], h2)) : AW mL_law 12 0 0 n (some (L, xs)) QL (602, [some (.inr 1024), some (.inr 0), some (.inr 192), some (.inl (i : Int))], [], h) := by
  obtain ⟨V, Q1, e1, ⟨fs0, hk0⟩, e2⟩ := ag_bestCell n (xs (i + 1)) (xs (i + 2)) h hh
  refine aGo okL_law 5 (f' := (607, [some (.inr 1024), some (.inr 0), some (.inr 192), some (.inl (i : Int))], [.inl ((i : Int) + 1), .inr 1024, .inr 0], h)) rfl ?_
  refine b_sld (j := i + 1) okL_law rfl rfl (by omega) (by omega) (by omega) ?_
  refine aGo okL_law 4 (f' := (612, [some (.inr 1024), some (.inr 0), some (.inr 192), some (.inl (i : Int))], [.inl ((i : Int) + 2), .inr 1024, .inl (xs (i + 1)).toInt, .inr 0], h)) rfl ?_
  refine b_sld (j := i + 2) okL_law rfl rfl (by omega) (by omega) (by omega) ?_
  refine b_vE (as := [.inl (xs (i + 1)).toInt, .inl (xs (i + 2)).toInt]) (rest := []) (k := 0) okL_law rfl lkL_73 caX7_bestCell (Nat.le_of_ble_eq_true rfl) rfl (Nat.le_of_ble_eq_true rfl) hk0 rfl rfl e1 ?_
  rintro _ h2 ⟨rfl, hq⟩
  obtain ⟨⟨fs1, hk1⟩, e3⟩ := e2 h2 hq
  refine b_cast (f' := (616, [some (.inr 1024), some (.inr 0), some (.inr 192), some (.inl (i : Int))], [.inl V], h2)) rfl ?_
  refine aGo okL_law 5 (f' := (621, [some (.inr 1024), some (.inr 0), some (.inr 192), some (.inl (i : Int))], [.inl ((i : Int) + 1), .inr 1024, .inr 192, .inl V], h2)) rfl ?_
  refine b_sld (j := i + 1) okL_law rfl rfl (by omega) (by omega) (by omega) ?_
  refine aGo okL_law 4 (f' := (626, [some (.inr 1024), some (.inr 0), some (.inr 192), some (.inl (i : Int))], [.inl ((i : Int) + 2), .inr 1024, .inl (xs (i + 1)).toInt, .inr 192, .inl V], h2)) rfl ?_
  refine b_sld (j := i + 2) okL_law rfl rfl (by omega) (by omega) (by omega) ?_
  refine b_vE (as := [.inl (xs (i + 1)).toInt, .inl (xs (i + 2)).toInt]) (rest := [.inl V]) (k := 192) okL_law rfl lkL_76 caX8_bestCell (Nat.le_of_ble_eq_true rfl) rfl (Nat.le_of_ble_eq_true rfl) hk1 rfl rfl e3 ?_
  rintro _ h3 ⟨rfl, hl3⟩
  refine b_cast (f' := (630, [some (.inr 1024), some (.inr 0), some (.inr 192), some (.inl (i : Int))], [.inl V, .inl V], h3)) rfl ?_
  exact b_same (tgt := 1224) okL_law rfl rfl rfl (K h3 hl3)
set_option maxRecDepth 100000 in
theorem la_takes {L n i : Nat} {xs : Nat → Int32} {h : aH} (hi : i + 5 ≤ L) (hL : L ≤ 2560) (hh : LI h) (K : ∀ h2, LI h2 → AW mL_law 12 0 0 n (some (L, xs)) QL (1224, [some (.inr 1024), some (.inr 0), some (.inr 192), some (.inl (i : Int))], [], h2)) : AW mL_law 12 0 0 n (some (L, xs)) QL (635, [some (.inr 1024), some (.inr 0), some (.inr 192), some (.inl (i : Int))], [], h) := by
  obtain ⟨V, Q1, e1, ⟨fs0, hk0⟩, e2⟩ := ag_takes n (xs (i + 1)) (xs (i + 2)) h hh
  refine aGo okL_law 5 (f' := (640, [some (.inr 1024), some (.inr 0), some (.inr 192), some (.inl (i : Int))], [.inl ((i : Int) + 1), .inr 1024, .inr 0], h)) rfl ?_
  refine b_sld (j := i + 1) okL_law rfl rfl (by omega) (by omega) (by omega) ?_
  refine aGo okL_law 4 (f' := (645, [some (.inr 1024), some (.inr 0), some (.inr 192), some (.inl (i : Int))], [.inl ((i : Int) + 2), .inr 1024, .inl (xs (i + 1)).toInt, .inr 0], h)) rfl ?_
  refine b_sld (j := i + 2) okL_law rfl rfl (by omega) (by omega) (by omega) ?_
  refine b_vE (as := [.inl (xs (i + 1)).toInt, .inl (xs (i + 2)).toInt]) (rest := []) (k := 0) okL_law rfl lkL_77 caX7_takes (Nat.le_of_ble_eq_true rfl) rfl (Nat.le_of_ble_eq_true rfl) hk0 rfl rfl e1 ?_
  rintro _ h2 ⟨rfl, hq⟩
  obtain ⟨⟨fs1, hk1⟩, e3⟩ := e2 h2 hq
  refine b_cast (f' := (649, [some (.inr 1024), some (.inr 0), some (.inr 192), some (.inl (i : Int))], [.inl V], h2)) rfl ?_
  refine aGo okL_law 5 (f' := (654, [some (.inr 1024), some (.inr 0), some (.inr 192), some (.inl (i : Int))], [.inl ((i : Int) + 1), .inr 1024, .inr 192, .inl V], h2)) rfl ?_
  refine b_sld (j := i + 1) okL_law rfl rfl (by omega) (by omega) (by omega) ?_
  refine aGo okL_law 4 (f' := (659, [some (.inr 1024), some (.inr 0), some (.inr 192), some (.inl (i : Int))], [.inl ((i : Int) + 2), .inr 1024, .inl (xs (i + 1)).toInt, .inr 192, .inl V], h2)) rfl ?_
  refine b_sld (j := i + 2) okL_law rfl rfl (by omega) (by omega) (by omega) ?_
  refine b_vE (as := [.inl (xs (i + 1)).toInt, .inl (xs (i + 2)).toInt]) (rest := [.inl V]) (k := 192) okL_law rfl lkL_80 caX8_takes (Nat.le_of_ble_eq_true rfl) rfl (Nat.le_of_ble_eq_true rfl) hk1 rfl rfl e3 ?_
  rintro _ h3 ⟨rfl, hl3⟩
  refine b_cast (f' := (663, [some (.inr 1024), some (.inr 0), some (.inr 192), some (.inl (i : Int))], [.inl V, .inl V], h3)) rfl ?_
  exact b_same (tgt := 1224) okL_law rfl rfl rfl (K h3 hl3)
set_option maxRecDepth 100000 in
theorem la_worst {L n i : Nat} {xs : Nat → Int32} {h : aH} (hi : i + 5 ≤ L) (hL : L ≤ 2560) (hh : LI h) (K : ∀ h2, LI h2 → AW mL_law 12 0 0 n (some (L, xs)) QL (1224, [some (.inr 1024), some (.inr 0), some (.inr 192), some (.inl (i : Int))], [], h2)) : AW mL_law 12 0 0 n (some (L, xs)) QL (668, [some (.inr 1024), some (.inr 0), some (.inr 192), some (.inl (i : Int))], [], h) := by
  obtain ⟨V, Q1, e1, ⟨fs0, hk0⟩, e2⟩ := ag_worst n (xs (i + 1)) h hh
  refine aGo okL_law 5 (f' := (673, [some (.inr 1024), some (.inr 0), some (.inr 192), some (.inl (i : Int))], [.inl ((i : Int) + 1), .inr 1024, .inr 0], h)) rfl ?_
  refine b_sld (j := i + 1) okL_law rfl rfl (by omega) (by omega) (by omega) ?_
  refine b_vE (as := [.inl (xs (i + 1)).toInt]) (rest := []) (k := 0) okL_law rfl lkL_81 caX7_worst (Nat.le_of_ble_eq_true rfl) rfl (Nat.le_of_ble_eq_true rfl) hk0 rfl rfl e1 ?_
  rintro _ h2 ⟨rfl, hq⟩
  obtain ⟨⟨fs1, hk1⟩, e3⟩ := e2 h2 hq
  refine b_cast (f' := (677, [some (.inr 1024), some (.inr 0), some (.inr 192), some (.inl (i : Int))], [.inl V], h2)) rfl ?_
  refine aGo okL_law 5 (f' := (682, [some (.inr 1024), some (.inr 0), some (.inr 192), some (.inl (i : Int))], [.inl ((i : Int) + 1), .inr 1024, .inr 192, .inl V], h2)) rfl ?_
  refine b_sld (j := i + 1) okL_law rfl rfl (by omega) (by omega) (by omega) ?_
  refine b_vE (as := [.inl (xs (i + 1)).toInt]) (rest := [.inl V]) (k := 192) okL_law rfl lkL_84 caX8_worst (Nat.le_of_ble_eq_true rfl) rfl (Nat.le_of_ble_eq_true rfl) hk1 rfl rfl e3 ?_
  rintro _ h3 ⟨rfl, hl3⟩
  refine b_cast (f' := (686, [some (.inr 1024), some (.inr 0), some (.inr 192), some (.inl (i : Int))], [.inl V, .inl V], h3)) rfl ?_
  exact b_same (tgt := 1224) okL_law rfl rfl rfl (K h3 hl3)
set_option maxRecDepth 100000 in
theorem la_newcomer {L n i : Nat} {xs : Nat → Int32} {h : aH} (hi : i + 5 ≤ L) (hL : L ≤ 2560) (hh : LI h) (K : ∀ h2, LI h2 → AW mL_law 12 0 0 n (some (L, xs)) QL (1224, [some (.inr 1024), some (.inr 0), some (.inr 192), some (.inl (i : Int))], [], h2)) : AW mL_law 12 0 0 n (some (L, xs)) QL (691, [some (.inr 1024), some (.inr 0), some (.inr 192), some (.inl (i : Int))], [], h) := by
  obtain ⟨V, Q1, e1, ⟨fs0, hk0⟩, e2⟩ := ag_newcomer n (xs (i + 1)) (xs (i + 2)) h hh
  refine aGo okL_law 5 (f' := (696, [some (.inr 1024), some (.inr 0), some (.inr 192), some (.inl (i : Int))], [.inl ((i : Int) + 1), .inr 1024, .inr 0], h)) rfl ?_
  refine b_sld (j := i + 1) okL_law rfl rfl (by omega) (by omega) (by omega) ?_
  refine aGo okL_law 4 (f' := (701, [some (.inr 1024), some (.inr 0), some (.inr 192), some (.inl (i : Int))], [.inl ((i : Int) + 2), .inr 1024, .inl (xs (i + 1)).toInt, .inr 0], h)) rfl ?_
  refine b_sld (j := i + 2) okL_law rfl rfl (by omega) (by omega) (by omega) ?_
  refine b_vE (as := [.inl (xs (i + 1)).toInt, .inl (xs (i + 2)).toInt]) (rest := []) (k := 0) okL_law rfl lkL_85 caX7_newcomer (Nat.le_of_ble_eq_true rfl) rfl (Nat.le_of_ble_eq_true rfl) hk0 rfl rfl e1 ?_
  rintro _ h2 ⟨rfl, hq⟩
  obtain ⟨⟨fs1, hk1⟩, e3⟩ := e2 h2 hq
  refine b_cast (f' := (705, [some (.inr 1024), some (.inr 0), some (.inr 192), some (.inl (i : Int))], [.inl V], h2)) rfl ?_
  refine aGo okL_law 5 (f' := (710, [some (.inr 1024), some (.inr 0), some (.inr 192), some (.inl (i : Int))], [.inl ((i : Int) + 1), .inr 1024, .inr 192, .inl V], h2)) rfl ?_
  refine b_sld (j := i + 1) okL_law rfl rfl (by omega) (by omega) (by omega) ?_
  refine aGo okL_law 4 (f' := (715, [some (.inr 1024), some (.inr 0), some (.inr 192), some (.inl (i : Int))], [.inl ((i : Int) + 2), .inr 1024, .inl (xs (i + 1)).toInt, .inr 192, .inl V], h2)) rfl ?_
  refine b_sld (j := i + 2) okL_law rfl rfl (by omega) (by omega) (by omega) ?_
  refine b_vE (as := [.inl (xs (i + 1)).toInt, .inl (xs (i + 2)).toInt]) (rest := [.inl V]) (k := 192) okL_law rfl lkL_88 caX8_newcomer (Nat.le_of_ble_eq_true rfl) rfl (Nat.le_of_ble_eq_true rfl) hk1 rfl rfl e3 ?_
  rintro _ h3 ⟨rfl, hl3⟩
  refine b_cast (f' := (719, [some (.inr 1024), some (.inr 0), some (.inr 192), some (.inl (i : Int))], [.inl V, .inl V], h3)) rfl ?_
  exact b_same (tgt := 1224) okL_law rfl rfl rfl (K h3 hl3)
set_option maxRecDepth 100000 in
theorem la_leaves {L n i : Nat} {xs : Nat → Int32} {h : aH} (hi : i + 5 ≤ L) (hL : L ≤ 2560) (hh : LI h) (K : ∀ h2, LI h2 → AW mL_law 12 0 0 n (some (L, xs)) QL (1224, [some (.inr 1024), some (.inr 0), some (.inr 192), some (.inl (i : Int))], [], h2)) : AW mL_law 12 0 0 n (some (L, xs)) QL (724, [some (.inr 1024), some (.inr 0), some (.inr 192), some (.inl (i : Int))], [], h) := by
  obtain ⟨V, Q1, e1, ⟨fs0, hk0⟩, e2⟩ := ag_leaves n (xs (i + 1)) h hh
  refine aGo okL_law 5 (f' := (729, [some (.inr 1024), some (.inr 0), some (.inr 192), some (.inl (i : Int))], [.inl ((i : Int) + 1), .inr 1024, .inr 0], h)) rfl ?_
  refine b_sld (j := i + 1) okL_law rfl rfl (by omega) (by omega) (by omega) ?_
  refine b_vE (as := [.inl (xs (i + 1)).toInt]) (rest := []) (k := 0) okL_law rfl lkL_89 caX7_leaves (Nat.le_of_ble_eq_true rfl) rfl (Nat.le_of_ble_eq_true rfl) hk0 rfl rfl e1 ?_
  rintro _ h2 ⟨rfl, hq⟩
  obtain ⟨⟨fs1, hk1⟩, e3⟩ := e2 h2 hq
  refine b_cast (f' := (733, [some (.inr 1024), some (.inr 0), some (.inr 192), some (.inl (i : Int))], [.inl V], h2)) rfl ?_
  refine aGo okL_law 5 (f' := (738, [some (.inr 1024), some (.inr 0), some (.inr 192), some (.inl (i : Int))], [.inl ((i : Int) + 1), .inr 1024, .inr 192, .inl V], h2)) rfl ?_
  refine b_sld (j := i + 1) okL_law rfl rfl (by omega) (by omega) (by omega) ?_
  refine b_vE (as := [.inl (xs (i + 1)).toInt]) (rest := [.inl V]) (k := 192) okL_law rfl lkL_92 caX8_leaves (Nat.le_of_ble_eq_true rfl) rfl (Nat.le_of_ble_eq_true rfl) hk1 rfl rfl e3 ?_
  rintro _ h3 ⟨rfl, hl3⟩
  refine b_cast (f' := (742, [some (.inr 1024), some (.inr 0), some (.inr 192), some (.inl (i : Int))], [.inl V, .inl V], h3)) rfl ?_
  exact b_same (tgt := 1224) okL_law rfl rfl rfl (K h3 hl3)
set_option maxRecDepth 100000 in
theorem la_enough {L n i : Nat} {xs : Nat → Int32} {h : aH} (hi : i + 5 ≤ L) (hL : L ≤ 2560) (hh : LI h) (K : ∀ h2, LI h2 → AW mL_law 12 0 0 n (some (L, xs)) QL (1224, [some (.inr 1024), some (.inr 0), some (.inr 192), some (.inl (i : Int))], [], h2)) : AW mL_law 12 0 0 n (some (L, xs)) QL (747, [some (.inr 1024), some (.inr 0), some (.inr 192), some (.inl (i : Int))], [], h) := by
  obtain ⟨V, Q1, e1, ⟨fs0, hk0⟩, e2⟩ := ag_enough n h hh
  refine aGo okL_law 1 (f' := (748, [some (.inr 1024), some (.inr 0), some (.inr 192), some (.inl (i : Int))], [.inr 0], h)) rfl ?_
  refine b_vE (as := []) (rest := []) (k := 0) okL_law rfl lkL_93 caX7_enough (Nat.le_of_ble_eq_true rfl) rfl (Nat.le_of_ble_eq_true rfl) hk0 rfl rfl e1 ?_
  rintro _ h2 ⟨rfl, hq⟩
  obtain ⟨⟨fs1, hk1⟩, e3⟩ := e2 h2 hq
  refine b_cast (f' := (751, [some (.inr 1024), some (.inr 0), some (.inr 192), some (.inl (i : Int))], [.inl V], h2)) rfl ?_
  refine aGo okL_law 1 (f' := (752, [some (.inr 1024), some (.inr 0), some (.inr 192), some (.inl (i : Int))], [.inr 192, .inl V], h2)) rfl ?_
  refine b_vE (as := []) (rest := [.inl V]) (k := 192) okL_law rfl lkL_96 caX8_enough (Nat.le_of_ble_eq_true rfl) rfl (Nat.le_of_ble_eq_true rfl) hk1 rfl rfl e3 ?_
  rintro _ h3 ⟨rfl, hl3⟩
  refine b_cast (f' := (755, [some (.inr 1024), some (.inr 0), some (.inr 192), some (.inl (i : Int))], [.inl V, .inl V], h3)) rfl ?_
  exact b_same (tgt := 1224) okL_law rfl rfl rfl (K h3 hl3)
set_option maxRecDepth 100000 in
theorem la_help {L n i : Nat} {xs : Nat → Int32} {h : aH} (hi : i + 5 ≤ L) (hL : L ≤ 2560) (hh : LI h) (K : ∀ h2, LI h2 → AW mL_law 12 0 0 n (some (L, xs)) QL (1224, [some (.inr 1024), some (.inr 0), some (.inr 192), some (.inl (i : Int))], [], h2)) : AW mL_law 12 0 0 n (some (L, xs)) QL (760, [some (.inr 1024), some (.inr 0), some (.inr 192), some (.inl (i : Int))], [], h) := by
  obtain ⟨V, Q1, e1, ⟨fs0, hk0⟩, e2⟩ := ag_help n (xs (i + 1)) (xs (i + 2)) h hh
  refine aGo okL_law 5 (f' := (765, [some (.inr 1024), some (.inr 0), some (.inr 192), some (.inl (i : Int))], [.inl ((i : Int) + 1), .inr 1024, .inr 0], h)) rfl ?_
  refine b_sld (j := i + 1) okL_law rfl rfl (by omega) (by omega) (by omega) ?_
  refine aGo okL_law 4 (f' := (770, [some (.inr 1024), some (.inr 0), some (.inr 192), some (.inl (i : Int))], [.inl ((i : Int) + 2), .inr 1024, .inl (xs (i + 1)).toInt, .inr 0], h)) rfl ?_
  refine b_sld (j := i + 2) okL_law rfl rfl (by omega) (by omega) (by omega) ?_
  refine b_vE (as := [.inl (xs (i + 1)).toInt, .inl (xs (i + 2)).toInt]) (rest := []) (k := 0) okL_law rfl lkL_97 caX7_help (Nat.le_of_ble_eq_true rfl) rfl (Nat.le_of_ble_eq_true rfl) hk0 rfl rfl e1 ?_
  rintro _ h2 ⟨rfl, hq⟩
  obtain ⟨⟨fs1, hk1⟩, e3⟩ := e2 h2 hq
  refine b_cast (f' := (774, [some (.inr 1024), some (.inr 0), some (.inr 192), some (.inl (i : Int))], [.inl V], h2)) rfl ?_
  refine aGo okL_law 5 (f' := (779, [some (.inr 1024), some (.inr 0), some (.inr 192), some (.inl (i : Int))], [.inl ((i : Int) + 1), .inr 1024, .inr 192, .inl V], h2)) rfl ?_
  refine b_sld (j := i + 1) okL_law rfl rfl (by omega) (by omega) (by omega) ?_
  refine aGo okL_law 4 (f' := (784, [some (.inr 1024), some (.inr 0), some (.inr 192), some (.inl (i : Int))], [.inl ((i : Int) + 2), .inr 1024, .inl (xs (i + 1)).toInt, .inr 192, .inl V], h2)) rfl ?_
  refine b_sld (j := i + 2) okL_law rfl rfl (by omega) (by omega) (by omega) ?_
  refine b_vE (as := [.inl (xs (i + 1)).toInt, .inl (xs (i + 2)).toInt]) (rest := [.inl V]) (k := 192) okL_law rfl lkL_100 caX8_help (Nat.le_of_ble_eq_true rfl) rfl (Nat.le_of_ble_eq_true rfl) hk1 rfl rfl e3 ?_
  rintro _ h3 ⟨rfl, hl3⟩
  refine b_cast (f' := (788, [some (.inr 1024), some (.inr 0), some (.inr 192), some (.inl (i : Int))], [.inl V, .inl V], h3)) rfl ?_
  exact b_same (tgt := 1224) okL_law rfl rfl rfl (K h3 hl3)
set_option maxRecDepth 100000 in
theorem la_net {L n i : Nat} {xs : Nat → Int32} {h : aH} (hi : i + 5 ≤ L) (hL : L ≤ 2560) (hh : LI h) (K : ∀ h2, LI h2 → AW mL_law 12 0 0 n (some (L, xs)) QL (1224, [some (.inr 1024), some (.inr 0), some (.inr 192), some (.inl (i : Int))], [], h2)) : AW mL_law 12 0 0 n (some (L, xs)) QL (793, [some (.inr 1024), some (.inr 0), some (.inr 192), some (.inl (i : Int))], [], h) := by
  obtain ⟨V, Q1, e1, ⟨fs0, hk0⟩, e2⟩ := ag_net n (xs (i + 1)) h hh
  refine aGo okL_law 5 (f' := (798, [some (.inr 1024), some (.inr 0), some (.inr 192), some (.inl (i : Int))], [.inl ((i : Int) + 1), .inr 1024, .inr 0], h)) rfl ?_
  refine b_sld (j := i + 1) okL_law rfl rfl (by omega) (by omega) (by omega) ?_
  refine b_vE (as := [.inl (xs (i + 1)).toInt]) (rest := []) (k := 0) okL_law rfl lkL_101 caX7_net (Nat.le_of_ble_eq_true rfl) rfl (Nat.le_of_ble_eq_true rfl) hk0 rfl rfl e1 ?_
  rintro _ h2 ⟨rfl, hq⟩
  obtain ⟨⟨fs1, hk1⟩, e3⟩ := e2 h2 hq
  refine b_cast (f' := (802, [some (.inr 1024), some (.inr 0), some (.inr 192), some (.inl (i : Int))], [.inl V], h2)) rfl ?_
  refine aGo okL_law 5 (f' := (807, [some (.inr 1024), some (.inr 0), some (.inr 192), some (.inl (i : Int))], [.inl ((i : Int) + 1), .inr 1024, .inr 192, .inl V], h2)) rfl ?_
  refine b_sld (j := i + 1) okL_law rfl rfl (by omega) (by omega) (by omega) ?_
  refine b_vE (as := [.inl (xs (i + 1)).toInt]) (rest := [.inl V]) (k := 192) okL_law rfl lkL_104 caX8_net (Nat.le_of_ble_eq_true rfl) rfl (Nat.le_of_ble_eq_true rfl) hk1 rfl rfl e3 ?_
  rintro _ h3 ⟨rfl, hl3⟩
  refine b_cast (f' := (811, [some (.inr 1024), some (.inr 0), some (.inr 192), some (.inl (i : Int))], [.inl V, .inl V], h3)) rfl ?_
  exact b_same (tgt := 1224) okL_law rfl rfl rfl (K h3 hl3)
set_option maxRecDepth 100000 in
theorem la_loans {L n i : Nat} {xs : Nat → Int32} {h : aH} (hi : i + 5 ≤ L) (hL : L ≤ 2560) (hh : LI h) (K : ∀ h2, LI h2 → AW mL_law 12 0 0 n (some (L, xs)) QL (1224, [some (.inr 1024), some (.inr 0), some (.inr 192), some (.inl (i : Int))], [], h2)) : AW mL_law 12 0 0 n (some (L, xs)) QL (816, [some (.inr 1024), some (.inr 0), some (.inr 192), some (.inl (i : Int))], [], h) := by
  obtain ⟨V, Q1, e1, ⟨fs0, hk0⟩, e2⟩ := ag_loans n (xs (i + 1)) h hh
  refine aGo okL_law 5 (f' := (821, [some (.inr 1024), some (.inr 0), some (.inr 192), some (.inl (i : Int))], [.inl ((i : Int) + 1), .inr 1024, .inr 0], h)) rfl ?_
  refine b_sld (j := i + 1) okL_law rfl rfl (by omega) (by omega) (by omega) ?_
  refine b_vE (as := [.inl (xs (i + 1)).toInt]) (rest := []) (k := 0) okL_law rfl lkL_105 caX7_loans (Nat.le_of_ble_eq_true rfl) rfl (Nat.le_of_ble_eq_true rfl) hk0 rfl rfl e1 ?_
  rintro _ h2 ⟨rfl, hq⟩
  obtain ⟨⟨fs1, hk1⟩, e3⟩ := e2 h2 hq
  refine b_cast (f' := (825, [some (.inr 1024), some (.inr 0), some (.inr 192), some (.inl (i : Int))], [.inl V], h2)) rfl ?_
  refine aGo okL_law 5 (f' := (830, [some (.inr 1024), some (.inr 0), some (.inr 192), some (.inl (i : Int))], [.inl ((i : Int) + 1), .inr 1024, .inr 192, .inl V], h2)) rfl ?_
  refine b_sld (j := i + 1) okL_law rfl rfl (by omega) (by omega) (by omega) ?_
  refine b_vE (as := [.inl (xs (i + 1)).toInt]) (rest := [.inl V]) (k := 192) okL_law rfl lkL_108 caX8_loans (Nat.le_of_ble_eq_true rfl) rfl (Nat.le_of_ble_eq_true rfl) hk1 rfl rfl e3 ?_
  rintro _ h3 ⟨rfl, hl3⟩
  refine b_cast (f' := (834, [some (.inr 1024), some (.inr 0), some (.inr 192), some (.inl (i : Int))], [.inl V, .inl V], h3)) rfl ?_
  exact b_same (tgt := 1224) okL_law rfl rfl rfl (K h3 hl3)
set_option maxRecDepth 100000 in
theorem la_survey {L n i : Nat} {xs : Nat → Int32} {h : aH} (hi : i + 5 ≤ L) (hL : L ≤ 2560) (hh : LI h) (K : ∀ h2, LI h2 → AW mL_law 12 0 0 n (some (L, xs)) QL (1224, [some (.inr 1024), some (.inr 0), some (.inr 192), some (.inl (i : Int))], [], h2)) : AW mL_law 12 0 0 n (some (L, xs)) QL (839, [some (.inr 1024), some (.inr 0), some (.inr 192), some (.inl (i : Int))], [], h) := by
  obtain ⟨V, Q1, e1, ⟨fs0, hk0⟩, e2⟩ := ag_survey n (xs (i + 1)) h hh
  refine aGo okL_law 5 (f' := (844, [some (.inr 1024), some (.inr 0), some (.inr 192), some (.inl (i : Int))], [.inl ((i : Int) + 1), .inr 1024, .inr 0], h)) rfl ?_
  refine b_sld (j := i + 1) okL_law rfl rfl (by omega) (by omega) (by omega) ?_
  refine b_vE (as := [.inl (xs (i + 1)).toInt]) (rest := []) (k := 0) okL_law rfl lkL_109 caX7_survey (Nat.le_of_ble_eq_true rfl) rfl (Nat.le_of_ble_eq_true rfl) hk0 rfl rfl e1 ?_
  rintro _ h2 ⟨rfl, hq⟩
  obtain ⟨⟨fs1, hk1⟩, e3⟩ := e2 h2 hq
  refine b_cast (f' := (848, [some (.inr 1024), some (.inr 0), some (.inr 192), some (.inl (i : Int))], [.inl V], h2)) rfl ?_
  refine aGo okL_law 5 (f' := (853, [some (.inr 1024), some (.inr 0), some (.inr 192), some (.inl (i : Int))], [.inl ((i : Int) + 1), .inr 1024, .inr 192, .inl V], h2)) rfl ?_
  refine b_sld (j := i + 1) okL_law rfl rfl (by omega) (by omega) (by omega) ?_
  refine b_vE (as := [.inl (xs (i + 1)).toInt]) (rest := [.inl V]) (k := 192) okL_law rfl lkL_112 caX8_survey (Nat.le_of_ble_eq_true rfl) rfl (Nat.le_of_ble_eq_true rfl) hk1 rfl rfl e3 ?_
  rintro _ h3 ⟨rfl, hl3⟩
  refine b_cast (f' := (857, [some (.inr 1024), some (.inr 0), some (.inr 192), some (.inl (i : Int))], [.inl V, .inl V], h3)) rfl ?_
  exact b_same (tgt := 1224) okL_law rfl rfl rfl (K h3 hl3)
set_option maxRecDepth 100000 in
theorem la_bestSurvey {L n i : Nat} {xs : Nat → Int32} {h : aH} (hi : i + 5 ≤ L) (hL : L ≤ 2560) (hh : LI h) (K : ∀ h2, LI h2 → AW mL_law 12 0 0 n (some (L, xs)) QL (1224, [some (.inr 1024), some (.inr 0), some (.inr 192), some (.inl (i : Int))], [], h2)) : AW mL_law 12 0 0 n (some (L, xs)) QL (862, [some (.inr 1024), some (.inr 0), some (.inr 192), some (.inl (i : Int))], [], h) := by
  obtain ⟨V, Q1, e1, ⟨fs0, hk0⟩, e2⟩ := ag_bestSurvey n h hh
  refine aGo okL_law 1 (f' := (863, [some (.inr 1024), some (.inr 0), some (.inr 192), some (.inl (i : Int))], [.inr 0], h)) rfl ?_
  refine b_vE (as := []) (rest := []) (k := 0) okL_law rfl lkL_113 caX7_bestSurvey (Nat.le_of_ble_eq_true rfl) rfl (Nat.le_of_ble_eq_true rfl) hk0 rfl rfl e1 ?_
  rintro _ h2 ⟨rfl, hq⟩
  obtain ⟨⟨fs1, hk1⟩, e3⟩ := e2 h2 hq
  refine b_cast (f' := (866, [some (.inr 1024), some (.inr 0), some (.inr 192), some (.inl (i : Int))], [.inl V], h2)) rfl ?_
  refine aGo okL_law 1 (f' := (867, [some (.inr 1024), some (.inr 0), some (.inr 192), some (.inl (i : Int))], [.inr 192, .inl V], h2)) rfl ?_
  refine b_vE (as := []) (rest := [.inl V]) (k := 192) okL_law rfl lkL_116 caX8_bestSurvey (Nat.le_of_ble_eq_true rfl) rfl (Nat.le_of_ble_eq_true rfl) hk1 rfl rfl e3 ?_
  rintro _ h3 ⟨rfl, hl3⟩
  refine b_cast (f' := (870, [some (.inr 1024), some (.inr 0), some (.inr 192), some (.inl (i : Int))], [.inl V, .inl V], h3)) rfl ?_
  exact b_same (tgt := 1224) okL_law rfl rfl rfl (K h3 hl3)
set_option maxRecDepth 100000 in
theorem la_quarrel {L n i : Nat} {xs : Nat → Int32} {h : aH} (hi : i + 5 ≤ L) (hL : L ≤ 2560) (hh : LI h) (K : ∀ h2, LI h2 → AW mL_law 12 0 0 n (some (L, xs)) QL (1224, [some (.inr 1024), some (.inr 0), some (.inr 192), some (.inl (i : Int))], [], h2)) : AW mL_law 12 0 0 n (some (L, xs)) QL (875, [some (.inr 1024), some (.inr 0), some (.inr 192), some (.inl (i : Int))], [], h) := by
  obtain ⟨V, Q1, e1, ⟨fs0, hk0⟩, e2⟩ := ag_quarrel n (xs (i + 1)) (xs (i + 2)) (xs (i + 3)) (xs (i + 4)) h hh
  refine aGo okL_law 5 (f' := (880, [some (.inr 1024), some (.inr 0), some (.inr 192), some (.inl (i : Int))], [.inl ((i : Int) + 1), .inr 1024, .inr 0], h)) rfl ?_
  refine b_sld (j := i + 1) okL_law rfl rfl (by omega) (by omega) (by omega) ?_
  refine aGo okL_law 4 (f' := (885, [some (.inr 1024), some (.inr 0), some (.inr 192), some (.inl (i : Int))], [.inl ((i : Int) + 2), .inr 1024, .inl (xs (i + 1)).toInt, .inr 0], h)) rfl ?_
  refine b_sld (j := i + 2) okL_law rfl rfl (by omega) (by omega) (by omega) ?_
  refine aGo okL_law 4 (f' := (890, [some (.inr 1024), some (.inr 0), some (.inr 192), some (.inl (i : Int))], [.inl ((i : Int) + 3), .inr 1024, .inl (xs (i + 2)).toInt, .inl (xs (i + 1)).toInt, .inr 0], h)) rfl ?_
  refine b_sld (j := i + 3) okL_law rfl rfl (by omega) (by omega) (by omega) ?_
  refine aGo okL_law 4 (f' := (895, [some (.inr 1024), some (.inr 0), some (.inr 192), some (.inl (i : Int))], [.inl ((i : Int) + 4), .inr 1024, .inl (xs (i + 3)).toInt, .inl (xs (i + 2)).toInt, .inl (xs (i + 1)).toInt, .inr 0], h)) rfl ?_
  refine b_sld (j := i + 4) okL_law rfl rfl (by omega) (by omega) (by omega) ?_
  refine b_vE (as := [.inl (xs (i + 1)).toInt, .inl (xs (i + 2)).toInt, .inl (xs (i + 3)).toInt, .inl (xs (i + 4)).toInt]) (rest := []) (k := 0) okL_law rfl lkL_117 caX7_quarrel (Nat.le_of_ble_eq_true rfl) rfl (Nat.le_of_ble_eq_true rfl) hk0 rfl rfl e1 ?_
  rintro _ h2 ⟨rfl, hq⟩
  obtain ⟨⟨fs1, hk1⟩, e3⟩ := e2 h2 hq
  refine b_cast (f' := (899, [some (.inr 1024), some (.inr 0), some (.inr 192), some (.inl (i : Int))], [.inl V], h2)) rfl ?_
  refine aGo okL_law 5 (f' := (904, [some (.inr 1024), some (.inr 0), some (.inr 192), some (.inl (i : Int))], [.inl ((i : Int) + 1), .inr 1024, .inr 192, .inl V], h2)) rfl ?_
  refine b_sld (j := i + 1) okL_law rfl rfl (by omega) (by omega) (by omega) ?_
  refine aGo okL_law 4 (f' := (909, [some (.inr 1024), some (.inr 0), some (.inr 192), some (.inl (i : Int))], [.inl ((i : Int) + 2), .inr 1024, .inl (xs (i + 1)).toInt, .inr 192, .inl V], h2)) rfl ?_
  refine b_sld (j := i + 2) okL_law rfl rfl (by omega) (by omega) (by omega) ?_
  refine aGo okL_law 4 (f' := (914, [some (.inr 1024), some (.inr 0), some (.inr 192), some (.inl (i : Int))], [.inl ((i : Int) + 3), .inr 1024, .inl (xs (i + 2)).toInt, .inl (xs (i + 1)).toInt, .inr 192, .inl V], h2)) rfl ?_
  refine b_sld (j := i + 3) okL_law rfl rfl (by omega) (by omega) (by omega) ?_
  refine aGo okL_law 4 (f' := (919, [some (.inr 1024), some (.inr 0), some (.inr 192), some (.inl (i : Int))], [.inl ((i : Int) + 4), .inr 1024, .inl (xs (i + 3)).toInt, .inl (xs (i + 2)).toInt, .inl (xs (i + 1)).toInt, .inr 192, .inl V], h2)) rfl ?_
  refine b_sld (j := i + 4) okL_law rfl rfl (by omega) (by omega) (by omega) ?_
  refine b_vE (as := [.inl (xs (i + 1)).toInt, .inl (xs (i + 2)).toInt, .inl (xs (i + 3)).toInt, .inl (xs (i + 4)).toInt]) (rest := [.inl V]) (k := 192) okL_law rfl lkL_121 caX8_quarrel (Nat.le_of_ble_eq_true rfl) rfl (Nat.le_of_ble_eq_true rfl) hk1 rfl rfl e3 ?_
  rintro _ h3 ⟨rfl, hl3⟩
  refine b_cast (f' := (923, [some (.inr 1024), some (.inr 0), some (.inr 192), some (.inl (i : Int))], [.inl V, .inl V], h3)) rfl ?_
  exact b_same (tgt := 1224) okL_law rfl rfl rfl (K h3 hl3)
set_option maxRecDepth 100000 in
theorem la_two {L n i : Nat} {xs : Nat → Int32} {h : aH} (hi : i + 5 ≤ L) (hL : L ≤ 2560) (hh : LI h) (K : ∀ h2, LI h2 → AW mL_law 12 0 0 n (some (L, xs)) QL (1224, [some (.inr 1024), some (.inr 0), some (.inr 192), some (.inl (i : Int))], [], h2)) : AW mL_law 12 0 0 n (some (L, xs)) QL (928, [some (.inr 1024), some (.inr 0), some (.inr 192), some (.inl (i : Int))], [], h) := by
  obtain ⟨V, Q1, e1, ⟨fs0, hk0⟩, e2⟩ := ag_two n (xs (i + 1)) (xs (i + 2)) h hh
  refine aGo okL_law 5 (f' := (933, [some (.inr 1024), some (.inr 0), some (.inr 192), some (.inl (i : Int))], [.inl ((i : Int) + 1), .inr 1024, .inr 0], h)) rfl ?_
  refine b_sld (j := i + 1) okL_law rfl rfl (by omega) (by omega) (by omega) ?_
  refine aGo okL_law 4 (f' := (938, [some (.inr 1024), some (.inr 0), some (.inr 192), some (.inl (i : Int))], [.inl ((i : Int) + 2), .inr 1024, .inl (xs (i + 1)).toInt, .inr 0], h)) rfl ?_
  refine b_sld (j := i + 2) okL_law rfl rfl (by omega) (by omega) (by omega) ?_
  refine b_vE (as := [.inl (xs (i + 1)).toInt, .inl (xs (i + 2)).toInt]) (rest := []) (k := 0) okL_law rfl lkL_122 caX7_two (Nat.le_of_ble_eq_true rfl) rfl (Nat.le_of_ble_eq_true rfl) hk0 rfl rfl e1 ?_
  rintro _ h2 ⟨rfl, hq⟩
  obtain ⟨⟨fs1, hk1⟩, e3⟩ := e2 h2 hq
  refine b_cast (f' := (942, [some (.inr 1024), some (.inr 0), some (.inr 192), some (.inl (i : Int))], [.inl V], h2)) rfl ?_
  refine aGo okL_law 5 (f' := (947, [some (.inr 1024), some (.inr 0), some (.inr 192), some (.inl (i : Int))], [.inl ((i : Int) + 1), .inr 1024, .inr 192, .inl V], h2)) rfl ?_
  refine b_sld (j := i + 1) okL_law rfl rfl (by omega) (by omega) (by omega) ?_
  refine aGo okL_law 4 (f' := (952, [some (.inr 1024), some (.inr 0), some (.inr 192), some (.inl (i : Int))], [.inl ((i : Int) + 2), .inr 1024, .inl (xs (i + 1)).toInt, .inr 192, .inl V], h2)) rfl ?_
  refine b_sld (j := i + 2) okL_law rfl rfl (by omega) (by omega) (by omega) ?_
  refine b_vE (as := [.inl (xs (i + 1)).toInt, .inl (xs (i + 2)).toInt]) (rest := [.inl V]) (k := 192) okL_law rfl lkL_125 caX8_two (Nat.le_of_ble_eq_true rfl) rfl (Nat.le_of_ble_eq_true rfl) hk1 rfl rfl e3 ?_
  rintro _ h3 ⟨rfl, hl3⟩
  refine b_cast (f' := (956, [some (.inr 1024), some (.inr 0), some (.inr 192), some (.inl (i : Int))], [.inl V, .inl V], h3)) rfl ?_
  exact b_same (tgt := 1224) okL_law rfl rfl rfl (K h3 hl3)
set_option maxRecDepth 100000 in
theorem la_crowd {L n i : Nat} {xs : Nat → Int32} {h : aH} (hi : i + 5 ≤ L) (hL : L ≤ 2560) (hh : LI h) (K : ∀ h2, LI h2 → AW mL_law 12 0 0 n (some (L, xs)) QL (1224, [some (.inr 1024), some (.inr 0), some (.inr 192), some (.inl (i : Int))], [], h2)) : AW mL_law 12 0 0 n (some (L, xs)) QL (961, [some (.inr 1024), some (.inr 0), some (.inr 192), some (.inl (i : Int))], [], h) := by
  obtain ⟨V, Q1, e1, ⟨fs0, hk0⟩, e2⟩ := ag_crowd n (xs (i + 1)) h hh
  refine aGo okL_law 5 (f' := (966, [some (.inr 1024), some (.inr 0), some (.inr 192), some (.inl (i : Int))], [.inl ((i : Int) + 1), .inr 1024, .inr 0], h)) rfl ?_
  refine b_sld (j := i + 1) okL_law rfl rfl (by omega) (by omega) (by omega) ?_
  refine b_vE (as := [.inl (xs (i + 1)).toInt]) (rest := []) (k := 0) okL_law rfl lkL_126 caX7_crowd (Nat.le_of_ble_eq_true rfl) rfl (Nat.le_of_ble_eq_true rfl) hk0 rfl rfl e1 ?_
  rintro _ h2 ⟨rfl, hq⟩
  obtain ⟨⟨fs1, hk1⟩, e3⟩ := e2 h2 hq
  refine b_cast (f' := (970, [some (.inr 1024), some (.inr 0), some (.inr 192), some (.inl (i : Int))], [.inl V], h2)) rfl ?_
  refine aGo okL_law 5 (f' := (975, [some (.inr 1024), some (.inr 0), some (.inr 192), some (.inl (i : Int))], [.inl ((i : Int) + 1), .inr 1024, .inr 192, .inl V], h2)) rfl ?_
  refine b_sld (j := i + 1) okL_law rfl rfl (by omega) (by omega) (by omega) ?_
  refine b_vE (as := [.inl (xs (i + 1)).toInt]) (rest := [.inl V]) (k := 192) okL_law rfl lkL_129 caX8_crowd (Nat.le_of_ble_eq_true rfl) rfl (Nat.le_of_ble_eq_true rfl) hk1 rfl rfl e3 ?_
  rintro _ h3 ⟨rfl, hl3⟩
  refine b_cast (f' := (979, [some (.inr 1024), some (.inr 0), some (.inr 192), some (.inl (i : Int))], [.inl V, .inl V], h3)) rfl ?_
  exact b_same (tgt := 1224) okL_law rfl rfl rfl (K h3 hl3)
set_option maxRecDepth 100000 in
theorem la_raise {L n i : Nat} {xs : Nat → Int32} {h : aH} (hi : i + 5 ≤ L) (hL : L ≤ 2560) (hh : LI h) (K : ∀ h2, LI h2 → AW mL_law 12 0 0 n (some (L, xs)) QL (1224, [some (.inr 1024), some (.inr 0), some (.inr 192), some (.inl (i : Int))], [], h2)) : AW mL_law 12 0 0 n (some (L, xs)) QL (984, [some (.inr 1024), some (.inr 0), some (.inr 192), some (.inl (i : Int))], [], h) := by
  obtain ⟨V, Q1, e1, ⟨fs0, hk0⟩, e2⟩ := ag_raise n h hh
  refine aGo okL_law 1 (f' := (985, [some (.inr 1024), some (.inr 0), some (.inr 192), some (.inl (i : Int))], [.inr 0], h)) rfl ?_
  refine b_vE (as := []) (rest := []) (k := 0) okL_law rfl lkL_130 caX7_raise (Nat.le_of_ble_eq_true rfl) rfl (Nat.le_of_ble_eq_true rfl) hk0 rfl rfl e1 ?_
  rintro _ h2 ⟨rfl, hq⟩
  obtain ⟨⟨fs1, hk1⟩, e3⟩ := e2 h2 hq
  refine b_cast (f' := (988, [some (.inr 1024), some (.inr 0), some (.inr 192), some (.inl (i : Int))], [.inl V], h2)) rfl ?_
  refine aGo okL_law 1 (f' := (989, [some (.inr 1024), some (.inr 0), some (.inr 192), some (.inl (i : Int))], [.inr 192, .inl V], h2)) rfl ?_
  refine b_vE (as := []) (rest := [.inl V]) (k := 192) okL_law rfl lkL_133 caX8_raise (Nat.le_of_ble_eq_true rfl) rfl (Nat.le_of_ble_eq_true rfl) hk1 rfl rfl e3 ?_
  rintro _ h3 ⟨rfl, hl3⟩
  refine b_cast (f' := (992, [some (.inr 1024), some (.inr 0), some (.inr 192), some (.inl (i : Int))], [.inl V, .inl V], h3)) rfl ?_
  exact b_same (tgt := 1224) okL_law rfl rfl rfl (K h3 hl3)
set_option maxRecDepth 100000 in
theorem la_easter {L n i : Nat} {xs : Nat → Int32} {h : aH} (hi : i + 5 ≤ L) (hL : L ≤ 2560) (hh : LI h) (K : ∀ h2, LI h2 → AW mL_law 12 0 0 n (some (L, xs)) QL (1224, [some (.inr 1024), some (.inr 0), some (.inr 192), some (.inl (i : Int))], [], h2)) : AW mL_law 12 0 0 n (some (L, xs)) QL (997, [some (.inr 1024), some (.inr 0), some (.inr 192), some (.inl (i : Int))], [], h) := by
  obtain ⟨V, Q1, e1, ⟨fs0, hk0⟩, e2⟩ := ag_easter n (xs (i + 1)) (xs (i + 2)) (xs (i + 3)) h hh
  refine aGo okL_law 5 (f' := (1002, [some (.inr 1024), some (.inr 0), some (.inr 192), some (.inl (i : Int))], [.inl ((i : Int) + 1), .inr 1024, .inr 0], h)) rfl ?_
  refine b_sld (j := i + 1) okL_law rfl rfl (by omega) (by omega) (by omega) ?_
  refine aGo okL_law 4 (f' := (1007, [some (.inr 1024), some (.inr 0), some (.inr 192), some (.inl (i : Int))], [.inl ((i : Int) + 2), .inr 1024, .inl (xs (i + 1)).toInt, .inr 0], h)) rfl ?_
  refine b_sld (j := i + 2) okL_law rfl rfl (by omega) (by omega) (by omega) ?_
  refine aGo okL_law 4 (f' := (1012, [some (.inr 1024), some (.inr 0), some (.inr 192), some (.inl (i : Int))], [.inl ((i : Int) + 3), .inr 1024, .inl (xs (i + 2)).toInt, .inl (xs (i + 1)).toInt, .inr 0], h)) rfl ?_
  refine b_sld (j := i + 3) okL_law rfl rfl (by omega) (by omega) (by omega) ?_
  refine b_vE (as := [.inl (xs (i + 1)).toInt, .inl (xs (i + 2)).toInt, .inl (xs (i + 3)).toInt]) (rest := []) (k := 0) okL_law rfl lkL_134 caX7_easter (Nat.le_of_ble_eq_true rfl) rfl (Nat.le_of_ble_eq_true rfl) hk0 rfl rfl e1 ?_
  rintro _ h2 ⟨rfl, hq⟩
  obtain ⟨⟨fs1, hk1⟩, e3⟩ := e2 h2 hq
  refine b_cast (f' := (1016, [some (.inr 1024), some (.inr 0), some (.inr 192), some (.inl (i : Int))], [.inl V], h2)) rfl ?_
  refine aGo okL_law 5 (f' := (1021, [some (.inr 1024), some (.inr 0), some (.inr 192), some (.inl (i : Int))], [.inl ((i : Int) + 1), .inr 1024, .inr 192, .inl V], h2)) rfl ?_
  refine b_sld (j := i + 1) okL_law rfl rfl (by omega) (by omega) (by omega) ?_
  refine aGo okL_law 4 (f' := (1026, [some (.inr 1024), some (.inr 0), some (.inr 192), some (.inl (i : Int))], [.inl ((i : Int) + 2), .inr 1024, .inl (xs (i + 1)).toInt, .inr 192, .inl V], h2)) rfl ?_
  refine b_sld (j := i + 2) okL_law rfl rfl (by omega) (by omega) (by omega) ?_
  refine aGo okL_law 4 (f' := (1031, [some (.inr 1024), some (.inr 0), some (.inr 192), some (.inl (i : Int))], [.inl ((i : Int) + 3), .inr 1024, .inl (xs (i + 2)).toInt, .inl (xs (i + 1)).toInt, .inr 192, .inl V], h2)) rfl ?_
  refine b_sld (j := i + 3) okL_law rfl rfl (by omega) (by omega) (by omega) ?_
  refine b_vE (as := [.inl (xs (i + 1)).toInt, .inl (xs (i + 2)).toInt, .inl (xs (i + 3)).toInt]) (rest := [.inl V]) (k := 192) okL_law rfl lkL_137 caX8_easter (Nat.le_of_ble_eq_true rfl) rfl (Nat.le_of_ble_eq_true rfl) hk1 rfl rfl e3 ?_
  rintro _ h3 ⟨rfl, hl3⟩
  refine b_cast (f' := (1035, [some (.inr 1024), some (.inr 0), some (.inr 192), some (.inl (i : Int))], [.inl V, .inl V], h3)) rfl ?_
  exact b_same (tgt := 1224) okL_law rfl rfl rfl (K h3 hl3)
set_option maxRecDepth 100000 in
theorem la_whatIs {L n i : Nat} {xs : Nat → Int32} {h : aH} (hi : i + 5 ≤ L) (hL : L ≤ 2560) (hh : LI h) (K : ∀ h2, LI h2 → AW mL_law 12 0 0 n (some (L, xs)) QL (1224, [some (.inr 1024), some (.inr 0), some (.inr 192), some (.inl (i : Int))], [], h2)) : AW mL_law 12 0 0 n (some (L, xs)) QL (1040, [some (.inr 1024), some (.inr 0), some (.inr 192), some (.inl (i : Int))], [], h) := by
  obtain ⟨V, Q1, e1, ⟨fs0, hk0⟩, e2⟩ := ag_whatIs n (xs (i + 1)) (xs (i + 2)) h hh
  refine aGo okL_law 5 (f' := (1045, [some (.inr 1024), some (.inr 0), some (.inr 192), some (.inl (i : Int))], [.inl ((i : Int) + 1), .inr 1024, .inr 0], h)) rfl ?_
  refine b_sld (j := i + 1) okL_law rfl rfl (by omega) (by omega) (by omega) ?_
  refine aGo okL_law 4 (f' := (1050, [some (.inr 1024), some (.inr 0), some (.inr 192), some (.inl (i : Int))], [.inl ((i : Int) + 2), .inr 1024, .inl (xs (i + 1)).toInt, .inr 0], h)) rfl ?_
  refine b_sld (j := i + 2) okL_law rfl rfl (by omega) (by omega) (by omega) ?_
  refine b_vE (as := [.inl (xs (i + 1)).toInt, .inl (xs (i + 2)).toInt]) (rest := []) (k := 0) okL_law rfl lkL_138 caX7_whatIs (Nat.le_of_ble_eq_true rfl) rfl (Nat.le_of_ble_eq_true rfl) hk0 rfl rfl e1 ?_
  rintro _ h2 ⟨rfl, hq⟩
  obtain ⟨⟨fs1, hk1⟩, e3⟩ := e2 h2 hq
  refine b_cast (f' := (1054, [some (.inr 1024), some (.inr 0), some (.inr 192), some (.inl (i : Int))], [.inl V], h2)) rfl ?_
  refine aGo okL_law 5 (f' := (1059, [some (.inr 1024), some (.inr 0), some (.inr 192), some (.inl (i : Int))], [.inl ((i : Int) + 1), .inr 1024, .inr 192, .inl V], h2)) rfl ?_
  refine b_sld (j := i + 1) okL_law rfl rfl (by omega) (by omega) (by omega) ?_
  refine aGo okL_law 4 (f' := (1064, [some (.inr 1024), some (.inr 0), some (.inr 192), some (.inl (i : Int))], [.inl ((i : Int) + 2), .inr 1024, .inl (xs (i + 1)).toInt, .inr 192, .inl V], h2)) rfl ?_
  refine b_sld (j := i + 2) okL_law rfl rfl (by omega) (by omega) (by omega) ?_
  refine b_vE (as := [.inl (xs (i + 1)).toInt, .inl (xs (i + 2)).toInt]) (rest := [.inl V]) (k := 192) okL_law rfl lkL_141 caX8_whatIs (Nat.le_of_ble_eq_true rfl) rfl (Nat.le_of_ble_eq_true rfl) hk1 rfl rfl e3 ?_
  rintro _ h3 ⟨rfl, hl3⟩
  refine b_cast (f' := (1068, [some (.inr 1024), some (.inr 0), some (.inr 192), some (.inl (i : Int))], [.inl V, .inl V], h3)) rfl ?_
  exact b_same (tgt := 1224) okL_law rfl rfl rfl (K h3 hl3)
set_option maxRecDepth 100000 in
theorem la_row {L n i : Nat} {xs : Nat → Int32} {h : aH} (hi : i + 5 ≤ L) (hL : L ≤ 2560) (hh : LI h) (K : ∀ h2, LI h2 → AW mL_law 12 0 0 n (some (L, xs)) QL (1224, [some (.inr 1024), some (.inr 0), some (.inr 192), some (.inl (i : Int))], [], h2)) : AW mL_law 12 0 0 n (some (L, xs)) QL (1073, [some (.inr 1024), some (.inr 0), some (.inr 192), some (.inl (i : Int))], [], h) := by
  obtain ⟨V, Q1, e1, ⟨fs0, hk0⟩, e2⟩ := ag_row n (xs (i + 1)) h hh
  refine aGo okL_law 5 (f' := (1078, [some (.inr 1024), some (.inr 0), some (.inr 192), some (.inl (i : Int))], [.inl ((i : Int) + 1), .inr 1024, .inr 0], h)) rfl ?_
  refine b_sld (j := i + 1) okL_law rfl rfl (by omega) (by omega) (by omega) ?_
  refine b_vE (as := [.inl (xs (i + 1)).toInt]) (rest := []) (k := 0) okL_law rfl lkL_142 caX7_row (Nat.le_of_ble_eq_true rfl) rfl (Nat.le_of_ble_eq_true rfl) hk0 rfl rfl e1 ?_
  rintro _ h2 ⟨rfl, hq⟩
  obtain ⟨⟨fs1, hk1⟩, e3⟩ := e2 h2 hq
  refine b_cast (f' := (1082, [some (.inr 1024), some (.inr 0), some (.inr 192), some (.inl (i : Int))], [.inl V], h2)) rfl ?_
  refine aGo okL_law 5 (f' := (1087, [some (.inr 1024), some (.inr 0), some (.inr 192), some (.inl (i : Int))], [.inl ((i : Int) + 1), .inr 1024, .inr 192, .inl V], h2)) rfl ?_
  refine b_sld (j := i + 1) okL_law rfl rfl (by omega) (by omega) (by omega) ?_
  refine b_vE (as := [.inl (xs (i + 1)).toInt]) (rest := [.inl V]) (k := 192) okL_law rfl lkL_145 caX8_row (Nat.le_of_ble_eq_true rfl) rfl (Nat.le_of_ble_eq_true rfl) hk1 rfl rfl e3 ?_
  rintro _ h3 ⟨rfl, hl3⟩
  refine b_cast (f' := (1091, [some (.inr 1024), some (.inr 0), some (.inr 192), some (.inl (i : Int))], [.inl V, .inl V], h3)) rfl ?_
  exact b_same (tgt := 1224) okL_law rfl rfl rfl (K h3 hl3)
set_option maxRecDepth 100000 in
theorem la_judge {L n i : Nat} {xs : Nat → Int32} {h : aH} (hi : i + 5 ≤ L) (hL : L ≤ 2560) (hh : LI h) (K : ∀ h2, LI h2 → AW mL_law 12 0 0 n (some (L, xs)) QL (1224, [some (.inr 1024), some (.inr 0), some (.inr 192), some (.inl (i : Int))], [], h2)) : AW mL_law 12 0 0 n (some (L, xs)) QL (1096, [some (.inr 1024), some (.inr 0), some (.inr 192), some (.inl (i : Int))], [], h) := by
  obtain ⟨V, Q1, e1, ⟨fs0, hk0⟩, e2⟩ := ag_judge n (xs (i + 1)) h hh
  refine aGo okL_law 5 (f' := (1101, [some (.inr 1024), some (.inr 0), some (.inr 192), some (.inl (i : Int))], [.inl ((i : Int) + 1), .inr 1024, .inr 0], h)) rfl ?_
  refine b_sld (j := i + 1) okL_law rfl rfl (by omega) (by omega) (by omega) ?_
  refine b_vE (as := [.inl (xs (i + 1)).toInt]) (rest := []) (k := 0) okL_law rfl lkL_146 caX7_judge (Nat.le_of_ble_eq_true rfl) rfl (Nat.le_of_ble_eq_true rfl) hk0 rfl rfl e1 ?_
  rintro _ h2 ⟨rfl, hq⟩
  obtain ⟨⟨fs1, hk1⟩, e3⟩ := e2 h2 hq
  refine b_cast (f' := (1105, [some (.inr 1024), some (.inr 0), some (.inr 192), some (.inl (i : Int))], [.inl V], h2)) rfl ?_
  refine aGo okL_law 5 (f' := (1110, [some (.inr 1024), some (.inr 0), some (.inr 192), some (.inl (i : Int))], [.inl ((i : Int) + 1), .inr 1024, .inr 192, .inl V], h2)) rfl ?_
  refine b_sld (j := i + 1) okL_law rfl rfl (by omega) (by omega) (by omega) ?_
  refine b_vE (as := [.inl (xs (i + 1)).toInt]) (rest := [.inl V]) (k := 192) okL_law rfl lkL_149 caX8_judge (Nat.le_of_ble_eq_true rfl) rfl (Nat.le_of_ble_eq_true rfl) hk1 rfl rfl e3 ?_
  rintro _ h3 ⟨rfl, hl3⟩
  refine b_cast (f' := (1114, [some (.inr 1024), some (.inr 0), some (.inr 192), some (.inl (i : Int))], [.inl V, .inl V], h3)) rfl ?_
  exact b_same (tgt := 1224) okL_law rfl rfl rfl (K h3 hl3)
set_option maxRecDepth 100000 in
theorem la_clear {L n i : Nat} {xs : Nat → Int32} {h : aH} (hi : i + 5 ≤ L) (hL : L ≤ 2560) (hh : LI h) (K : ∀ h2, LI h2 → AW mL_law 12 0 0 n (some (L, xs)) QL (1224, [some (.inr 1024), some (.inr 0), some (.inr 192), some (.inl (i : Int))], [], h2)) : AW mL_law 12 0 0 n (some (L, xs)) QL (1119, [some (.inr 1024), some (.inr 0), some (.inr 192), some (.inl (i : Int))], [], h) := by
  obtain ⟨V, Q1, e1, ⟨fs0, hk0⟩, e2⟩ := ag_clear n h hh
  refine aGo okL_law 1 (f' := (1120, [some (.inr 1024), some (.inr 0), some (.inr 192), some (.inl (i : Int))], [.inr 0], h)) rfl ?_
  refine b_vE (as := []) (rest := []) (k := 0) okL_law rfl lkL_150 caX7_clear (Nat.le_of_ble_eq_true rfl) rfl (Nat.le_of_ble_eq_true rfl) hk0 rfl rfl e1 ?_
  rintro _ h2 ⟨rfl, hq⟩
  obtain ⟨⟨fs1, hk1⟩, e3⟩ := e2 h2 hq
  refine b_cast (f' := (1123, [some (.inr 1024), some (.inr 0), some (.inr 192), some (.inl (i : Int))], [.inl V], h2)) rfl ?_
  refine aGo okL_law 1 (f' := (1124, [some (.inr 1024), some (.inr 0), some (.inr 192), some (.inl (i : Int))], [.inr 192, .inl V], h2)) rfl ?_
  refine b_vE (as := []) (rest := [.inl V]) (k := 192) okL_law rfl lkL_153 caX8_clear (Nat.le_of_ble_eq_true rfl) rfl (Nat.le_of_ble_eq_true rfl) hk1 rfl rfl e3 ?_
  rintro _ h3 ⟨rfl, hl3⟩
  refine b_cast (f' := (1127, [some (.inr 1024), some (.inr 0), some (.inr 192), some (.inl (i : Int))], [.inl V, .inl V], h3)) rfl ?_
  exact b_same (tgt := 1224) okL_law rfl rfl rfl (K h3 hl3)
set_option maxRecDepth 100000 in
theorem la_lots {L n i : Nat} {xs : Nat → Int32} {h : aH} (hi : i + 5 ≤ L) (hL : L ≤ 2560) (hh : LI h) (K : ∀ h2, LI h2 → AW mL_law 12 0 0 n (some (L, xs)) QL (1224, [some (.inr 1024), some (.inr 0), some (.inr 192), some (.inl (i : Int))], [], h2)) : AW mL_law 12 0 0 n (some (L, xs)) QL (1132, [some (.inr 1024), some (.inr 0), some (.inr 192), some (.inl (i : Int))], [], h) := by
  obtain ⟨V, Q1, e1, ⟨fs0, hk0⟩, e2⟩ := ag_lots n (xs (i + 1)) (xs (i + 2)) (xs (i + 3)) h hh
  refine aGo okL_law 5 (f' := (1137, [some (.inr 1024), some (.inr 0), some (.inr 192), some (.inl (i : Int))], [.inl ((i : Int) + 1), .inr 1024, .inr 0], h)) rfl ?_
  refine b_sld (j := i + 1) okL_law rfl rfl (by omega) (by omega) (by omega) ?_
  refine aGo okL_law 4 (f' := (1142, [some (.inr 1024), some (.inr 0), some (.inr 192), some (.inl (i : Int))], [.inl ((i : Int) + 2), .inr 1024, .inl (xs (i + 1)).toInt, .inr 0], h)) rfl ?_
  refine b_sld (j := i + 2) okL_law rfl rfl (by omega) (by omega) (by omega) ?_
  refine aGo okL_law 4 (f' := (1147, [some (.inr 1024), some (.inr 0), some (.inr 192), some (.inl (i : Int))], [.inl ((i : Int) + 3), .inr 1024, .inl (xs (i + 2)).toInt, .inl (xs (i + 1)).toInt, .inr 0], h)) rfl ?_
  refine b_sld (j := i + 3) okL_law rfl rfl (by omega) (by omega) (by omega) ?_
  refine b_vE (as := [.inl (xs (i + 1)).toInt, .inl (xs (i + 2)).toInt, .inl (xs (i + 3)).toInt]) (rest := []) (k := 0) okL_law rfl lkL_154 caX7_lots (Nat.le_of_ble_eq_true rfl) rfl (Nat.le_of_ble_eq_true rfl) hk0 rfl rfl e1 ?_
  rintro _ h2 ⟨rfl, hq⟩
  obtain ⟨⟨fs1, hk1⟩, e3⟩ := e2 h2 hq
  refine b_cast (f' := (1151, [some (.inr 1024), some (.inr 0), some (.inr 192), some (.inl (i : Int))], [.inl V], h2)) rfl ?_
  refine aGo okL_law 5 (f' := (1156, [some (.inr 1024), some (.inr 0), some (.inr 192), some (.inl (i : Int))], [.inl ((i : Int) + 1), .inr 1024, .inr 192, .inl V], h2)) rfl ?_
  refine b_sld (j := i + 1) okL_law rfl rfl (by omega) (by omega) (by omega) ?_
  refine aGo okL_law 4 (f' := (1161, [some (.inr 1024), some (.inr 0), some (.inr 192), some (.inl (i : Int))], [.inl ((i : Int) + 2), .inr 1024, .inl (xs (i + 1)).toInt, .inr 192, .inl V], h2)) rfl ?_
  refine b_sld (j := i + 2) okL_law rfl rfl (by omega) (by omega) (by omega) ?_
  refine aGo okL_law 4 (f' := (1166, [some (.inr 1024), some (.inr 0), some (.inr 192), some (.inl (i : Int))], [.inl ((i : Int) + 3), .inr 1024, .inl (xs (i + 2)).toInt, .inl (xs (i + 1)).toInt, .inr 192, .inl V], h2)) rfl ?_
  refine b_sld (j := i + 3) okL_law rfl rfl (by omega) (by omega) (by omega) ?_
  refine b_vE (as := [.inl (xs (i + 1)).toInt, .inl (xs (i + 2)).toInt, .inl (xs (i + 3)).toInt]) (rest := [.inl V]) (k := 192) okL_law rfl lkL_157 caX8_lots (Nat.le_of_ble_eq_true rfl) rfl (Nat.le_of_ble_eq_true rfl) hk1 rfl rfl e3 ?_
  rintro _ h3 ⟨rfl, hl3⟩
  refine b_cast (f' := (1170, [some (.inr 1024), some (.inr 0), some (.inr 192), some (.inl (i : Int))], [.inl V, .inl V], h3)) rfl ?_
  exact b_same (tgt := 1224) okL_law rfl rfl rfl (K h3 hl3)
set_option maxRecDepth 100000 in
theorem la_image {L n i : Nat} {xs : Nat → Int32} {h : aH} (hi : i + 5 ≤ L) (hL : L ≤ 2560) (hh : LI h) (K : ∀ h2, LI h2 → AW mL_law 12 0 0 n (some (L, xs)) QL (1224, [some (.inr 1024), some (.inr 0), some (.inr 192), some (.inl (i : Int))], [], h2)) : AW mL_law 12 0 0 n (some (L, xs)) QL (1175, [some (.inr 1024), some (.inr 0), some (.inr 192), some (.inl (i : Int))], [], h) := by
  obtain ⟨V, Q1, e1, ⟨fs0, hk0⟩, e2⟩ := ag_image n h hh
  refine aGo okL_law 1 (f' := (1176, [some (.inr 1024), some (.inr 0), some (.inr 192), some (.inl (i : Int))], [.inr 0], h)) rfl ?_
  refine b_vE (as := []) (rest := []) (k := 0) okL_law rfl lkL_158 caX7_image (Nat.le_of_ble_eq_true rfl) rfl (Nat.le_of_ble_eq_true rfl) hk0 rfl rfl e1 ?_
  rintro _ h2 ⟨rfl, hq⟩
  obtain ⟨⟨fs1, hk1⟩, e3⟩ := e2 h2 hq
  refine b_cast (f' := (1179, [some (.inr 1024), some (.inr 0), some (.inr 192), some (.inl (i : Int))], [.inl V], h2)) rfl ?_
  refine aGo okL_law 1 (f' := (1180, [some (.inr 1024), some (.inr 0), some (.inr 192), some (.inl (i : Int))], [.inr 192, .inl V], h2)) rfl ?_
  refine b_vE (as := []) (rest := [.inl V]) (k := 192) okL_law rfl lkL_161 caX8_image (Nat.le_of_ble_eq_true rfl) rfl (Nat.le_of_ble_eq_true rfl) hk1 rfl rfl e3 ?_
  rintro _ h3 ⟨rfl, hl3⟩
  refine b_cast (f' := (1183, [some (.inr 1024), some (.inr 0), some (.inr 192), some (.inl (i : Int))], [.inl V, .inl V], h3)) rfl ?_
  exact b_same (tgt := 1224) okL_law rfl rfl rfl (K h3 hl3)
set_option maxRecDepth 100000 in
theorem la_on {L n i : Nat} {xs : Nat → Int32} {h : aH} (hi : i + 5 ≤ L) (hL : L ≤ 2560) (hh : LI h) (K : ∀ h2, LI h2 → AW mL_law 12 0 0 n (some (L, xs)) QL (1224, [some (.inr 1024), some (.inr 0), some (.inr 192), some (.inl (i : Int))], [], h2)) : AW mL_law 12 0 0 n (some (L, xs)) QL (1188, [some (.inr 1024), some (.inr 0), some (.inr 192), some (.inl (i : Int))], [], h) := by
  obtain ⟨V, Q1, e1, ⟨fs0, hk0⟩, e2⟩ := ag_on n h hh
  refine aGo okL_law 1 (f' := (1189, [some (.inr 1024), some (.inr 0), some (.inr 192), some (.inl (i : Int))], [.inr 0], h)) rfl ?_
  refine b_vE (as := []) (rest := []) (k := 0) okL_law rfl lkL_162 caX7_on (Nat.le_of_ble_eq_true rfl) rfl (Nat.le_of_ble_eq_true rfl) hk0 rfl rfl e1 ?_
  rintro _ h2 ⟨rfl, hq⟩
  obtain ⟨⟨fs1, hk1⟩, e3⟩ := e2 h2 hq
  refine b_cast (f' := (1192, [some (.inr 1024), some (.inr 0), some (.inr 192), some (.inl (i : Int))], [.inl V], h2)) rfl ?_
  refine aGo okL_law 1 (f' := (1193, [some (.inr 1024), some (.inr 0), some (.inr 192), some (.inl (i : Int))], [.inr 192, .inl V], h2)) rfl ?_
  refine b_vE (as := []) (rest := [.inl V]) (k := 192) okL_law rfl lkL_165 caX8_on (Nat.le_of_ble_eq_true rfl) rfl (Nat.le_of_ble_eq_true rfl) hk1 rfl rfl e3 ?_
  rintro _ h3 ⟨rfl, hl3⟩
  refine b_cast (f' := (1196, [some (.inr 1024), some (.inr 0), some (.inr 192), some (.inl (i : Int))], [.inl V, .inl V], h3)) rfl ?_
  exact b_same (tgt := 1224) okL_law rfl rfl rfl (K h3 hl3)
set_option maxRecDepth 100000 in
theorem la_count {L n i : Nat} {xs : Nat → Int32} {h : aH} (hi : i + 5 ≤ L) (hL : L ≤ 2560) (hh : LI h) (K : ∀ h2, LI h2 → AW mL_law 12 0 0 n (some (L, xs)) QL (1224, [some (.inr 1024), some (.inr 0), some (.inr 192), some (.inl (i : Int))], [], h2)) : AW mL_law 12 0 0 n (some (L, xs)) QL (1201, [some (.inr 1024), some (.inr 0), some (.inr 192), some (.inl (i : Int))], [], h) := by
  obtain ⟨V, Q1, e1, ⟨fs0, hk0⟩, e2⟩ := ag_count n (xs (i + 1)) h hh
  refine aGo okL_law 5 (f' := (1206, [some (.inr 1024), some (.inr 0), some (.inr 192), some (.inl (i : Int))], [.inl ((i : Int) + 1), .inr 1024, .inr 0], h)) rfl ?_
  refine b_sld (j := i + 1) okL_law rfl rfl (by omega) (by omega) (by omega) ?_
  refine b_vE (as := [.inl (xs (i + 1)).toInt]) (rest := []) (k := 0) okL_law rfl lkL_166 caX7_count (Nat.le_of_ble_eq_true rfl) rfl (Nat.le_of_ble_eq_true rfl) hk0 rfl rfl e1 ?_
  rintro _ h2 ⟨rfl, hq⟩
  obtain ⟨⟨fs1, hk1⟩, e3⟩ := e2 h2 hq
  refine b_cast (f' := (1210, [some (.inr 1024), some (.inr 0), some (.inr 192), some (.inl (i : Int))], [.inl V], h2)) rfl ?_
  refine aGo okL_law 5 (f' := (1215, [some (.inr 1024), some (.inr 0), some (.inr 192), some (.inl (i : Int))], [.inl ((i : Int) + 1), .inr 1024, .inr 192, .inl V], h2)) rfl ?_
  refine b_sld (j := i + 1) okL_law rfl rfl (by omega) (by omega) (by omega) ?_
  refine b_vE (as := [.inl (xs (i + 1)).toInt]) (rest := [.inl V]) (k := 192) okL_law rfl lkL_169 caX8_count (Nat.le_of_ble_eq_true rfl) rfl (Nat.le_of_ble_eq_true rfl) hk1 rfl rfl e3 ?_
  rintro _ h3 ⟨rfl, hl3⟩
  refine b_cast (f' := (1219, [some (.inr 1024), some (.inr 0), some (.inr 192), some (.inl (i : Int))], [.inl V, .inl V], h3)) rfl ?_
  exact b_same (tgt := 1224) okL_law rfl rfl rfl (K h3 hl3)
set_option maxRecDepth 100000 in
theorem law_loop {L n : Nat} {xs : Nat → Int32} (hL : L ≤ 2560) : ∀ (j i : Nat) (h : aH), L ≤ i + j → i ≤ 2565 → LI h → AW mL_law 12 0 0 n (some (L, xs)) QL (18, [some (.inr 1024), some (.inr 0), some (.inr 192), some (.inl (i : Int))], [], h) := by
  intro j
  induction j with
  | zero =>
    intro i h hj hi2 hh
    refine aGo okL_law 2 (f' := (20, [some (.inr 1024), some (.inr 0), some (.inr 192), some (.inl (i : Int))], [.inr 1024, .inl (i : Int)], h)) rfl ?_
    refine b_slen okL_law rfl rfl ?_
    refine aGo okL_law 2 (f' := (23, [some (.inr 1024), some (.inr 0), some (.inr 192), some (.inl (i : Int))], [.inl ((L : Int) - 5), .inl (i : Int)], h)) rfl ?_
    refine b_gt (tgt := 1230) okL_law rfl rfl ⟨by omega, by omega⟩ ⟨by omega, by omega⟩ (fun h23 => ?_) (fun h23 => absurd h23 (by omega))
    refine aGo okL_law 1 (f' := (1231, [some (.inr 1024), some (.inr 0), some (.inr 192), some (.inl (i : Int))], [.inl 1], h)) rfl ?_
    exact b_ret (v := (some (.inl 1))) ⟨rfl, Or.inr ⟨rfl, Or.inr rfl⟩⟩ rfl rfl
  | succ j ih =>
    intro i h hj hi2 hh
    refine aGo okL_law 2 (f' := (20, [some (.inr 1024), some (.inr 0), some (.inr 192), some (.inl (i : Int))], [.inr 1024, .inl (i : Int)], h)) rfl ?_
    refine b_slen okL_law rfl rfl ?_
    refine aGo okL_law 2 (f' := (23, [some (.inr 1024), some (.inr 0), some (.inr 192), some (.inl (i : Int))], [.inl ((L : Int) - 5), .inl (i : Int)], h)) rfl ?_
    refine b_gt (tgt := 1230) okL_law rfl rfl ⟨by omega, by omega⟩ ⟨by omega, by omega⟩ (fun h23 => ?_) (fun h23 => ?_)
    · refine aGo okL_law 1 (f' := (1231, [some (.inr 1024), some (.inr 0), some (.inr 192), some (.inl (i : Int))], [.inl 1], h)) rfl ?_
      exact b_ret (v := (some (.inl 1))) ⟨rfl, Or.inr ⟨rfl, Or.inr rfl⟩⟩ rfl rfl
    · have hi5 : i + 5 ≤ L := by omega
      have K : ∀ h2, LI h2 → AW mL_law 12 0 0 n (some (L, xs)) QL (1224, [some (.inr 1024), some (.inr 0), some (.inr 192), some (.inl (i : Int))], [], h2) := fun h2 hh2 => by
        refine aGo okL_law 2 (f' := (18, [some (.inr 1024), some (.inr 0), some (.inr 192), some (.inl ((i : Int) + 5))], [], h2)) rfl ?_
        exact ih (i + 5) h2 (by omega) (by omega) hh2
      refine aGo okL_law 2 (f' := (28, [some (.inr 1024), some (.inr 0), some (.inr 192), some (.inl (i : Int))], [.inl (i : Int), .inr 1024], h)) rfl ?_
      refine b_sld (j := i) okL_law rfl rfl rfl (by omega) (by omega) ?_
      refine aGo okL_law 2 (f' := (32, [some (.inr 1024), some (.inr 0), some (.inr 192), some (.inl (i : Int))], [.inl (aAnd (xs i).toInt 63)], h)) rfl ?_
      have hA : aI (aAnd (xs i).toInt 63) := aI_of _
      generalize aAnd (xs i).toInt 63 = A at hA ⊢
      by_cases hs : 0 ≤ A ∧ A ≤ 37
      · have hsx : A = 0 ∨ A = 1 ∨ A = 2 ∨ A = 3 ∨ A = 4 ∨ A = 5 ∨ A = 6 ∨ A = 7 ∨ A = 8 ∨ A = 9 ∨ A = 10 ∨ A = 11 ∨ A = 12 ∨ A = 13 ∨ A = 14 ∨ A = 15 ∨ A = 16 ∨ A = 17 ∨ A = 18 ∨ A = 19 ∨ A = 20 ∨ A = 21 ∨ A = 22 ∨ A = 23 ∨ A = 24 ∨ A = 25 ∨ A = 26 ∨ A = 27 ∨ A = 28 ∨ A = 29 ∨ A = 30 ∨ A = 31 ∨ A = 32 ∨ A = 33 ∨ A = 34 ∨ A = 35 ∨ A = 36 ∨ A = 37 := by omega
        rcases hsx with hsw | hsw | hsw | hsw | hsw | hsw | hsw | hsw | hsw | hsw | hsw | hsw | hsw | hsw | hsw | hsw | hsw | hsw | hsw | hsw | hsw | hsw | hsw | hsw | hsw | hsw | hsw | hsw | hsw | hsw | hsw | hsw | hsw | hsw | hsw | hsw | hsw | hsw
        · subst hsw
          exact b_swIn (tgt := 200) okL_law rfl hA (by decide) (by decide) rfl rfl (la_letter hi5 hL hh K)
        · subst hsw
          exact b_swIn (tgt := 223) okL_law rfl hA (by decide) (by decide) rfl rfl (la_moor hi5 hL hh K)
        · subst hsw
          exact b_swIn (tgt := 236) okL_law rfl hA (by decide) (by decide) rfl rfl (la_person hi5 hL hh K)
        · subst hsw
          exact b_swIn (tgt := 269) okL_law rfl hA (by decide) (by decide) rfl rfl (la_owns hi5 hL hh K)
        · subst hsw
          exact b_swIn (tgt := 292) okL_law rfl hA (by decide) (by decide) rfl rfl (la_loan hi5 hL hh K)
        · subst hsw
          exact b_swIn (tgt := 325) okL_law rfl hA (by decide) (by decide) rfl rfl (la_go hi5 hL hh K)
        · subst hsw
          exact b_swIn (tgt := 358) okL_law rfl hA (by decide) (by decide) rfl rfl (la_lend hi5 hL hh K)
        · subst hsw
          exact b_swIn (tgt := 401) okL_law rfl hA (by decide) (by decide) rfl rfl (la_keep hi5 hL hh K)
        · subst hsw
          exact b_swIn (tgt := 434) okL_law rfl hA (by decide) (by decide) rfl rfl (la_need hi5 hL hh K)
        · subst hsw
          exact b_swIn (tgt := 467) okL_law rfl hA (by decide) (by decide) rfl rfl (la_sum hi5 hL hh K)
        · subst hsw
          exact b_swIn (tgt := 490) okL_law rfl hA (by decide) (by decide) rfl rfl (la_days hi5 hL hh K)
        · subst hsw
          exact b_swIn (tgt := 513) okL_law rfl hA (by decide) (by decide) rfl rfl (la_behind hi5 hL hh K)
        · subst hsw
          exact b_swIn (tgt := 556) okL_law rfl hA (by decide) (by decide) rfl rfl (la_firstShort hi5 hL hh K)
        · subst hsw
          exact b_swIn (tgt := 579) okL_law rfl hA (by decide) (by decide) rfl rfl (la_lasts hi5 hL hh K)
        · subst hsw
          exact b_swIn (tgt := 602) okL_law rfl hA (by decide) (by decide) rfl rfl (la_bestCell hi5 hL hh K)
        · subst hsw
          exact b_swIn (tgt := 635) okL_law rfl hA (by decide) (by decide) rfl rfl (la_takes hi5 hL hh K)
        · subst hsw
          exact b_swIn (tgt := 668) okL_law rfl hA (by decide) (by decide) rfl rfl (la_worst hi5 hL hh K)
        · subst hsw
          exact b_swIn (tgt := 691) okL_law rfl hA (by decide) (by decide) rfl rfl (la_newcomer hi5 hL hh K)
        · subst hsw
          exact b_swIn (tgt := 724) okL_law rfl hA (by decide) (by decide) rfl rfl (la_leaves hi5 hL hh K)
        · subst hsw
          exact b_swIn (tgt := 747) okL_law rfl hA (by decide) (by decide) rfl rfl (la_enough hi5 hL hh K)
        · subst hsw
          exact b_swIn (tgt := 760) okL_law rfl hA (by decide) (by decide) rfl rfl (la_help hi5 hL hh K)
        · subst hsw
          exact b_swIn (tgt := 793) okL_law rfl hA (by decide) (by decide) rfl rfl (la_net hi5 hL hh K)
        · subst hsw
          exact b_swIn (tgt := 816) okL_law rfl hA (by decide) (by decide) rfl rfl (la_loans hi5 hL hh K)
        · subst hsw
          exact b_swIn (tgt := 839) okL_law rfl hA (by decide) (by decide) rfl rfl (la_survey hi5 hL hh K)
        · subst hsw
          exact b_swIn (tgt := 862) okL_law rfl hA (by decide) (by decide) rfl rfl (la_bestSurvey hi5 hL hh K)
        · subst hsw
          exact b_swIn (tgt := 875) okL_law rfl hA (by decide) (by decide) rfl rfl (la_quarrel hi5 hL hh K)
        · subst hsw
          exact b_swIn (tgt := 928) okL_law rfl hA (by decide) (by decide) rfl rfl (la_two hi5 hL hh K)
        · subst hsw
          exact b_swIn (tgt := 961) okL_law rfl hA (by decide) (by decide) rfl rfl (la_crowd hi5 hL hh K)
        · subst hsw
          exact b_swIn (tgt := 984) okL_law rfl hA (by decide) (by decide) rfl rfl (la_raise hi5 hL hh K)
        · subst hsw
          exact b_swIn (tgt := 997) okL_law rfl hA (by decide) (by decide) rfl rfl (la_easter hi5 hL hh K)
        · subst hsw
          exact b_swIn (tgt := 1040) okL_law rfl hA (by decide) (by decide) rfl rfl (la_whatIs hi5 hL hh K)
        · subst hsw
          exact b_swIn (tgt := 1073) okL_law rfl hA (by decide) (by decide) rfl rfl (la_row hi5 hL hh K)
        · subst hsw
          exact b_swIn (tgt := 1096) okL_law rfl hA (by decide) (by decide) rfl rfl (la_judge hi5 hL hh K)
        · subst hsw
          exact b_swIn (tgt := 1119) okL_law rfl hA (by decide) (by decide) rfl rfl (la_clear hi5 hL hh K)
        · subst hsw
          exact b_swIn (tgt := 1132) okL_law rfl hA (by decide) (by decide) rfl rfl (la_lots hi5 hL hh K)
        · subst hsw
          exact b_swIn (tgt := 1175) okL_law rfl hA (by decide) (by decide) rfl rfl (la_image hi5 hL hh K)
        · subst hsw
          exact b_swIn (tgt := 1188) okL_law rfl hA (by decide) (by decide) rfl rfl (la_on hi5 hL hh K)
        · subst hsw
          exact b_swIn (tgt := 1201) okL_law rfl hA (by decide) (by decide) rfl rfl (la_count hi5 hL hh K)
      · exact b_swOut (tgt := 1224) okL_law rfl hA (by omega) rfl (K h hh)
