/-! String constants: contracts. -/
theorem tx_shr : ∀ i : Nat, i < 8 → aShr ((aTxLen.getD i 0 : Nat) : Int) 0 = ((aTxLen.getD i 0 : Nat) : Int) := by decide +kernel
theorem tx_len : ∀ i : Nat, i < 8 → aTxLen.getD i 0 ≤ 8 := by decide +kernel
theorem tx_and : ∀ i : Nat, i < 8 → ∀ j : Nat, j < 8 → aAnd (chr i j) 255 = chr i j ∧ 0 ≤ chr i j ∧ chr i j ≤ 127 := by decide +kernel
section AJD
variable {N i : Nat} {h : aH}
theorem c_coder (hi : i < 8) : aEx mJ0_coder_7d493 0 N [.inr (1025 + i)] h (some (.inl 0)) h := by
  refine aEv_of okJ0_coder_7d493 caJ0_coder_7d493 (Nat.le_of_ble_eq_true rfl) ?_
  refine b_gets (pc := 0) (by decide +kernel) flJ0_38 ?_
  refine b0_eq (tgt := 13) okJ0_coder_7d493 rfl rfl ⟨by omega, by omega⟩ (fun h1 => absurd h1 (by decide)) (fun h1 => ?_)
  refine aGo okJ0_coder_7d493 1 (f' := (7, [some (.inr (1025 + i))], [.inr (1025 + i)], h)) rfl ?_
  refine b_scod okJ0_coder_7d493 rfl flJ0_15 hi ?_
  refine aGo okJ0_coder_7d493 1 (f' := (14, [some (.inr (1025 + i))], [.inl 0], h)) rfl ?_
  exact b_ret (v := some (.inl 0)) ⟨rfl, Or.inl rfl⟩ ⟨rfl, rfl⟩ rfl
theorem c_isLatin1 (hi : i < 8) : aEx mJ0_isLatin1_aae02 0 N [.inr (1025 + i)] h (some (.inl 1)) h := by
  refine aEv_of okJ0_isLatin1_aae02 caJ0_isLatin1_aae02 (Nat.le_of_ble_eq_true rfl) ?_
  refine b_gets (pc := 0) (by decide +kernel) flJ0_38 ?_
  refine b0_eq (tgt := 17) okJ0_isLatin1_aae02 rfl rfl ⟨by omega, by omega⟩ (fun h1 => absurd h1 (by decide)) (fun h1 => ?_)
  refine aGo okJ0_isLatin1_aae02 1 (f' := (7, [some (.inr (1025 + i))], [.inr (1025 + i)], h)) rfl ?_
  refine b_scod okJ0_isLatin1_aae02 rfl flJ0_15 hi ?_
  refine b0_ne (tgt := 17) okJ0_isLatin1_aae02 rfl rfl ⟨by omega, by omega⟩ (fun h1 => absurd rfl h1) (fun h1 => ?_)
  refine aGo okJ0_isLatin1_aae02 2 (f' := (18, [some (.inr (1025 + i))], [.inl 1], h)) rfl ?_
  exact b_ret (v := some (.inl 1)) ⟨rfl, Or.inr ⟨rfl, Or.inr rfl⟩⟩ ⟨rfl, rfl⟩ rfl
theorem c_strLen (hi : i < 8) : aEx mJ0_length_8abf5 1 N [.inr (1025 + i)] h (some (.inl ((aTxLen.getD i 0 : Nat) : Int))) h := by
  refine aEv_of okJ0_length_8abf5 caJ0_length_8abf5 (Nat.le_of_ble_eq_true rfl) ?_
  refine aGo okJ0_length_8abf5 1 (f' := (1, [some (.inr (1025 + i))], [.inr (1025 + i)], h)) rfl ?_
  refine b_sval okJ0_length_8abf5 rfl flJ0_9 hi ?_
  refine b_sblen okJ0_length_8abf5 rfl hi ?_
  refine aGo okJ0_length_8abf5 1 (f' := (6, [some (.inr (1025 + i))], [.inr (1025 + i), .inl ((aTxLen.getD i 0 : Nat) : Int)], h)) rfl ?_
  refine b_vZ (as := []) (rest := [.inl ((aTxLen.getD i 0 : Nat) : Int)]) (.inl 0) okJ0_length_8abf5 rfl lkJ0_335 caJ0_coder_7d493 (Nat.le_of_ble_eq_true rfl) rfl (Nat.le_of_ble_eq_true rfl) hi rfl rfl (c_coder hi) ?_
  refine aGo okJ0_length_8abf5 1 (f' := (10, [some (.inr (1025 + i))], [.inl (aShr ((aTxLen.getD i 0 : Nat) : Int) 0)], h)) rfl ?_
  exact b_ret (v := some (.inl (aShr ((aTxLen.getD i 0 : Nat) : Int) 0))) ⟨rfl, Or.inl rfl⟩ ⟨by rw [tx_shr i hi], rfl⟩ rfl
theorem c_isEmpty_t (hi : i < 8) (he : aTxLen.getD i 0 = 0) : aEx mJ0_isEmpty_aae02 0 N [.inr (1025 + i)] h (some (.inl 1)) h := by
  refine aEv_of okJ0_isEmpty_aae02 caJ0_isEmpty_aae02 (Nat.le_of_ble_eq_true rfl) ?_
  refine aGo okJ0_isEmpty_aae02 1 (f' := (1, [some (.inr (1025 + i))], [.inr (1025 + i)], h)) rfl ?_
  refine b_sval okJ0_isEmpty_aae02 rfl flJ0_9 hi ?_
  refine b_sblen okJ0_isEmpty_aae02 rfl hi ?_
  have e1 := tx_len i hi
  refine b0_ne (tgt := 12) okJ0_isEmpty_aae02 rfl rfl ⟨by omega, by omega⟩ (fun h1 => absurd h1 (by omega)) (fun h1 => ?_)
  refine aGo okJ0_isEmpty_aae02 2 (f' := (13, [some (.inr (1025 + i))], [.inl 1], h)) rfl ?_
  exact b_ret (v := some (.inl 1)) ⟨rfl, Or.inr ⟨rfl, Or.inr rfl⟩⟩ ⟨rfl, rfl⟩ rfl
theorem c_isEmpty_f (hi : i < 8) (he : aTxLen.getD i 0 ≠ 0) : aEx mJ0_isEmpty_aae02 0 N [.inr (1025 + i)] h (some (.inl 0)) h := by
  refine aEv_of okJ0_isEmpty_aae02 caJ0_isEmpty_aae02 (Nat.le_of_ble_eq_true rfl) ?_
  refine aGo okJ0_isEmpty_aae02 1 (f' := (1, [some (.inr (1025 + i))], [.inr (1025 + i)], h)) rfl ?_
  refine b_sval okJ0_isEmpty_aae02 rfl flJ0_9 hi ?_
  refine b_sblen okJ0_isEmpty_aae02 rfl hi ?_
  have e1 := tx_len i hi
  refine b0_ne (tgt := 12) okJ0_isEmpty_aae02 rfl rfl ⟨by omega, by omega⟩ (fun h1 => ?_) (fun h1 => absurd h1 (by omega))
  refine aGo okJ0_isEmpty_aae02 1 (f' := (13, [some (.inr (1025 + i))], [.inl 0], h)) rfl ?_
  exact b_ret (v := some (.inl 0)) ⟨rfl, Or.inr ⟨rfl, Or.inl rfl⟩⟩ ⟨rfl, rfl⟩ rfl
theorem c_checkIndex3 {a b : Int} (ha : 0 ≤ a) (hab : a < b) (hb : b ≤ 65535) : aEvX mJ3_checkIndex_8e157 0 0 0 N [.inl a, .inl b] h (aQx (some (.inl a)) h) := by
  refine aEvX_of okJ3_checkIndex_8e157 caJ3_checkIndex_8e157 (Nat.le_of_ble_eq_true rfl) ?_
  refine aGo okJ3_checkIndex_8e157 1 (f' := (1, [some (.inl a), some (.inl b), none], [.inl a], h)) rfl ?_
  refine b0_lt (tgt := 9) okJ3_checkIndex_8e157 rfl rfl ⟨by omega, by omega⟩ (fun h1 => absurd h1 (by omega)) (fun h1 => ?_)
  refine aGo okJ3_checkIndex_8e157 2 (f' := (6, [some (.inl a), some (.inl b), none], [.inl b, .inl a], h)) rfl ?_
  refine b_lt (tgt := 16) okJ3_checkIndex_8e157 rfl rfl ⟨by omega, by omega⟩ ⟨by omega, by omega⟩ (fun h1 => ?_) (fun h1 => absurd h1 (by omega))
  refine aGo okJ3_checkIndex_8e157 1 (f' := (17, [some (.inl a), some (.inl b), none], [.inl a], h)) rfl ?_
  exact b_ret (v := some (.inl a)) ⟨rfl, Or.inl rfl⟩ ⟨rfl, rfl⟩ rfl
theorem c_checkIndex {a b : Int} (ha : 0 ≤ a) (hab : a < b) (hb : b ≤ 65535) : aEx mJ0_checkIndex_df160 1 N [.inl a, .inl b] h none h := by
  refine aEv_of okJ0_checkIndex_df160 caJ0_checkIndex_df160 (Nat.le_of_ble_eq_true rfl) ?_
  refine aGo okJ0_checkIndex_df160 2 (f' := (2, [some (.inl a), some (.inl b)], [.inl b, .inl a], h)) rfl ?_
  refine b_callX (kc := 0) (ks := 0) (as := [.inl a, .inl b]) (rest := []) (pc := 2) okJ0_checkIndex_df160 (by decide +kernel) flJ0_1053 rfl lkJ0_1059 caJ3_checkIndex_8e157 (Nat.le_of_ble_eq_true rfl) rfl (Nat.le_of_ble_eq_true rfl) rfl (c_checkIndex3 ha hab hb) ?_
  rintro _ h ⟨rfl, rfl⟩
  refine aGo okJ0_checkIndex_df160 1 (f' := (9, [some (.inl a), some (.inl b)], [], h)) rfl ?_
  exact b_ret (v := none) ⟨rfl, rfl⟩ ⟨rfl, rfl⟩ rfl
theorem c_charAt1 (hi : i < 8) {j : Nat} (hj : j < aTxLen.getD i 0) : aEx mJ1_charAt_3b067 2 N [.inr (1033 + i), .inl (j : Int)] h (some (.inl (chr i j))) h := by
  have e1 := tx_len i hi
  have e2 := tx_and i hi j (by omega)
  refine aEv_of okJ1_charAt_3b067 caJ1_charAt_3b067 (Nat.le_of_ble_eq_true rfl) ?_
  refine aGo okJ1_charAt_3b067 2 (f' := (2, [some (.inr (1033 + i)), some (.inl (j : Int))], [.inr (1033 + i), .inl (j : Int)], h)) rfl ?_
  refine b_sblen okJ1_charAt_3b067 rfl hi ?_
  have hck := b_callS (kc := 0) (ks := 0) (d := 2) (sc := none) (Q := aQx (some (.inl (chr i j))) h) (pc := 3) (ls := [some (.inr (1033 + i)), some (.inl (j : Int))]) (as := [.inl (j : Int), .inl ((aTxLen.getD i 0 : Nat) : Int)]) (rest := []) okJ1_charAt_3b067 rfl lkJ1_9 caJ0_checkIndex_df160 (Nat.le_of_ble_eq_true rfl) rfl (Nat.le_of_ble_eq_true rfl) rfl (c_checkIndex (N := N) (h := h) (a := (j : Int)) (b := ((aTxLen.getD i 0 : Nat) : Int)) (by omega) (by omega) (by omega))
  refine hck ?_
  rintro _ h ⟨rfl, rfl⟩
  refine aGo okJ1_charAt_3b067 2 (f' := (8, [some (.inr (1033 + i)), some (.inl (j : Int))], [.inl (j : Int), .inr (1033 + i)], h)) rfl ?_
  refine b_sbld (j := j) okJ1_charAt_3b067 rfl hi rfl hj (by omega) ?_
  refine aGo okJ1_charAt_3b067 2 (f' := (13, [some (.inr (1033 + i)), some (.inl (j : Int))], [.inl (aAnd (chr i j) 255)], h)) rfl ?_
  rw [e2.1]
  refine b_i2c okJ1_charAt_3b067 rfl (by omega) ?_
  exact b_ret (v := some (.inl (chr i j))) ⟨rfl, Or.inl (by show (decide (0 ≤ chr i j) && decide (chr i j ≤ 65535)) = true; rw [decide_eq_true (by omega), decide_eq_true (by omega)]; rfl)⟩ ⟨rfl, rfl⟩ rfl
theorem c_strAt (hi : i < 8) {j : Nat} (hj : j < aTxLen.getD i 0) : aEx mJ0_charAt_5068e 3 N [.inr (1025 + i), .inl (j : Int)] h (some (.inl (chr i j))) h := by
  have e1 := tx_len i hi
  have e2 := tx_and i hi j (by omega)
  refine aEv_of okJ0_charAt_5068e caJ0_charAt_5068e (Nat.le_of_ble_eq_true rfl) ?_
  refine aGo okJ0_charAt_5068e 1 (f' := (1, [some (.inr (1025 + i)), some (.inl (j : Int))], [.inr (1025 + i)], h)) rfl ?_
  refine b_vZ (as := []) (rest := []) (.inl 1) okJ0_charAt_5068e rfl lkJ0_492 caJ0_isLatin1_aae02 (Nat.le_of_ble_eq_true rfl) rfl (Nat.le_of_ble_eq_true rfl) hi rfl rfl (c_isLatin1 hi) ?_
  refine b0_eq (tgt := 16) okJ0_charAt_5068e rfl rfl ⟨by omega, by omega⟩ (fun h1 => absurd h1 (by decide)) (fun h1 => ?_)
  refine aGo okJ0_charAt_5068e 1 (f' := (8, [some (.inr (1025 + i)), some (.inl (j : Int))], [.inr (1025 + i)], h)) rfl ?_
  refine b_sval okJ0_charAt_5068e rfl flJ0_9 hi ?_
  refine aGo okJ0_charAt_5068e 1 (f' := (12, [some (.inr (1025 + i)), some (.inl (j : Int))], [.inl (j : Int), .inr (1033 + i)], h)) rfl ?_
  refine b_vS (as := [.inr (1033 + i), .inl (j : Int)]) (rest := []) (.inl (chr i j)) okJ0_charAt_5068e rfl lkJ0_495 caJ1_charAt_3b067 (Nat.le_of_ble_eq_true rfl) rfl (Nat.le_of_ble_eq_true rfl) rfl (c_charAt1 hi hj) ?_
  exact b_ret (v := some (.inl (chr i j))) ⟨rfl, Or.inl (by show (decide (0 ≤ chr i j) && decide (chr i j ≤ 65535)) = true; rw [decide_eq_true (by omega), decide_eq_true (by omega)]; rfl)⟩ ⟨rfl, rfl⟩ rfl
end AJD
