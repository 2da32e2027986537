/-! Integer.bitCount, Draw, DaysToCome; laid by gen_days.py -/
set_option maxRecDepth 100000 in
set_option maxHeartbeats 4000000 in
theorem c_bitCount {N : Nat} {h : aH} (v : Int) : aEx mJ6_bitCount_0f7a4 0 N [.inl v] h (some (.inl (bcE v))) h := by
  refine aEv_of okJ6_bitCount_0f7a4 caJ6_bitCount_0f7a4 (Nat.le_of_ble_eq_true rfl) ?_
  refine aGo okJ6_bitCount_0f7a4 41 (f' := (52, [some (.inl (((aAnd (((aAnd (v - (aAnd (aUshr v 1) 1431655765)) 858993459) + (aAnd (aUshr (v - (aAnd (aUshr v 1) 1431655765)) 2) 858993459)) + (aUshr ((aAnd (v - (aAnd (aUshr v 1) 1431655765)) 858993459) + (aAnd (aUshr (v - (aAnd (aUshr v 1) 1431655765)) 2) 858993459)) 4)) 252645135) + (aUshr (aAnd (((aAnd (v - (aAnd (aUshr v 1) 1431655765)) 858993459) + (aAnd (aUshr (v - (aAnd (aUshr v 1) 1431655765)) 2) 858993459)) + (aUshr ((aAnd (v - (aAnd (aUshr v 1) 1431655765)) 858993459) + (aAnd (aUshr (v - (aAnd (aUshr v 1) 1431655765)) 2) 858993459)) 4)) 252645135) 8)) + (aUshr ((aAnd (((aAnd (v - (aAnd (aUshr v 1) 1431655765)) 858993459) + (aAnd (aUshr (v - (aAnd (aUshr v 1) 1431655765)) 2) 858993459)) + (aUshr ((aAnd (v - (aAnd (aUshr v 1) 1431655765)) 858993459) + (aAnd (aUshr (v - (aAnd (aUshr v 1) 1431655765)) 2) 858993459)) 4)) 252645135) + (aUshr (aAnd (((aAnd (v - (aAnd (aUshr v 1) 1431655765)) 858993459) + (aAnd (aUshr (v - (aAnd (aUshr v 1) 1431655765)) 2) 858993459)) + (aUshr ((aAnd (v - (aAnd (aUshr v 1) 1431655765)) 858993459) + (aAnd (aUshr (v - (aAnd (aUshr v 1) 1431655765)) 2) 858993459)) 4)) 252645135) 8)) 16)))], [.inl (aAnd (((aAnd (((aAnd (v - (aAnd (aUshr v 1) 1431655765)) 858993459) + (aAnd (aUshr (v - (aAnd (aUshr v 1) 1431655765)) 2) 858993459)) + (aUshr ((aAnd (v - (aAnd (aUshr v 1) 1431655765)) 858993459) + (aAnd (aUshr (v - (aAnd (aUshr v 1) 1431655765)) 2) 858993459)) 4)) 252645135) + (aUshr (aAnd (((aAnd (v - (aAnd (aUshr v 1) 1431655765)) 858993459) + (aAnd (aUshr (v - (aAnd (aUshr v 1) 1431655765)) 2) 858993459)) + (aUshr ((aAnd (v - (aAnd (aUshr v 1) 1431655765)) 858993459) + (aAnd (aUshr (v - (aAnd (aUshr v 1) 1431655765)) 2) 858993459)) 4)) 252645135) 8)) + (aUshr ((aAnd (((aAnd (v - (aAnd (aUshr v 1) 1431655765)) 858993459) + (aAnd (aUshr (v - (aAnd (aUshr v 1) 1431655765)) 2) 858993459)) + (aUshr ((aAnd (v - (aAnd (aUshr v 1) 1431655765)) 858993459) + (aAnd (aUshr (v - (aAnd (aUshr v 1) 1431655765)) 2) 858993459)) 4)) 252645135) + (aUshr (aAnd (((aAnd (v - (aAnd (aUshr v 1) 1431655765)) 858993459) + (aAnd (aUshr (v - (aAnd (aUshr v 1) 1431655765)) 2) 858993459)) + (aUshr ((aAnd (v - (aAnd (aUshr v 1) 1431655765)) 858993459) + (aAnd (aUshr (v - (aAnd (aUshr v 1) 1431655765)) 2) 858993459)) 4)) 252645135) 8)) 16)) 63)], _)) rfl ?_
  exact b_ret (v := (some (.inl (aAnd (((aAnd (((aAnd (v - (aAnd (aUshr v 1) 1431655765)) 858993459) + (aAnd (aUshr (v - (aAnd (aUshr v 1) 1431655765)) 2) 858993459)) + (aUshr ((aAnd (v - (aAnd (aUshr v 1) 1431655765)) 858993459) + (aAnd (aUshr (v - (aAnd (aUshr v 1) 1431655765)) 2) 858993459)) 4)) 252645135) + (aUshr (aAnd (((aAnd (v - (aAnd (aUshr v 1) 1431655765)) 858993459) + (aAnd (aUshr (v - (aAnd (aUshr v 1) 1431655765)) 2) 858993459)) + (aUshr ((aAnd (v - (aAnd (aUshr v 1) 1431655765)) 858993459) + (aAnd (aUshr (v - (aAnd (aUshr v 1) 1431655765)) 2) 858993459)) 4)) 252645135) 8)) + (aUshr ((aAnd (((aAnd (v - (aAnd (aUshr v 1) 1431655765)) 858993459) + (aAnd (aUshr (v - (aAnd (aUshr v 1) 1431655765)) 2) 858993459)) + (aUshr ((aAnd (v - (aAnd (aUshr v 1) 1431655765)) 858993459) + (aAnd (aUshr (v - (aAnd (aUshr v 1) 1431655765)) 2) 858993459)) 4)) 252645135) + (aUshr (aAnd (((aAnd (v - (aAnd (aUshr v 1) 1431655765)) 858993459) + (aAnd (aUshr (v - (aAnd (aUshr v 1) 1431655765)) 2) 858993459)) + (aUshr ((aAnd (v - (aAnd (aUshr v 1) 1431655765)) 858993459) + (aAnd (aUshr (v - (aAnd (aUshr v 1) 1431655765)) 2) 858993459)) 4)) 252645135) 8)) 16)) 63)))) ⟨rfl, Or.inl rfl⟩ ⟨rfl, rfl⟩ rfl
section ADA
variable {A0 A3 B B2 B4 A5 C6 : List (Option aE)} {k f c n kp l nt w sh : List Int} {p : Nat} {t d wa : Int} {N : Nat} {z tl : Int} {fs ss sp la gr tp : List Int}
set_option maxRecDepth 100000 in
set_option maxHeartbeats 4000000 in
theorem c_begin {v : Int} : aEv mX1_begin 0 0 0 N [.inr 98, .inl v] [A0, (moSeg 32 k f c n kp l nt w sh (p : Int) t d wa), B, (miscSeg z fs ss sp la gr tl tp), B4, A5, C6] (aQx (none) [A0, (moSeg 32 k f c n kp l nt w sh (p : Int) t d wa), B, (miscSeg v fs ss sp la gr tl tp), B4, A5, C6]) := by
  refine aEv_of okX1_begin caX1_begin (Nat.le_of_ble_eq_true rfl) ?_
  refine aGo okX1_begin 3 (f' := (5, [some (.inr 98), some (.inl v)], [], [A0, (moSeg 32 k f c n kp l nt w sh (p : Int) t d wa), B, (miscSeg v fs ss sp la gr tl tp), B4, A5, C6])) rfl ?_
  exact b_ret (v := none) ⟨rfl, rfl⟩ ⟨rfl, rfl⟩ rfl
def lcg (z : Int) : Int := z * 1664525 + 1013904223
theorem mask_le (x : Int) : 0 ≤ aAnd x 2147483647 ∧ aAnd x 2147483647 ≤ 2147483647 := by
  have h : (Int32.ofInt x &&& 2147483647).toBitVec.toNat ≤ 2147483647 := by
    show (Int32.ofInt x).toBitVec.toNat &&& 2147483647 ≤ 2147483647
    exact Nat.and_le_right
  have e : aAnd x 2147483647 = ((Int32.ofInt x &&& 2147483647).toBitVec.toNat : Int) := by
    show (Int32.ofInt x &&& Int32.ofInt 2147483647).toInt = _
    show (Int32.ofInt x &&& 2147483647).toBitVec.toInt = _
    rw [BitVec.toInt_eq_toNat_of_lt (by omega)]
  omega
set_option maxRecDepth 100000 in
set_option maxHeartbeats 4000000 in
theorem c_below  : aEv mX1_below 0 0 0 N [.inr 98, .inl 36] [A0, (moSeg 32 k f c n kp l nt w sh (p : Int) t d wa), B, (miscSeg z fs ss sp la gr tl tp), B4, A5, C6] (aQx (some (.inl (aAnd (lcg z) 2147483647 / 256 % 36))) [A0, (moSeg 32 k f c n kp l nt w sh (p : Int) t d wa), B, (miscSeg (lcg z) fs ss sp la gr tl tp), B4, A5, C6]) := by
  refine aEv_of okX1_below caX1_below (Nat.le_of_ble_eq_true rfl) ?_
  refine aGo okX1_below 9 (f' := (15, [some (.inr 98), some (.inl 36)], [.inl 36], [A0, (moSeg 32 k f c n kp l nt w sh (p : Int) t d wa), B, (miscSeg ((z * 1664525) + 1013904223) fs ss sp la gr tl tp), B4, A5, C6])) rfl ?_
  refine b0_le (tgt := 34) okX1_below rfl rfl ⟨by omega, by omega⟩ (fun h15 => absurd h15 (by omega)) (fun h15 => ?_)
  refine b_cast (f' := (18, [some (.inr 98), some (.inl 36)], [], [A0, (moSeg 32 k f c n kp l nt w sh (p : Int) t d wa), B, (miscSeg (lcg z) fs ss sp la gr tl tp), B4, A5, C6])) (rfl) ?_
  refine aGo okX1_below 4 (f' := (25, [some (.inr 98), some (.inl 36)], [.inl (aAnd (lcg z) 2147483647)], _)) rfl ?_
  have hq := mask_le (lcg z)
  refine aGo okX1_below 1 (f' := (28, [some (.inr 98), some (.inl 36)], [.inl 256, .inl (aAnd (lcg z) 2147483647)], _)) rfl ?_
  refine b_div okX1_below rfl ⟨by omega, by omega⟩ ⟨by omega, by omega⟩ ?_
  refine aGo okX1_below 1 (f' := (30, [some (.inr 98), some (.inl 36)], [.inl 36, .inl ((aAnd (lcg z) 2147483647) / 256)], _)) rfl ?_
  refine b_rem okX1_below rfl ⟨by omega, by omega⟩ ⟨by omega, by omega⟩ ?_
  refine aGo okX1_below 1 (f' := (35, [some (.inr 98), some (.inl 36)], [.inl (((aAnd (lcg z) 2147483647) / 256) % 36)], _)) rfl ?_
  exact b_ret (v := (some (.inl (((aAnd (lcg z) 2147483647) / 256) % 36)))) ⟨rfl, Or.inl rfl⟩ ⟨rfl, rfl⟩ rfl
set_option maxRecDepth 100000 in
set_option maxHeartbeats 4000000 in
theorem c_keptAfter (hm : mOK p k f c n kp l nt w sh t d wa) (hB : thk B) {i m : Nat} (hi : i < 7) (hm2 : m ≤ 99) : aEv mX0_keptAfter 3 0 0 N [.inr 96, .inl (i : Int), .inl (m : Int)] [A0, (moSeg 32 k f c n kp l nt w sh (p : Int) t d wa), B, (miscSeg z fs ss sp la gr tl tp), B4, A5, C6] ((fun rv h => rv = some (.inl ((dayIt p (hasL sh nt) n m kp).getD i 0)) ∧ ∃ B2, thk B2 ∧ h = [A0, (moSeg 32 k f c n kp l nt w sh (p : Int) t d wa), B2, (miscSeg z fs ss sp la gr tl tp), B4, A5, C6])) := by
  obtain ⟨⟨hp7, hk, hf, hc, hn, hkp, hl, rk, rf, rc, rn, rkp, rl, ht0, ht1, hd0, hd1⟩, ⟨hnt, znt⟩, ⟨hw, zw, zwa⟩, ⟨hsh, zsh⟩⟩ := id hm
  have hle := mOK_hle hm
  obtain ⟨k0, f0, c0, n0, kp0, l0, nt0, w0, sh0, P0, t0, d0, wa0, hl0, rfl⟩ := hB
  refine aEv_of okX0_keptAfter caX0_keptAfter (Nat.le_of_ble_eq_true rfl) ?_
  refine aGo okX0_keptAfter 4 (f' := (8, [some (.inr 96), some (.inl (i : Int)), some (.inl (m : Int))], [.inr 32, .inr 64], _)) rfl ?_
  refine b_vN (as := [.inr 32]) (rest := []) (k := 64) okX0_keptAfter rfl lkX0_18 caX3_takeFrom (Nat.le_of_ble_eq_true rfl) rfl (Nat.le_of_ble_eq_true rfl) rfl rfl rfl (c_take_21 (mOK_lens hm) hl0) ?_
  refine b_cast (f' := (11, [some (.inr 96), some (.inl (i : Int)), some (.inl (m : Int))], [], [A0, (moSeg 32 k f c n kp l nt w sh (p : Int) t d wa), (moSeg 64 k f c n kp l nt w sh (p : Int) t d wa), (miscSeg z fs ss sp la gr tl tp), B4, A5, C6])) rfl ?_
  refine aGo okX0_keptAfter 3 (f' := (16, [some (.inr 96), some (.inl (i : Int)), some (.inl (m : Int))], [.inl (m : Int), .inr 64], _)) rfl ?_
  refine b_vV (as := [.inl (m : Int)]) (rest := []) (k := 64) (.inl (dayB p (hasL sh nt) n kp m)) okX0_keptAfter rfl lkX0_24 caX3_passDays (Nat.le_of_ble_eq_true rfl) rfl (Nat.le_of_ble_eq_true rfl) rfl rfl rfl (c_passDays_2 (m := m) hp7 (by omega) hkp hn hsh hnt rkp rn hle) ?_
  refine b_cast (f' := (19, [some (.inr 96), some (.inl (i : Int)), some (.inl (m : Int))], [.inl (dayB p (hasL sh nt) n kp m)], [A0, (moSeg 32 k f c n kp l nt w sh (p : Int) t d wa), (moSeg 64 k f c n (dayIt p (hasL sh nt) n m kp) l nt w sh (p : Int) t (d + (m : Int)) wa), (miscSeg z fs ss sp la gr tl tp), B4, A5, C6])) rfl ?_
  refine aGo okX0_keptAfter 3 (f' := (24, [some (.inr 96), some (.inl (i : Int)), some (.inl (m : Int))], [.inr 64], _)) rfl ?_
  have e0 : (dayIt p (hasL sh nt) n m kp).length = 7 := by rw [dayIt_len]; exact hkp
  refine aGo okX0_keptAfter 1 (f' := (25, [some (.inr 96), some (.inl (i : Int)), some (.inl (m : Int))], [.inl (i : Int), .inr 64], _)) rfl ?_
  refine b_vV (as := [.inl (i : Int)]) (rest := []) (k := 64) (.inl ((dayIt p (hasL sh nt) n m kp).getD i 0)) okX0_keptAfter rfl lkX0_28 caX3_keptOf (Nat.le_of_ble_eq_true rfl) rfl (Nat.le_of_ble_eq_true rfl) rfl rfl rfl (c_keptOf_2 (i := i) (by first | omega | (simp only [List.length_set]; omega)) (by omega)) ?_
  exact b_ret (v := (some (.inl ((dayIt p (hasL sh nt) n m kp).getD i 0)))) ⟨rfl, Or.inl rfl⟩ ⟨rfl, _, thk_of (by obtain ⟨a1, a2, a3, a4, a5, a6, a7, a8, a9⟩ := mOK_lens hm; exact ⟨a1, a2, a3, a4, by first | exact a5 | (rw [dayIt_len]; exact a5), a6, a7, a8, a9⟩), rfl⟩ rfl
set_option maxRecDepth 100000 in
set_option maxHeartbeats 4000000 in
theorem c_shortDays (hm : mOK p k f c n kp l nt w sh t d wa) (hB : thk B) {i m : Nat} (hi : i < p) (hm2 : m ≤ 99) : aEv mX0_shortDays 3 0 0 N [.inr 96, .inl (i : Int), .inl (m : Int)] [A0, (moSeg 32 k f c n kp l nt w sh (p : Int) t d wa), B, (miscSeg z fs ss sp la gr tl tp), B4, A5, C6] ((fun rv h => rv = some (.inl (sumN m (fun j => if sht p (hasL sh nt) n kp i j = true then (1 : Int) else 0))) ∧ ∃ B2, thk B2 ∧ h = [A0, (moSeg 32 k f c n kp l nt w sh (p : Int) t d wa), B2, (miscSeg z fs ss sp la gr tl tp), B4, A5, C6])) := by
  obtain ⟨⟨hp7, hk, hf, hc, hn, hkp, hl, rk, rf, rc, rn, rkp, rl, ht0, ht1, hd0, hd1⟩, ⟨hnt, znt⟩, ⟨hw, zw, zwa⟩, ⟨hsh, zsh⟩⟩ := id hm
  have hle := mOK_hle hm
  obtain ⟨k0, f0, c0, n0, kp0, l0, nt0, w0, sh0, P0, t0, d0, wa0, hl0, rfl⟩ := hB
  refine aEv_of okX0_shortDays caX0_shortDays (Nat.le_of_ble_eq_true rfl) ?_
  have lp : ∀ (j x : Nat), x + j = m → AW mX0_shortDays 3 0 0 N none (fun rv h => rv = some (.inl (sumN m (fun j => if sht p (hasL sh nt) n kp i j = true then (1 : Int) else 0))) ∧ ∃ B2, thk B2 ∧ h = [A0, (moSeg 32 k f c n kp l nt w sh (p : Int) t d wa), B2, (miscSeg z fs ss sp la gr tl tp), B4, A5, C6]) (16, [some (.inr 96), some (.inl (i : Int)), some (.inl (m : Int)), some (.inl (sumN x (fun j => if sht p (hasL sh nt) n kp i j = true then (1 : Int) else 0))), some (.inl (x : Int))], [], [A0, (moSeg 32 k f c n kp l nt w sh (p : Int) t d wa), (moSeg 64 k f c n (dayIt p (hasL sh nt) n x kp) l nt w sh (p : Int) t (d + (x : Int)) wa), (miscSeg z fs ss sp la gr tl tp), B4, A5, C6]) := by
    intro j
    induction j with
    | zero =>
      intro x  hij 
      obtain rfl : m = x := by omega
      refine aGo okX0_shortDays 2 (f' := (19, [some (.inr 96), some (.inl (i : Int)), some (.inl (m : Int)), some (.inl (sumN m (fun j => if sht p (hasL sh nt) n kp i j = true then (1 : Int) else 0))), some (.inl (m : Int))], [.inl (m : Int), .inl (m : Int)], _)) rfl ?_
      refine b_ge (tgt := 43) okX0_shortDays rfl rfl ⟨by omega, by omega⟩ ⟨by omega, by omega⟩ (fun h19 => ?_) (fun h19 => absurd h19 (by omega))
      refine aGo okX0_shortDays 1 (f' := (44, [some (.inr 96), some (.inl (i : Int)), some (.inl (m : Int)), some (.inl (sumN m (fun j => if sht p (hasL sh nt) n kp i j = true then (1 : Int) else 0))), some (.inl (m : Int))], [.inl (sumN m (fun j => if sht p (hasL sh nt) n kp i j = true then (1 : Int) else 0))], _)) rfl ?_
      exact b_ret (v := (some (.inl (sumN m (fun j => if sht p (hasL sh nt) n kp i j = true then (1 : Int) else 0))))) ⟨rfl, Or.inl rfl⟩ ⟨rfl, _, thk_of (by obtain ⟨a1, a2, a3, a4, a5, a6, a7, a8, a9⟩ := mOK_lens hm; exact ⟨a1, a2, a3, a4, by first | exact a5 | (rw [dayIt_len]; exact a5), a6, a7, a8, a9⟩), rfl⟩ rfl
    | succ j ih =>
      intro x  hij 
      refine aGo okX0_shortDays 2 (f' := (19, [some (.inr 96), some (.inl (i : Int)), some (.inl (m : Int)), some (.inl (sumN x (fun j => if sht p (hasL sh nt) n kp i j = true then (1 : Int) else 0))), some (.inl (x : Int))], [.inl (m : Int), .inl (x : Int)], _)) rfl ?_
      refine b_ge (tgt := 43) okX0_shortDays rfl rfl ⟨by omega, by omega⟩ ⟨by omega, by omega⟩ (fun h19 => absurd h19 (by omega)) (fun h19 => ?_)
      refine aGo okX0_shortDays 4 (f' := (28, [some (.inr 96), some (.inl (i : Int)), some (.inl (m : Int)), some (.inl (sumN x (fun j => if sht p (hasL sh nt) n kp i j = true then (1 : Int) else 0))), some (.inl (x : Int))], [.inl 1, .inr 64, .inl (sumN x (fun j => if sht p (hasL sh nt) n kp i j = true then (1 : Int) else 0))], _)) rfl ?_
      refine b_vV (as := [.inl 1]) (rest := [.inl (sumN x (fun j => if sht p (hasL sh nt) n kp i j = true then (1 : Int) else 0))]) (k := 64) (.inl (dayB p (hasL sh nt) n (dayIt p (hasL sh nt) n x kp) 1)) okX0_shortDays rfl lkX0_24 caX3_passDays (Nat.le_of_ble_eq_true rfl) rfl (Nat.le_of_ble_eq_true rfl) rfl rfl rfl (c_passDays_2 (m := 1) hp7 (by omega) (by rw [dayIt_len]; exact hkp) hn hsh hnt (dayIt_rng rkp) rn hle) ?_
      refine b_cast (f' := (31, [some (.inr 96), some (.inl (i : Int)), some (.inl (m : Int)), some (.inl (sumN x (fun j => if sht p (hasL sh nt) n kp i j = true then (1 : Int) else 0))), some (.inl (x : Int))], [.inl (dayB p (hasL sh nt) n (dayIt p (hasL sh nt) n x kp) 1), .inl (sumN x (fun j => if sht p (hasL sh nt) n kp i j = true then (1 : Int) else 0))], [A0, (moSeg 32 k f c n kp l nt w sh (p : Int) t d wa), (moSeg 64 k f c n (dayIt p (hasL sh nt) n 1 (dayIt p (hasL sh nt) n x kp)) l nt w sh (p : Int) t ((d + (x : Int)) + ((1 : Nat) : Int)) wa), (miscSeg z fs ss sp la gr tl tp), B4, A5, C6])) rfl ?_
      refine b_cast (f' := (31, [some (.inr 96), some (.inl (i : Int)), some (.inl (m : Int)), some (.inl (sumN x (fun j => if sht p (hasL sh nt) n kp i j = true then (1 : Int) else 0))), some (.inl (x : Int))], [.inl (dayB p (hasL sh nt) n (dayIt p (hasL sh nt) n x kp) 1), .inl (sumN x (fun j => if sht p (hasL sh nt) n kp i j = true then (1 : Int) else 0))], [A0, (moSeg 32 k f c n kp l nt w sh (p : Int) t d wa), (moSeg 64 k f c n (dayIt p (hasL sh nt) n (x + 1) kp) l nt w sh (p : Int) t (d + (((x + 1) : Nat) : Int)) wa), (miscSeg z fs ss sp la gr tl tp), B4, A5, C6])) (congrArg (fun q : Int => ((31, [some (.inr 96), some (.inl (i : Int)), some (.inl (m : Int)), some (.inl (sumN x (fun j => if sht p (hasL sh nt) n kp i j = true then (1 : Int) else 0))), some (.inl (x : Int))], [.inl (dayB p (hasL sh nt) n (dayIt p (hasL sh nt) n x kp) 1), .inl (sumN x (fun j => if sht p (hasL sh nt) n kp i j = true then (1 : Int) else 0))], [A0, (moSeg 32 k f c n kp l nt w sh (p : Int) t d wa), (moSeg 64 k f c n (dayIt p (hasL sh nt) n (x + 1) kp) l nt w sh (p : Int) t q wa), (miscSeg z fs ss sp la gr tl tp), B4, A5, C6]) : aF)) (show d + (x : Int) + ((1 : Nat) : Int) = d + ((x + 1 : Nat) : Int) by omega)) ?_
      refine aGo okX0_shortDays 4 (f' := (35, [some (.inr 96), some (.inl (i : Int)), some (.inl (m : Int)), some (.inl (sumN x (fun j => if sht p (hasL sh nt) n kp i j = true then (1 : Int) else 0))), some (.inl (x : Int))], [.inl (aAnd (aShr (dayB p (hasL sh nt) n (dayIt p (hasL sh nt) n x kp) 1) (i : Int)) 1), .inl (sumN x (fun j => if sht p (hasL sh nt) n kp i j = true then (1 : Int) else 0))], _)) rfl ?_
      refine b_cast (f' := (35, [some (.inr 96), some (.inl (i : Int)), some (.inl (m : Int)), some (.inl (sumN x (fun j => if sht p (hasL sh nt) n kp i j = true then (1 : Int) else 0))), some (.inl (x : Int))], [.inl (if sht p (hasL sh nt) n kp i x = true then (1 : Int) else 0), .inl (sumN x (fun j => if sht p (hasL sh nt) n kp i j = true then (1 : Int) else 0))], [A0, (moSeg 32 k f c n kp l nt w sh (p : Int) t d wa), (moSeg 64 k f c n (dayIt p (hasL sh nt) n (x + 1) kp) l nt w sh (p : Int) t (d + (((x + 1) : Nat) : Int)) wa), (miscSeg z fs ss sp la gr tl tp), B4, A5, C6])) (congrArg (fun q : Int => ((35, [some (.inr 96), some (.inl (i : Int)), some (.inl (m : Int)), some (.inl (sumN x (fun j => if sht p (hasL sh nt) n kp i j = true then (1 : Int) else 0))), some (.inl (x : Int))], .inl q :: [.inl (sumN x (fun j => if sht p (hasL sh nt) n kp i j = true then (1 : Int) else 0))], [A0, (moSeg 32 k f c n kp l nt w sh (p : Int) t d wa), (moSeg 64 k f c n (dayIt p (hasL sh nt) n (x + 1) kp) l nt w sh (p : Int) t (d + (((x + 1) : Nat) : Int)) wa), (miscSeg z fs ss sp la gr tl tp), B4, A5, C6]) : aF)) (bits_and hp7 (fun q => sht p (hasL sh nt) n kp q x) hi)) ?_
      refine aGo okX0_shortDays 4 (f' := (16, [some (.inr 96), some (.inl (i : Int)), some (.inl (m : Int)), some (.inl ((sumN x (fun j => if sht p (hasL sh nt) n kp i j = true then (1 : Int) else 0)) + (if sht p (hasL sh nt) n kp i x = true then (1 : Int) else 0))), some (.inl ((x : Int) + 1))], [], _)) rfl ?_
      exact ih (x + 1) (by omega)
  refine aGo okX0_shortDays 4 (f' := (8, [some (.inr 96), some (.inl (i : Int)), some (.inl (m : Int)), none, none], [.inr 32, .inr 64], _)) rfl ?_
  refine b_vN (as := [.inr 32]) (rest := []) (k := 64) okX0_shortDays rfl lkX0_18 caX3_takeFrom (Nat.le_of_ble_eq_true rfl) rfl (Nat.le_of_ble_eq_true rfl) rfl rfl rfl (c_take_21 (mOK_lens hm) hl0) ?_
  refine b_cast (f' := (11, [some (.inr 96), some (.inl (i : Int)), some (.inl (m : Int)), none, none], [], [A0, (moSeg 32 k f c n kp l nt w sh (p : Int) t d wa), (moSeg 64 k f c n kp l nt w sh (p : Int) t d wa), (miscSeg z fs ss sp la gr tl tp), B4, A5, C6])) rfl ?_
  refine aGo okX0_shortDays 4 (f' := (16, [some (.inr 96), some (.inl (i : Int)), some (.inl (m : Int)), some (.inl 0), some (.inl 0)], [], _)) rfl ?_
  refine b_cast (f' := (16, [some (.inr 96), some (.inl (i : Int)), some (.inl (m : Int)), some (.inl 0), some (.inl 0)], [], [A0, (moSeg 32 k f c n kp l nt w sh (p : Int) t d wa), (moSeg 64 k f c n kp l nt w sh (p : Int) t (d + ((0 : Nat) : Int)) wa), (miscSeg z fs ss sp la gr tl tp), B4, A5, C6])) (congrArg (fun q : Int => ((16, [some (.inr 96), some (.inl (i : Int)), some (.inl (m : Int)), some (.inl 0), some (.inl 0)], [], [A0, (moSeg 32 k f c n kp l nt w sh (p : Int) t d wa), (moSeg 64 k f c n kp l nt w sh (p : Int) t q wa), (miscSeg z fs ss sp la gr tl tp), B4, A5, C6]) : aF)) (show d = d + ((0 : Nat) : Int) by omega)) ?_
  exact lp m 0 (by omega)
set_option maxRecDepth 100000 in
set_option maxHeartbeats 4000000 in
theorem c_firstShortDay (hm : mOK p k f c n kp l nt w sh t d wa) (hB : thk B) : aEv mX0_firstShortDay 3 0 0 N [.inr 96] [A0, (moSeg 32 k f c n kp l nt w sh (p : Int) t d wa), B, (miscSeg z fs ss sp la gr tl tp), B4, A5, C6] ((fun rv h => rv = some (.inl (firstF (fun j => !decide (bitsN p (fun q => sht p (hasL sh nt) n kp q j) = 0)) 99 0)) ∧ ∃ B2, thk B2 ∧ h = [A0, (moSeg 32 k f c n kp l nt w sh (p : Int) t d wa), B2, (miscSeg z fs ss sp la gr tl tp), B4, A5, C6])) := by
  obtain ⟨⟨hp7, hk, hf, hc, hn, hkp, hl, rk, rf, rc, rn, rkp, rl, ht0, ht1, hd0, hd1⟩, ⟨hnt, znt⟩, ⟨hw, zw, zwa⟩, ⟨hsh, zsh⟩⟩ := id hm
  have hle := mOK_hle hm
  obtain ⟨k0, f0, c0, n0, kp0, l0, nt0, w0, sh0, P0, t0, d0, wa0, hl0, rfl⟩ := hB
  refine aEv_of okX0_firstShortDay caX0_firstShortDay (Nat.le_of_ble_eq_true rfl) ?_
  have lp : ∀ (j x : Nat), x + j = 99 → AW mX0_firstShortDay 3 0 0 N none (fun rv h => rv = some (.inl (firstF (fun j => !decide (bitsN p (fun q => sht p (hasL sh nt) n kp q j) = 0)) j x)) ∧ ∃ B2, thk B2 ∧ h = [A0, (moSeg 32 k f c n kp l nt w sh (p : Int) t d wa), B2, (miscSeg z fs ss sp la gr tl tp), B4, A5, C6]) (13, [some (.inr 96), some (.inl (((x + 1) : Nat) : Int))], [], [A0, (moSeg 32 k f c n kp l nt w sh (p : Int) t d wa), (moSeg 64 k f c n (dayIt p (hasL sh nt) n x kp) l nt w sh (p : Int) t (d + (x : Int)) wa), (miscSeg z fs ss sp la gr tl tp), B4, A5, C6]) := by
    intro j
    induction j with
    | zero =>
      intro x hij
      obtain rfl : 99 = x := by omega
      refine aGo okX0_firstShortDay 2 (f' := (16, [some (.inr 96), some (.inl (((99 + 1) : Nat) : Int))], [.inl 99, .inl (((99 + 1) : Nat) : Int)], _)) rfl ?_
      refine b_gt (tgt := 38) okX0_firstShortDay rfl rfl ⟨by omega, by omega⟩ ⟨by omega, by omega⟩ (fun h16 => ?_) (fun h16 => absurd h16 (by omega))
      refine aGo okX0_firstShortDay 1 (f' := (40, [some (.inr 96), some (.inl (((99 + 1) : Nat) : Int))], [.inl (-9)], _)) rfl ?_
      exact b_ret (v := (some (.inl (-9)))) ⟨rfl, Or.inl rfl⟩ ⟨rfl, _, thk_of (by obtain ⟨a1, a2, a3, a4, a5, a6, a7, a8, a9⟩ := mOK_lens hm; exact ⟨a1, a2, a3, a4, by first | exact a5 | (rw [dayIt_len]; exact a5), a6, a7, a8, a9⟩), rfl⟩ rfl
    | succ j ih =>
      intro x hij
      refine aGo okX0_firstShortDay 2 (f' := (16, [some (.inr 96), some (.inl (((x + 1) : Nat) : Int))], [.inl 99, .inl (((x + 1) : Nat) : Int)], _)) rfl ?_
      refine b_gt (tgt := 38) okX0_firstShortDay rfl rfl ⟨by omega, by omega⟩ ⟨by omega, by omega⟩ (fun h16 => absurd h16 (by omega)) (fun h16 => ?_)
      refine aGo okX0_firstShortDay 3 (f' := (24, [some (.inr 96), some (.inl (((x + 1) : Nat) : Int))], [.inl 1, .inr 64], _)) rfl ?_
      refine b_vV (as := [.inl 1]) (rest := []) (k := 64) (.inl (dayB p (hasL sh nt) n (dayIt p (hasL sh nt) n x kp) 1)) okX0_firstShortDay rfl lkX0_24 caX3_passDays (Nat.le_of_ble_eq_true rfl) rfl (Nat.le_of_ble_eq_true rfl) rfl rfl rfl (c_passDays_2 (m := 1) hp7 (by omega) (by rw [dayIt_len]; exact hkp) hn hsh hnt (dayIt_rng rkp) rn hle) ?_
      refine b_cast (f' := (27, [some (.inr 96), some (.inl (((x + 1) : Nat) : Int))], [.inl (dayB p (hasL sh nt) n (dayIt p (hasL sh nt) n x kp) 1)], [A0, (moSeg 32 k f c n kp l nt w sh (p : Int) t d wa), (moSeg 64 k f c n (dayIt p (hasL sh nt) n 1 (dayIt p (hasL sh nt) n x kp)) l nt w sh (p : Int) t ((d + (x : Int)) + ((1 : Nat) : Int)) wa), (miscSeg z fs ss sp la gr tl tp), B4, A5, C6])) rfl ?_
      refine b_cast (f' := (27, [some (.inr 96), some (.inl (((x + 1) : Nat) : Int))], [.inl (dayB p (hasL sh nt) n (dayIt p (hasL sh nt) n x kp) 1)], [A0, (moSeg 32 k f c n kp l nt w sh (p : Int) t d wa), (moSeg 64 k f c n (dayIt p (hasL sh nt) n (x + 1) kp) l nt w sh (p : Int) t (d + (((x + 1) : Nat) : Int)) wa), (miscSeg z fs ss sp la gr tl tp), B4, A5, C6])) (congrArg (fun q : Int => ((27, [some (.inr 96), some (.inl (((x + 1) : Nat) : Int))], [.inl (dayB p (hasL sh nt) n (dayIt p (hasL sh nt) n x kp) 1)], [A0, (moSeg 32 k f c n kp l nt w sh (p : Int) t d wa), (moSeg 64 k f c n (dayIt p (hasL sh nt) n (x + 1) kp) l nt w sh (p : Int) t q wa), (miscSeg z fs ss sp la gr tl tp), B4, A5, C6]) : aF)) (show d + (x : Int) + ((1 : Nat) : Int) = d + ((x + 1 : Nat) : Int) by omega)) ?_
      have hb := bits_le hp7 (fun q => sht p (hasL sh nt) n kp q x)
      refine b_cast (f' := (27, [some (.inr 96), some (.inl (((x + 1) : Nat) : Int))], [.inl (bitsN p (fun q => sht p (hasL sh nt) n kp q x))], [A0, (moSeg 32 k f c n kp l nt w sh (p : Int) t d wa), (moSeg 64 k f c n (dayIt p (hasL sh nt) n (x + 1) kp) l nt w sh (p : Int) t (d + (((x + 1) : Nat) : Int)) wa), (miscSeg z fs ss sp la gr tl tp), B4, A5, C6])) rfl ?_
      refine b0_eq (tgt := 32) okX0_firstShortDay rfl rfl ⟨by omega, by omega⟩ (fun h27 => ?_) (fun h27 => ?_)
      · have hz : (fun j => !decide (bitsN p (fun q => sht p (hasL sh nt) n kp q j) = 0)) x = false := by simp only [h27]; rfl
        refine aGo okX0_firstShortDay 2 (f' := (13, [some (.inr 96), some (.inl ((((x + 1) : Nat) : Int) + 1))], [], _)) rfl ?_
        rw [firstF_f hz]
        exact ih (x + 1) (by omega)
      · have hz : (fun j => !decide (bitsN p (fun q => sht p (hasL sh nt) n kp q j) = 0)) x = true := by simp only [decide_eq_false h27]; rfl
        rw [firstF_t hz]
        refine aGo okX0_firstShortDay 1 (f' := (31, [some (.inr 96), some (.inl (((x + 1) : Nat) : Int))], [.inl (((x + 1) : Nat) : Int)], _)) rfl ?_
        exact b_ret (v := (some (.inl (((x + 1) : Nat) : Int)))) ⟨rfl, Or.inl rfl⟩ ⟨rfl, _, thk_of (by obtain ⟨a1, a2, a3, a4, a5, a6, a7, a8, a9⟩ := mOK_lens hm; exact ⟨a1, a2, a3, a4, by first | exact a5 | (rw [dayIt_len]; exact a5), a6, a7, a8, a9⟩), rfl⟩ rfl
  refine aGo okX0_firstShortDay 4 (f' := (8, [some (.inr 96), none], [.inr 32, .inr 64], _)) rfl ?_
  refine b_vN (as := [.inr 32]) (rest := []) (k := 64) okX0_firstShortDay rfl lkX0_18 caX3_takeFrom (Nat.le_of_ble_eq_true rfl) rfl (Nat.le_of_ble_eq_true rfl) rfl rfl rfl (c_take_21 (mOK_lens hm) hl0) ?_
  refine b_cast (f' := (11, [some (.inr 96), none], [], [A0, (moSeg 32 k f c n kp l nt w sh (p : Int) t d wa), (moSeg 64 k f c n kp l nt w sh (p : Int) t d wa), (miscSeg z fs ss sp la gr tl tp), B4, A5, C6])) rfl ?_
  refine aGo okX0_firstShortDay 2 (f' := (13, [some (.inr 96), some (.inl 1)], [], _)) rfl ?_
  refine b_cast (f' := (13, [some (.inr 96), some (.inl 1)], [], [A0, (moSeg 32 k f c n kp l nt w sh (p : Int) t d wa), (moSeg 64 k f c n kp l nt w sh (p : Int) t (d + ((0 : Nat) : Int)) wa), (miscSeg z fs ss sp la gr tl tp), B4, A5, C6])) (congrArg (fun q : Int => ((13, [some (.inr 96), some (.inl 1)], [], [A0, (moSeg 32 k f c n kp l nt w sh (p : Int) t d wa), (moSeg 64 k f c n kp l nt w sh (p : Int) t q wa), (miscSeg z fs ss sp la gr tl tp), B4, A5, C6]) : aF)) (show d = d + ((0 : Nat) : Int) by omega)) ?_
  exact lp 99 0 (by omega)
set_option maxRecDepth 100000 in
set_option maxHeartbeats 4000000 in
theorem c_daysTillShort (hm : mOK p k f c n kp l nt w sh t d wa) (hB : thk B) {i : Nat} (hi : i < p) : aEv mX0_daysTillShort 3 0 0 N [.inr 96, .inl (i : Int)] [A0, (moSeg 32 k f c n kp l nt w sh (p : Int) t d wa), B, (miscSeg z fs ss sp la gr tl tp), B4, A5, C6] ((fun rv h => rv = some (.inl (lastF (fun j => sht p (hasL sh nt) n kp i j) 99 0)) ∧ ∃ B2, thk B2 ∧ h = [A0, (moSeg 32 k f c n kp l nt w sh (p : Int) t d wa), B2, (miscSeg z fs ss sp la gr tl tp), B4, A5, C6])) := by
  obtain ⟨⟨hp7, hk, hf, hc, hn, hkp, hl, rk, rf, rc, rn, rkp, rl, ht0, ht1, hd0, hd1⟩, ⟨hnt, znt⟩, ⟨hw, zw, zwa⟩, ⟨hsh, zsh⟩⟩ := id hm
  have hle := mOK_hle hm
  obtain ⟨k0, f0, c0, n0, kp0, l0, nt0, w0, sh0, P0, t0, d0, wa0, hl0, rfl⟩ := hB
  refine aEv_of okX0_daysTillShort caX0_daysTillShort (Nat.le_of_ble_eq_true rfl) ?_
  have lp : ∀ (j x : Nat), x + j = 99 → AW mX0_daysTillShort 3 0 0 N none (fun rv h => rv = some (.inl (lastF (fun j => sht p (hasL sh nt) n kp i j) j x)) ∧ ∃ B2, thk B2 ∧ h = [A0, (moSeg 32 k f c n kp l nt w sh (p : Int) t d wa), B2, (miscSeg z fs ss sp la gr tl tp), B4, A5, C6]) (13, [some (.inr 96), some (.inl (i : Int)), some (.inl (x : Int))], [], [A0, (moSeg 32 k f c n kp l nt w sh (p : Int) t d wa), (moSeg 64 k f c n (dayIt p (hasL sh nt) n x kp) l nt w sh (p : Int) t (d + (x : Int)) wa), (miscSeg z fs ss sp la gr tl tp), B4, A5, C6]) := by
    intro j
    induction j with
    | zero =>
      intro x hij
      obtain rfl : 99 = x := by omega
      refine aGo okX0_daysTillShort 2 (f' := (16, [some (.inr 96), some (.inl (i : Int)), some (.inl (99 : Int))], [.inl 99, .inl (99 : Int)], _)) rfl ?_
      refine b_ge (tgt := 42) okX0_daysTillShort rfl rfl ⟨by omega, by omega⟩ ⟨by omega, by omega⟩ (fun h16 => ?_) (fun h16 => absurd h16 (by omega))
      refine aGo okX0_daysTillShort 1 (f' := (44, [some (.inr 96), some (.inl (i : Int)), some (.inl (99 : Int))], [.inl 99], _)) rfl ?_
      exact b_ret (v := (some (.inl 99))) ⟨rfl, Or.inl rfl⟩ ⟨rfl, _, thk_of (by obtain ⟨a1, a2, a3, a4, a5, a6, a7, a8, a9⟩ := mOK_lens hm; exact ⟨a1, a2, a3, a4, by first | exact a5 | (rw [dayIt_len]; exact a5), a6, a7, a8, a9⟩), rfl⟩ rfl
    | succ j ih =>
      intro x hij
      refine aGo okX0_daysTillShort 2 (f' := (16, [some (.inr 96), some (.inl (i : Int)), some (.inl (x : Int))], [.inl 99, .inl (x : Int)], _)) rfl ?_
      refine b_ge (tgt := 42) okX0_daysTillShort rfl rfl ⟨by omega, by omega⟩ ⟨by omega, by omega⟩ (fun h16 => absurd h16 (by omega)) (fun h16 => ?_)
      refine aGo okX0_daysTillShort 3 (f' := (24, [some (.inr 96), some (.inl (i : Int)), some (.inl (x : Int))], [.inl 1, .inr 64], _)) rfl ?_
      refine b_vV (as := [.inl 1]) (rest := []) (k := 64) (.inl (dayB p (hasL sh nt) n (dayIt p (hasL sh nt) n x kp) 1)) okX0_daysTillShort rfl lkX0_24 caX3_passDays (Nat.le_of_ble_eq_true rfl) rfl (Nat.le_of_ble_eq_true rfl) rfl rfl rfl (c_passDays_2 (m := 1) hp7 (by omega) (by rw [dayIt_len]; exact hkp) hn hsh hnt (dayIt_rng rkp) rn hle) ?_
      refine b_cast (f' := (27, [some (.inr 96), some (.inl (i : Int)), some (.inl (x : Int))], [.inl (dayB p (hasL sh nt) n (dayIt p (hasL sh nt) n x kp) 1)], [A0, (moSeg 32 k f c n kp l nt w sh (p : Int) t d wa), (moSeg 64 k f c n (dayIt p (hasL sh nt) n 1 (dayIt p (hasL sh nt) n x kp)) l nt w sh (p : Int) t ((d + (x : Int)) + ((1 : Nat) : Int)) wa), (miscSeg z fs ss sp la gr tl tp), B4, A5, C6])) rfl ?_
      refine b_cast (f' := (27, [some (.inr 96), some (.inl (i : Int)), some (.inl (x : Int))], [.inl (dayB p (hasL sh nt) n (dayIt p (hasL sh nt) n x kp) 1)], [A0, (moSeg 32 k f c n kp l nt w sh (p : Int) t d wa), (moSeg 64 k f c n (dayIt p (hasL sh nt) n (x + 1) kp) l nt w sh (p : Int) t (d + (((x + 1) : Nat) : Int)) wa), (miscSeg z fs ss sp la gr tl tp), B4, A5, C6])) (congrArg (fun q : Int => ((27, [some (.inr 96), some (.inl (i : Int)), some (.inl (x : Int))], [.inl (dayB p (hasL sh nt) n (dayIt p (hasL sh nt) n x kp) 1)], [A0, (moSeg 32 k f c n kp l nt w sh (p : Int) t d wa), (moSeg 64 k f c n (dayIt p (hasL sh nt) n (x + 1) kp) l nt w sh (p : Int) t q wa), (miscSeg z fs ss sp la gr tl tp), B4, A5, C6]) : aF)) (show d + (x : Int) + ((1 : Nat) : Int) = d + ((x + 1 : Nat) : Int) by omega)) ?_
      refine aGo okX0_daysTillShort 4 (f' := (31, [some (.inr 96), some (.inl (i : Int)), some (.inl (x : Int))], [.inl (aAnd (aShr (dayB p (hasL sh nt) n (dayIt p (hasL sh nt) n x kp) 1) (i : Int)) 1)], _)) rfl ?_
      have hbv := bits_and hp7 (fun q => sht p (hasL sh nt) n kp q x) hi
      cases hz : sht p (hasL sh nt) n kp i x with
      | false =>
        simp only [hz] at hbv
        refine b_cast (f' := (31, [some (.inr 96), some (.inl (i : Int)), some (.inl (x : Int))], [.inl 0], [A0, (moSeg 32 k f c n kp l nt w sh (p : Int) t d wa), (moSeg 64 k f c n (dayIt p (hasL sh nt) n (x + 1) kp) l nt w sh (p : Int) t (d + (((x + 1) : Nat) : Int)) wa), (miscSeg z fs ss sp la gr tl tp), B4, A5, C6])) (congrArg (fun q : Int => ((31, [some (.inr 96), some (.inl (i : Int)), some (.inl (x : Int))], .inl q :: [], [A0, (moSeg 32 k f c n kp l nt w sh (p : Int) t d wa), (moSeg 64 k f c n (dayIt p (hasL sh nt) n (x + 1) kp) l nt w sh (p : Int) t (d + (((x + 1) : Nat) : Int)) wa), (miscSeg z fs ss sp la gr tl tp), B4, A5, C6]) : aF)) hbv) ?_
        rw [lastF_f (P := (fun j => sht p (hasL sh nt) n kp i j)) hz]
        refine b0_eq (tgt := 36) okX0_daysTillShort rfl rfl ⟨by omega, by omega⟩ (fun h31 => ?_) (fun h31 => absurd h31 (by omega))
        refine aGo okX0_daysTillShort 2 (f' := (13, [some (.inr 96), some (.inl (i : Int)), some (.inl ((x : Int) + 1))], [], _)) rfl ?_
        exact ih (x + 1) (by omega)
      | true =>
        simp only [hz] at hbv
        refine b_cast (f' := (31, [some (.inr 96), some (.inl (i : Int)), some (.inl (x : Int))], [.inl 1], [A0, (moSeg 32 k f c n kp l nt w sh (p : Int) t d wa), (moSeg 64 k f c n (dayIt p (hasL sh nt) n (x + 1) kp) l nt w sh (p : Int) t (d + (((x + 1) : Nat) : Int)) wa), (miscSeg z fs ss sp la gr tl tp), B4, A5, C6])) (congrArg (fun q : Int => ((31, [some (.inr 96), some (.inl (i : Int)), some (.inl (x : Int))], .inl q :: [], [A0, (moSeg 32 k f c n kp l nt w sh (p : Int) t d wa), (moSeg 64 k f c n (dayIt p (hasL sh nt) n (x + 1) kp) l nt w sh (p : Int) t (d + (((x + 1) : Nat) : Int)) wa), (miscSeg z fs ss sp la gr tl tp), B4, A5, C6]) : aF)) hbv) ?_
        rw [lastF_t (P := (fun j => sht p (hasL sh nt) n kp i j)) hz]
        refine b0_eq (tgt := 36) okX0_daysTillShort rfl rfl ⟨by omega, by omega⟩ (fun h31 => absurd h31 (by omega)) (fun h31 => ?_)
        refine aGo okX0_daysTillShort 1 (f' := (35, [some (.inr 96), some (.inl (i : Int)), some (.inl (x : Int))], [.inl (x : Int)], _)) rfl ?_
        exact b_ret (v := (some (.inl (x : Int)))) ⟨rfl, Or.inl rfl⟩ ⟨rfl, _, thk_of (by obtain ⟨a1, a2, a3, a4, a5, a6, a7, a8, a9⟩ := mOK_lens hm; exact ⟨a1, a2, a3, a4, by first | exact a5 | (rw [dayIt_len]; exact a5), a6, a7, a8, a9⟩), rfl⟩ rfl
  refine aGo okX0_daysTillShort 4 (f' := (8, [some (.inr 96), some (.inl (i : Int)), none], [.inr 32, .inr 64], _)) rfl ?_
  refine b_vN (as := [.inr 32]) (rest := []) (k := 64) okX0_daysTillShort rfl lkX0_18 caX3_takeFrom (Nat.le_of_ble_eq_true rfl) rfl (Nat.le_of_ble_eq_true rfl) rfl rfl rfl (c_take_21 (mOK_lens hm) hl0) ?_
  refine b_cast (f' := (11, [some (.inr 96), some (.inl (i : Int)), none], [], [A0, (moSeg 32 k f c n kp l nt w sh (p : Int) t d wa), (moSeg 64 k f c n kp l nt w sh (p : Int) t d wa), (miscSeg z fs ss sp la gr tl tp), B4, A5, C6])) rfl ?_
  refine aGo okX0_daysTillShort 2 (f' := (13, [some (.inr 96), some (.inl (i : Int)), some (.inl 0)], [], _)) rfl ?_
  refine b_cast (f' := (13, [some (.inr 96), some (.inl (i : Int)), some (.inl 0)], [], [A0, (moSeg 32 k f c n kp l nt w sh (p : Int) t d wa), (moSeg 64 k f c n kp l nt w sh (p : Int) t (d + ((0 : Nat) : Int)) wa), (miscSeg z fs ss sp la gr tl tp), B4, A5, C6])) (congrArg (fun q : Int => ((13, [some (.inr 96), some (.inl (i : Int)), some (.inl 0)], [], [A0, (moSeg 32 k f c n kp l nt w sh (p : Int) t d wa), (moSeg 64 k f c n kp l nt w sh (p : Int) t q wa), (miscSeg z fs ss sp la gr tl tp), B4, A5, C6]) : aF)) (show d = d + ((0 : Nat) : Int) by omega)) ?_
  exact lp 99 0 (by omega)
set_option maxRecDepth 100000 in
set_option maxHeartbeats 4000000 in
theorem c_firstShortOne (hm : mOK p k f c n kp l nt w sh t d wa) (hB : thk B) : aEv mX0_firstShortOne 3 0 0 N [.inr 96] [A0, (moSeg 32 k f c n kp l nt w sh (p : Int) t d wa), B, (miscSeg z fs ss sp la gr tl tp), B4, A5, C6] ((fun rv h => rv = some (.inl (firstO (fun j q => sht p (hasL sh nt) n kp q j) p 99 0)) ∧ ∃ B2, thk B2 ∧ h = [A0, (moSeg 32 k f c n kp l nt w sh (p : Int) t d wa), B2, (miscSeg z fs ss sp la gr tl tp), B4, A5, C6])) := by
  obtain ⟨⟨hp7, hk, hf, hc, hn, hkp, hl, rk, rf, rc, rn, rkp, rl, ht0, ht1, hd0, hd1⟩, ⟨hnt, znt⟩, ⟨hw, zw, zwa⟩, ⟨hsh, zsh⟩⟩ := id hm
  have hle := mOK_hle hm
  obtain ⟨k0, f0, c0, n0, kp0, l0, nt0, w0, sh0, P0, t0, d0, wa0, hl0, rfl⟩ := hB
  refine aEv_of okX0_firstShortOne caX0_firstShortOne (Nat.le_of_ble_eq_true rfl) ?_
  have lp : ∀ (j x : Nat), x + j = 99 → AW mX0_firstShortOne 3 0 0 N none (fun rv h => rv = some (.inl (firstO (fun j q => sht p (hasL sh nt) n kp q j) p j x)) ∧ ∃ B2, thk B2 ∧ h = [A0, (moSeg 32 k f c n kp l nt w sh (p : Int) t d wa), B2, (miscSeg z fs ss sp la gr tl tp), B4, A5, C6]) (13, [some (.inr 96), some (.inl (((x + 1) : Nat) : Int)), none, none], [], [A0, (moSeg 32 k f c n kp l nt w sh (p : Int) t d wa), (moSeg 64 k f c n (dayIt p (hasL sh nt) n x kp) l nt w sh (p : Int) t (d + (x : Int)) wa), (miscSeg z fs ss sp la gr tl tp), B4, A5, C6]) := by
    intro j
    induction j with
    | zero =>
      intro x hij
      obtain rfl : 99 = x := by omega
      refine aGo okX0_firstShortOne 2 (f' := (16, [some (.inr 96), some (.inl (((99 + 1) : Nat) : Int)), none, none], [.inl 99, .inl (((99 + 1) : Nat) : Int)], _)) rfl ?_
      refine b_gt (tgt := 63) okX0_firstShortOne rfl rfl ⟨by omega, by omega⟩ ⟨by omega, by omega⟩ (fun h16 => ?_) (fun h16 => absurd h16 (by omega))
      refine aGo okX0_firstShortOne 1 (f' := (65, [some (.inr 96), some (.inl (((99 + 1) : Nat) : Int)), none, none], [.inl (-9)], _)) rfl ?_
      exact b_ret (v := (some (.inl (-9)))) ⟨rfl, Or.inl rfl⟩ ⟨rfl, _, thk_of (by obtain ⟨a1, a2, a3, a4, a5, a6, a7, a8, a9⟩ := mOK_lens hm; exact ⟨a1, a2, a3, a4, by first | exact a5 | (rw [dayIt_len]; exact a5), a6, a7, a8, a9⟩), rfl⟩ rfl
    | succ j ih =>
      intro x hij
      refine aGo okX0_firstShortOne 2 (f' := (16, [some (.inr 96), some (.inl (((x + 1) : Nat) : Int)), none, none], [.inl 99, .inl (((x + 1) : Nat) : Int)], _)) rfl ?_
      refine b_gt (tgt := 63) okX0_firstShortOne rfl rfl ⟨by omega, by omega⟩ ⟨by omega, by omega⟩ (fun h16 => absurd h16 (by omega)) (fun h16 => ?_)
      refine aGo okX0_firstShortOne 3 (f' := (24, [some (.inr 96), some (.inl (((x + 1) : Nat) : Int)), none, none], [.inl 1, .inr 64], _)) rfl ?_
      refine b_vV (as := [.inl 1]) (rest := []) (k := 64) (.inl (dayB p (hasL sh nt) n (dayIt p (hasL sh nt) n x kp) 1)) okX0_firstShortOne rfl lkX0_24 caX3_passDays (Nat.le_of_ble_eq_true rfl) rfl (Nat.le_of_ble_eq_true rfl) rfl rfl rfl (c_passDays_2 (m := 1) hp7 (by omega) (by rw [dayIt_len]; exact hkp) hn hsh hnt (dayIt_rng rkp) rn hle) ?_
      refine b_cast (f' := (27, [some (.inr 96), some (.inl (((x + 1) : Nat) : Int)), none, none], [.inl (dayB p (hasL sh nt) n (dayIt p (hasL sh nt) n x kp) 1)], [A0, (moSeg 32 k f c n kp l nt w sh (p : Int) t d wa), (moSeg 64 k f c n (dayIt p (hasL sh nt) n 1 (dayIt p (hasL sh nt) n x kp)) l nt w sh (p : Int) t ((d + (x : Int)) + ((1 : Nat) : Int)) wa), (miscSeg z fs ss sp la gr tl tp), B4, A5, C6])) rfl ?_
      refine b_cast (f' := (27, [some (.inr 96), some (.inl (((x + 1) : Nat) : Int)), none, none], [.inl (dayB p (hasL sh nt) n (dayIt p (hasL sh nt) n x kp) 1)], [A0, (moSeg 32 k f c n kp l nt w sh (p : Int) t d wa), (moSeg 64 k f c n (dayIt p (hasL sh nt) n (x + 1) kp) l nt w sh (p : Int) t (d + (((x + 1) : Nat) : Int)) wa), (miscSeg z fs ss sp la gr tl tp), B4, A5, C6])) (congrArg (fun q : Int => ((27, [some (.inr 96), some (.inl (((x + 1) : Nat) : Int)), none, none], [.inl (dayB p (hasL sh nt) n (dayIt p (hasL sh nt) n x kp) 1)], [A0, (moSeg 32 k f c n kp l nt w sh (p : Int) t d wa), (moSeg 64 k f c n (dayIt p (hasL sh nt) n (x + 1) kp) l nt w sh (p : Int) t q wa), (miscSeg z fs ss sp la gr tl tp), B4, A5, C6]) : aF)) (show d + (x : Int) + ((1 : Nat) : Int) = d + ((x + 1 : Nat) : Int) by omega)) ?_
      refine b_cast (f' := (27, [some (.inr 96), some (.inl (((x + 1) : Nat) : Int)), none, none], [.inl (bitsN p (fun q => sht p (hasL sh nt) n kp q x))], [A0, (moSeg 32 k f c n kp l nt w sh (p : Int) t d wa), (moSeg 64 k f c n (dayIt p (hasL sh nt) n (x + 1) kp) l nt w sh (p : Int) t (d + (((x + 1) : Nat) : Int)) wa), (miscSeg z fs ss sp la gr tl tp), B4, A5, C6])) rfl ?_
      refine aGo okX0_firstShortOne 3 (f' := (30, [some (.inr 96), some (.inl (((x + 1) : Nat) : Int)), some (.inl (bitsN p (fun q => sht p (hasL sh nt) n kp q x))), some (.inl 0)], [], _)) rfl ?_
      have lq : ∀ (j2 y : Nat), y + j2 = p → (firstQ ((fun j q => sht p (hasL sh nt) n kp q j) x) p 0 = firstQ ((fun j q => sht p (hasL sh nt) n kp q j) x) j2 y) → AW mX0_firstShortOne 3 0 0 N none (fun rv h => rv = some (.inl (firstO (fun j q => sht p (hasL sh nt) n kp q j) p (j + 1) x)) ∧ ∃ B2, thk B2 ∧ h = [A0, (moSeg 32 k f c n kp l nt w sh (p : Int) t d wa), B2, (miscSeg z fs ss sp la gr tl tp), B4, A5, C6]) (30, [some (.inr 96), some (.inl (((x + 1) : Nat) : Int)), some (.inl (bitsN p (fun q => sht p (hasL sh nt) n kp q x))), some (.inl (y : Int))], [], [A0, (moSeg 32 k f c n kp l nt w sh (p : Int) t d wa), (moSeg 64 k f c n (dayIt p (hasL sh nt) n (x + 1) kp) l nt w sh (p : Int) t (d + (((x + 1) : Nat) : Int)) wa), (miscSeg z fs ss sp la gr tl tp), B4, A5, C6]) := by
        intro j2
        induction j2 with
        | zero =>
          intro y hij2 hqe
          obtain rfl : p = y := by omega
          refine aGo okX0_firstShortOne 3 (f' := (35, [some (.inr 96), some (.inl (((x + 1) : Nat) : Int)), some (.inl (bitsN p (fun q => sht p (hasL sh nt) n kp q x))), some (.inl (p : Int))], [.inr 32, .inl (p : Int)], _)) rfl ?_
          refine b_vV (as := []) (rest := [.inl (p : Int)]) (k := 32) (.inl (p : Int)) okX0_firstShortOne rfl lkX0_31 caX3_people (Nat.le_of_ble_eq_true rfl) rfl (Nat.le_of_ble_eq_true rfl) rfl rfl rfl (c_people_1) ?_
          refine b_ge (tgt := 57) okX0_firstShortOne rfl rfl ⟨by omega, by omega⟩ ⟨by omega, by omega⟩ (fun h38 => ?_) (fun h38 => absurd h38 (by omega))
          refine aGo okX0_firstShortOne 2 (f' := (13, [some (.inr 96), some (.inl ((((x + 1) : Nat) : Int) + 1)), some (.inl (bitsN p (fun q => sht p (hasL sh nt) n kp q x))), some (.inl (p : Int))], [], _)) rfl ?_
          refine b_lose (ls' := [some (.inr 96), some (.inl ((((x + 1) : Nat) : Int) + 1)), none, none]) (lose23 _ _ _ _) ?_
          rw [firstO_f (P := (fun j q => sht p (hasL sh nt) n kp q j)) hqe]
          exact ih (x + 1) (by omega)
        | succ j2 ih2 =>
          intro y hij2 hqe
          refine aGo okX0_firstShortOne 3 (f' := (35, [some (.inr 96), some (.inl (((x + 1) : Nat) : Int)), some (.inl (bitsN p (fun q => sht p (hasL sh nt) n kp q x))), some (.inl (y : Int))], [.inr 32, .inl (y : Int)], _)) rfl ?_
          refine b_vV (as := []) (rest := [.inl (y : Int)]) (k := 32) (.inl (p : Int)) okX0_firstShortOne rfl lkX0_31 caX3_people (Nat.le_of_ble_eq_true rfl) rfl (Nat.le_of_ble_eq_true rfl) rfl rfl rfl (c_people_1) ?_
          refine b_ge (tgt := 57) okX0_firstShortOne rfl rfl ⟨by omega, by omega⟩ ⟨by omega, by omega⟩ (fun h38 => absurd h38 (by omega)) (fun h38 => ?_)
          refine aGo okX0_firstShortOne 5 (f' := (46, [some (.inr 96), some (.inl (((x + 1) : Nat) : Int)), some (.inl (bitsN p (fun q => sht p (hasL sh nt) n kp q x))), some (.inl (y : Int))], [.inl (aAnd (aShr (bitsN p (fun q => sht p (hasL sh nt) n kp q x)) (y : Int)) 1)], _)) rfl ?_
          have hbv := bits_and hp7 (fun q => sht p (hasL sh nt) n kp q x) (show y < p by omega)
          cases hz : sht p (hasL sh nt) n kp y x with
          | false =>
            simp only [hz] at hbv
            refine b_cast (f' := (46, [some (.inr 96), some (.inl (((x + 1) : Nat) : Int)), some (.inl (bitsN p (fun q => sht p (hasL sh nt) n kp q x))), some (.inl (y : Int))], [.inl 0], [A0, (moSeg 32 k f c n kp l nt w sh (p : Int) t d wa), (moSeg 64 k f c n (dayIt p (hasL sh nt) n (x + 1) kp) l nt w sh (p : Int) t (d + (((x + 1) : Nat) : Int)) wa), (miscSeg z fs ss sp la gr tl tp), B4, A5, C6])) (congrArg (fun q : Int => ((46, [some (.inr 96), some (.inl (((x + 1) : Nat) : Int)), some (.inl (bitsN p (fun q => sht p (hasL sh nt) n kp q x))), some (.inl (y : Int))], .inl q :: [], [A0, (moSeg 32 k f c n kp l nt w sh (p : Int) t d wa), (moSeg 64 k f c n (dayIt p (hasL sh nt) n (x + 1) kp) l nt w sh (p : Int) t (d + (((x + 1) : Nat) : Int)) wa), (miscSeg z fs ss sp la gr tl tp), B4, A5, C6]) : aF)) hbv) ?_
            rw [firstQ_f (P := (fun j q => sht p (hasL sh nt) n kp q j) x) hz] at hqe
            refine b0_eq (tgt := 51) okX0_firstShortOne rfl rfl ⟨by omega, by omega⟩ (fun h46 => ?_) (fun h46 => absurd h46 (by omega))
            refine aGo okX0_firstShortOne 2 (f' := (30, [some (.inr 96), some (.inl (((x + 1) : Nat) : Int)), some (.inl (bitsN p (fun q => sht p (hasL sh nt) n kp q x))), some (.inl ((y : Int) + 1))], [], _)) rfl ?_
            exact ih2 (y + 1) (by omega) hqe
          | true =>
            simp only [hz] at hbv
            refine b_cast (f' := (46, [some (.inr 96), some (.inl (((x + 1) : Nat) : Int)), some (.inl (bitsN p (fun q => sht p (hasL sh nt) n kp q x))), some (.inl (y : Int))], [.inl 1], [A0, (moSeg 32 k f c n kp l nt w sh (p : Int) t d wa), (moSeg 64 k f c n (dayIt p (hasL sh nt) n (x + 1) kp) l nt w sh (p : Int) t (d + (((x + 1) : Nat) : Int)) wa), (miscSeg z fs ss sp la gr tl tp), B4, A5, C6])) (congrArg (fun q : Int => ((46, [some (.inr 96), some (.inl (((x + 1) : Nat) : Int)), some (.inl (bitsN p (fun q => sht p (hasL sh nt) n kp q x))), some (.inl (y : Int))], .inl q :: [], [A0, (moSeg 32 k f c n kp l nt w sh (p : Int) t d wa), (moSeg 64 k f c n (dayIt p (hasL sh nt) n (x + 1) kp) l nt w sh (p : Int) t (d + (((x + 1) : Nat) : Int)) wa), (miscSeg z fs ss sp la gr tl tp), B4, A5, C6]) : aF)) hbv) ?_
            rw [firstQ_t (P := (fun j q => sht p (hasL sh nt) n kp q j) x) hz] at hqe
            rw [firstO_t (P := (fun j q => sht p (hasL sh nt) n kp q j)) (by rw [hqe]; omega), hqe]
            refine b0_eq (tgt := 51) okX0_firstShortOne rfl rfl ⟨by omega, by omega⟩ (fun h46 => absurd h46 (by omega)) (fun h46 => ?_)
            refine aGo okX0_firstShortOne 1 (f' := (50, [some (.inr 96), some (.inl (((x + 1) : Nat) : Int)), some (.inl (bitsN p (fun q => sht p (hasL sh nt) n kp q x))), some (.inl (y : Int))], [.inl (y : Int)], _)) rfl ?_
            exact b_ret (v := (some (.inl (y : Int)))) ⟨rfl, Or.inl rfl⟩ ⟨rfl, _, thk_of (by obtain ⟨a1, a2, a3, a4, a5, a6, a7, a8, a9⟩ := mOK_lens hm; exact ⟨a1, a2, a3, a4, by first | exact a5 | (rw [dayIt_len]; exact a5), a6, a7, a8, a9⟩), rfl⟩ rfl
      exact lq p 0 (by omega) rfl
  refine aGo okX0_firstShortOne 4 (f' := (8, [some (.inr 96), none, none, none], [.inr 32, .inr 64], _)) rfl ?_
  refine b_vN (as := [.inr 32]) (rest := []) (k := 64) okX0_firstShortOne rfl lkX0_18 caX3_takeFrom (Nat.le_of_ble_eq_true rfl) rfl (Nat.le_of_ble_eq_true rfl) rfl rfl rfl (c_take_21 (mOK_lens hm) hl0) ?_
  refine b_cast (f' := (11, [some (.inr 96), none, none, none], [], [A0, (moSeg 32 k f c n kp l nt w sh (p : Int) t d wa), (moSeg 64 k f c n kp l nt w sh (p : Int) t d wa), (miscSeg z fs ss sp la gr tl tp), B4, A5, C6])) rfl ?_
  refine aGo okX0_firstShortOne 2 (f' := (13, [some (.inr 96), some (.inl 1), none, none], [], _)) rfl ?_
  refine b_cast (f' := (13, [some (.inr 96), some (.inl 1), none, none], [], [A0, (moSeg 32 k f c n kp l nt w sh (p : Int) t d wa), (moSeg 64 k f c n kp l nt w sh (p : Int) t (d + ((0 : Nat) : Int)) wa), (miscSeg z fs ss sp la gr tl tp), B4, A5, C6])) (congrArg (fun q : Int => ((13, [some (.inr 96), some (.inl 1), none, none], [], [A0, (moSeg 32 k f c n kp l nt w sh (p : Int) t d wa), (moSeg 64 k f c n kp l nt w sh (p : Int) t q wa), (miscSeg z fs ss sp la gr tl tp), B4, A5, C6]) : aF)) (show d = d + ((0 : Nat) : Int) by omega)) ?_
  exact lp 99 0 (by omega)
end ADA
