/-! The reference's answers, first half; laid by gen_mod5.py -/
section MOV2
variable {p : Nat} {k f c n kp l : List Int} {t d : Int}
theorem bOK_l (h : bOK p k f c n kp l t d) {q : Nat} {v : Int} (h0 : 0 ≤ v) (h1 : v ≤ 99) : bOK p k f c n kp (l.set q v) t d := by
  obtain ⟨hp7, hk, hf, hc, hn, hkp, hl, rk, rf, rc, rn, rkp, rl, ht0, ht1, hd0, hd1⟩ := h
  exact ⟨hp7, hk, hf, hc, hn, hkp, by rw [List.length_set]; exact hl, rk, rf, rc, rn, rkp, rng_set rl h0 h1, ht0, ht1, hd0, hd1⟩
theorem bOK_kp (h : bOK p k f c n kp l t d) {q : Nat} {v : Int} (h0 : 0 ≤ v) (h1 : v ≤ 9999) : bOK p k f c n (kp.set q v) l t d := by
  obtain ⟨hp7, hk, hf, hc, hn, hkp, hl, rk, rf, rc, rn, rkp, rl, ht0, ht1, hd0, hd1⟩ := h
  exact ⟨hp7, hk, hf, hc, hn, by rw [List.length_set]; exact hkp, hl, rk, rf, rc, rn, rng_set rkp h0 h1, rl, ht0, ht1, hd0, hd1⟩
theorem bOK_n (h : bOK p k f c n kp l t d) {q : Nat} {v : Int} (h0 : 0 ≤ v) (h1 : v ≤ 99) : bOK p k f c (n.set q v) kp l t d := by
  obtain ⟨hp7, hk, hf, hc, hn, hkp, hl, rk, rf, rc, rn, rkp, rl, ht0, ht1, hd0, hd1⟩ := h
  exact ⟨hp7, hk, hf, hc, by rw [List.length_set]; exact hn, hkp, hl, rk, rf, rc, rng_set rn h0 h1, rkp, rl, ht0, ht1, hd0, hd1⟩
theorem bOK_t (h : bOK p k f c n kp l t d) {v : Int} (h0 : 0 ≤ v) (h1 : v ≤ 999) : bOK p k f c n kp l v d := by
  obtain ⟨hp7, hk, hf, hc, hn, hkp, hl, rk, rf, rc, rn, rkp, rl, ht0, ht1, hd0, hd1⟩ := h
  exact ⟨hp7, hk, hf, hc, hn, hkp, hl, rk, rf, rc, rn, rkp, rl, h0, h1, hd0, hd1⟩
end MOV2
theorem aOr_0 {x : Int} (h : aI x) : aOr x 0 = x := by
  show (Int32.ofInt x ||| Int32.ofInt 0).toInt = x
  rw [show Int32.ofInt 0 = 0 from rfl, Int32.or_zero, aI_toInt h]
/-- bits of ten -/
theorem bits10_le {m : Nat} (hm : m ≤ 10) (P : Nat → Bool) : 0 ≤ bitsN m P ∧ bitsN m P ≤ 2047 := by
  have h : ∀ m : Nat, m ≤ 10 → ∃ x : Nat, x < 2 ^ m ∧ bitsN m P = (x : Int) := by
    intro m
    induction m with
    | zero => intro _; exact ⟨0, by decide, rfl⟩
    | succ m ih =>
      intro hm
      obtain ⟨x, h1, h2⟩ := ih (by omega)
      have e : ∀ m : Nat, m < 10 → ∀ x : Nat, x < 2 ^ m → aOr (x : Int) (aShl 1 (m : Int)) = ((x + 2 ^ m : Nat) : Int) := by decide +kernel
      cases z : P m with
      | true => exact ⟨x + 2 ^ m, by rw [Nat.pow_succ]; omega, by rw [bitsN_t z, h2, e m (by omega) x h1]⟩
      | false => exact ⟨x, by rw [Nat.pow_succ]; omega, by rw [bitsN_f z, h2]⟩
  obtain ⟨x, h1, h2⟩ := h m hm
  have : 2 ^ m ≤ 2 ^ 10 := Nat.pow_le_pow_right (by decide) hm
  rw [h2]; omega
set_option maxRecDepth 100000 in
set_option maxHeartbeats 4000000 in
theorem mk_letter {imt : Int} {tc : Nat} {k f c n kp l : List Int} {p : Nat} {t d : Int} {to re : List Int} {tl : Nat} {tp : List Int} {I : moT} {A0 A1 A2 A3 A4 A5 : List (Option aE)} {h : aH} {N : Nat} (hS : mSt imt tc k f c n kp l p t d to re tl tp I A0 A1 A2 A3 A4 A5 h) {x : Int} (hx : 0 ≤ x ∧ x ≤ 255) (htl : tl < 96) : aEv mX8_letter 1 0 0 N [.inr 192, .inl x] h (fun rv h2 => rv = some (.inl (((tl : Int) + 1))) ∧ mSt imt tc k f c n kp l p t d to re (tl + 1) (tp.set tl x) I A0 A1 A2 A3 A4 A5 h2) := by
  obtain ⟨hp6, hd9, hax, hb, le, la, td, kt, sh, so, had, gr, fi, se, at_, sn, ik, cu, st, hml, him, rfl⟩ := hS
  obtain ⟨htp, rtp, htl9, hto, rto, htc, hre⟩ := id hax
  obtain ⟨hle, hla, htd, hkt, hsh, hso, hha, hgr, hfi, hse⟩ := id hml
  obtain ⟨hp7, hk, hf, hc, hn, hkp, hl, rk, rf, rc, rn, rkp, rl, ht0, ht1, hd0, hd1⟩ := id hb
  refine aEv_of okX8_letter caX8_letter (Nat.le_of_ble_eq_true rfl) ?_
  refine aGo okX8_letter 3 (f' := (5, [some (.inr 192), some (.inl x), none], [.inl 255, .inl 0, .inl x], _)) rfl ?_
  refine b_vS (as := [.inl x, .inl 0, .inl 255]) (rest := []) (.inl 0) okX8_letter rfl lkX8_79 caX8_bound (Nat.le_of_ble_eq_true rfl) rfl (Nat.le_of_ble_eq_true rfl) rfl (c_bound_m ⟨by omega, by omega⟩ ⟨by omega, by omega⟩ ⟨by omega, by omega⟩ ⟨by omega, by omega⟩) ?_
  refine aGo okX8_letter 2 (f' := (10, [some (.inr 192), some (.inl x), some (.inl 0)], [.inl 0], _)) rfl ?_
  refine b0_ne (tgt := 25) okX8_letter rfl rfl ⟨by omega, by omega⟩ (fun h10 => absurd h10 (by omega)) (fun h10 => ?_)
  refine aGo okX8_letter 3 (f' := (19, [some (.inr 192), some (.inl x), some (.inl 0)], [.inl 96, .inl (tl : Int)], _)) rfl ?_
  refine b_ne (tgt := 25) okX8_letter rfl rfl ⟨by omega, by omega⟩ ⟨by omega, by omega⟩ (fun h19 => ?_) (fun h19 => ?_)
  · refine aGo okX8_letter 1 (f' := (26, [some (.inr 192), some (.inl x), some (.inl 0)], [.inl 0], _)) rfl ?_
    refine b0_eq (tgt := 35) okX8_letter rfl rfl ⟨by omega, by omega⟩ (fun h26 => ?_) (fun h26 => absurd h26 (by omega))
    refine aGo okX8_letter 5 (f' := (44, [some (.inr 192), some (.inl x), some (.inl 0)], [.inl x, .inl (tl : Int), .inr 200], _)) rfl ?_
    refine b_ast (k := 200) (j := tl) (a := tp) okX8_letter rfl rfl (by omega) (by omega) (by omega) ?_
    refine b_cast (f' := (45, [some (.inr 192), some (.inl x), some (.inl 0)], [], [A0, A1, A2, A3, A4, A5, (modSeg re k f c n kp l (tp.set tl x) le la td kt sh so had gr fi se to (p : Int) t d (tl : Int) at_ sn imt ik cu 0 st (tc : Int))])) rfl ?_
    refine aGo okX8_letter 8 (f' := (59, [some (.inr 192), some (.inl x), some (.inl 0)], [.inl ((tl : Int) + 1)], [A0, A1, A2, A3, A4, A5, (modSeg re k f c n kp l (tp.set tl x) le la td kt sh so had gr fi se to (p : Int) t d ((tl : Int) + 1) at_ sn imt ik cu 0 st (tc : Int))])) rfl ?_
    exact b_ret (v := (some (.inl ((tl : Int) + 1)))) ⟨rfl, Or.inl rfl⟩ ⟨congrArg (fun q : Int => (some (.inl q) : Option aV)) (rfl), mSt_of hp6 hd9 ⟨by rw [List.length_set]; exact htp, rng_set rtp (by omega) (by omega), by omega, hto, rto, htc, hre⟩ (hb) hml (him)⟩ rfl
  · refine aGo okX8_letter 3 (f' := (26, [some (.inr 192), some (.inl x), some (.inl (-6))], [.inl (-6)], _)) rfl ?_
    refine b0_eq (tgt := 35) okX8_letter rfl rfl ⟨by omega, by omega⟩ (fun h26 => absurd h26 (by omega)) (fun h26 => ?_)
    refine aGo okX8_letter 2 (f' := (31, [some (.inr 192), some (.inl x), some (.inl (-6))], [.inl (-6), .inr 192], _)) rfl ?_
    exfalso; omega
set_option maxRecDepth 100000 in
set_option maxHeartbeats 4000000 in
theorem mk_person {imt : Int} {tc : Nat} {k f c n kp l : List Int} {p : Nat} {t d : Int} {to re : List Int} {tl : Nat} {tp : List Int} {I : moT} {A0 A1 A2 A3 A4 A5 : List (Option aE)} {h : aH} {N : Nat} (hS : mSt imt tc k f c n kp l p t d to re tl tp I A0 A1 A2 A3 A4 A5 h) {i : Nat} {y : Int} (hi : i < p) (hy : 0 ≤ y ∧ y ≤ 6) : aEv mX8_person 6 0 0 N [.inr 192, .inl (i : Int), .inl y] h (fun rv h2 => rv = some (.inl (([k.getD i 0, f.getD i 0, c.getD i 0, n.getD i 0, kp.getD i 0, wt p k f c i, shr p k f c t i].getD y.toNat 0))) ∧ mSt imt tc k f c n kp l p t d to re tl tp I A0 A1 A2 A3 A4 A5 h2) := by
  obtain ⟨hp6, hd9, hax, hb, le, la, td, kt, sh, so, had, gr, fi, se, at_, sn, ik, cu, st, hml, him, rfl⟩ := hS
  obtain ⟨htp, rtp, htl9, hto, rto, htc, hre⟩ := id hax
  obtain ⟨hle, hla, htd, hkt, hsh, hso, hha, hgr, hfi, hse⟩ := id hml
  obtain ⟨hp7, hk, hf, hc, hn, hkp, hl, rk, rf, rc, rn, rkp, rl, ht0, ht1, hd0, hd1⟩ := id hb
  refine aEv_of okX8_person caX8_person (Nat.le_of_ble_eq_true rfl) ?_
  refine aGo okX8_person 2 (f' := (2, [some (.inr 192), some (.inl (i : Int)), some (.inl y)], [.inl (i : Int), .inr 192], _)) rfl ?_
  refine b_vV (as := [.inl (i : Int)]) (rest := []) (k := 192) (.inl 1) okX8_person rfl lkX8_75 caX8_isOne (Nat.le_of_ble_eq_true rfl) rfl (Nat.le_of_ble_eq_true rfl) rfl rfl rfl (c_isOne_t hp7 ⟨by omega, by omega⟩) ?_
  refine b0_ne (tgt := 14) okX8_person rfl rfl ⟨by omega, by omega⟩ (fun h5 => ?_) (fun h5 => absurd h5 (by omega))
  refine aGo okX8_person 1 (f' := (15, [some (.inr 192), some (.inl (i : Int)), some (.inl y)], [.inl y], _)) rfl ?_
  by_cases hs15 : 0 ≤ y ∧ y ≤ 6
  · have hsx := (show y = 0 ∨ y = 1 ∨ y = 2 ∨ y = 3 ∨ y = 4 ∨ y = 5 ∨ y = 6 from by omega)
    rcases hsx with hsw | hsw | hsw | hsw | hsw | hsw | hsw
    · refine b_cast (f' := (15, [some (.inr 192), some (.inl (i : Int)), some (.inl y)], [.inl 0], [A0, A1, A2, A3, A4, A5, (modSeg re k f c n kp l tp le la td kt sh so had gr fi se to (p : Int) t d (tl : Int) at_ sn imt ik cu 0 st (tc : Int))])) (congrArg (fun zz : Int => ((15, [some (.inr 192), some (.inl (i : Int)), some (.inl y)], .inl zz :: [], [A0, A1, A2, A3, A4, A5, (modSeg re k f c n kp l tp le la td kt sh so had gr fi se to (p : Int) t d (tl : Int) at_ sn imt ik cu 0 st (tc : Int))]) : aF)) hsw) ?_
      refine b_swIn (tgt := 56) okX8_person rfl ⟨by decide, by decide⟩ (by decide) (by decide) rfl rfl ?_
      refine aGo okX8_person 3 (f' := (61, [some (.inr 192), some (.inl (i : Int)), some (.inl y)], [.inl (i : Int), .inr 194], _)) rfl ?_
      refine b_ald (k := 194) (j := i) (a := k) okX8_person rfl rfl (by omega) (by omega) (by omega) ?_
      exact b_ret (v := (some (.inl (k.getD i 0)))) ⟨rfl, Or.inl rfl⟩ ⟨congrArg (fun q : Int => (some (.inl q) : Option aV)) (by rw [hsw]; exact rfl), mSt_of hp6 hd9 hax (hb) hml (him)⟩ rfl
    · refine b_cast (f' := (15, [some (.inr 192), some (.inl (i : Int)), some (.inl y)], [.inl 1], [A0, A1, A2, A3, A4, A5, (modSeg re k f c n kp l tp le la td kt sh so had gr fi se to (p : Int) t d (tl : Int) at_ sn imt ik cu 0 st (tc : Int))])) (congrArg (fun zz : Int => ((15, [some (.inr 192), some (.inl (i : Int)), some (.inl y)], .inl zz :: [], [A0, A1, A2, A3, A4, A5, (modSeg re k f c n kp l tp le la td kt sh so had gr fi se to (p : Int) t d (tl : Int) at_ sn imt ik cu 0 st (tc : Int))]) : aF)) hsw) ?_
      refine b_swIn (tgt := 63) okX8_person rfl ⟨by decide, by decide⟩ (by decide) (by decide) rfl rfl ?_
      refine aGo okX8_person 3 (f' := (68, [some (.inr 192), some (.inl (i : Int)), some (.inl y)], [.inl (i : Int), .inr 195], _)) rfl ?_
      refine b_ald (k := 195) (j := i) (a := f) okX8_person rfl rfl (by omega) (by omega) (by omega) ?_
      exact b_ret (v := (some (.inl (f.getD i 0)))) ⟨rfl, Or.inl rfl⟩ ⟨congrArg (fun q : Int => (some (.inl q) : Option aV)) (by rw [hsw]; exact rfl), mSt_of hp6 hd9 hax (hb) hml (him)⟩ rfl
    · refine b_cast (f' := (15, [some (.inr 192), some (.inl (i : Int)), some (.inl y)], [.inl 2], [A0, A1, A2, A3, A4, A5, (modSeg re k f c n kp l tp le la td kt sh so had gr fi se to (p : Int) t d (tl : Int) at_ sn imt ik cu 0 st (tc : Int))])) (congrArg (fun zz : Int => ((15, [some (.inr 192), some (.inl (i : Int)), some (.inl y)], .inl zz :: [], [A0, A1, A2, A3, A4, A5, (modSeg re k f c n kp l tp le la td kt sh so had gr fi se to (p : Int) t d (tl : Int) at_ sn imt ik cu 0 st (tc : Int))]) : aF)) hsw) ?_
      refine b_swIn (tgt := 70) okX8_person rfl ⟨by decide, by decide⟩ (by decide) (by decide) rfl rfl ?_
      refine aGo okX8_person 3 (f' := (75, [some (.inr 192), some (.inl (i : Int)), some (.inl y)], [.inl (i : Int), .inr 196], _)) rfl ?_
      refine b_ald (k := 196) (j := i) (a := c) okX8_person rfl rfl (by omega) (by omega) (by omega) ?_
      exact b_ret (v := (some (.inl (c.getD i 0)))) ⟨rfl, Or.inl rfl⟩ ⟨congrArg (fun q : Int => (some (.inl q) : Option aV)) (by rw [hsw]; exact rfl), mSt_of hp6 hd9 hax (hb) hml (him)⟩ rfl
    · refine b_cast (f' := (15, [some (.inr 192), some (.inl (i : Int)), some (.inl y)], [.inl 3], [A0, A1, A2, A3, A4, A5, (modSeg re k f c n kp l tp le la td kt sh so had gr fi se to (p : Int) t d (tl : Int) at_ sn imt ik cu 0 st (tc : Int))])) (congrArg (fun zz : Int => ((15, [some (.inr 192), some (.inl (i : Int)), some (.inl y)], .inl zz :: [], [A0, A1, A2, A3, A4, A5, (modSeg re k f c n kp l tp le la td kt sh so had gr fi se to (p : Int) t d (tl : Int) at_ sn imt ik cu 0 st (tc : Int))]) : aF)) hsw) ?_
      refine b_swIn (tgt := 77) okX8_person rfl ⟨by decide, by decide⟩ (by decide) (by decide) rfl rfl ?_
      refine aGo okX8_person 3 (f' := (82, [some (.inr 192), some (.inl (i : Int)), some (.inl y)], [.inl (i : Int), .inr 197], _)) rfl ?_
      refine b_ald (k := 197) (j := i) (a := n) okX8_person rfl rfl (by omega) (by omega) (by omega) ?_
      exact b_ret (v := (some (.inl (n.getD i 0)))) ⟨rfl, Or.inl rfl⟩ ⟨congrArg (fun q : Int => (some (.inl q) : Option aV)) (by rw [hsw]; exact rfl), mSt_of hp6 hd9 hax (hb) hml (him)⟩ rfl
    · refine b_cast (f' := (15, [some (.inr 192), some (.inl (i : Int)), some (.inl y)], [.inl 4], [A0, A1, A2, A3, A4, A5, (modSeg re k f c n kp l tp le la td kt sh so had gr fi se to (p : Int) t d (tl : Int) at_ sn imt ik cu 0 st (tc : Int))])) (congrArg (fun zz : Int => ((15, [some (.inr 192), some (.inl (i : Int)), some (.inl y)], .inl zz :: [], [A0, A1, A2, A3, A4, A5, (modSeg re k f c n kp l tp le la td kt sh so had gr fi se to (p : Int) t d (tl : Int) at_ sn imt ik cu 0 st (tc : Int))]) : aF)) hsw) ?_
      refine b_swIn (tgt := 84) okX8_person rfl ⟨by decide, by decide⟩ (by decide) (by decide) rfl rfl ?_
      refine aGo okX8_person 3 (f' := (89, [some (.inr 192), some (.inl (i : Int)), some (.inl y)], [.inl (i : Int), .inr 198], _)) rfl ?_
      refine b_ald (k := 198) (j := i) (a := kp) okX8_person rfl rfl (by omega) (by omega) (by omega) ?_
      exact b_ret (v := (some (.inl (kp.getD i 0)))) ⟨rfl, Or.inl rfl⟩ ⟨congrArg (fun q : Int => (some (.inl q) : Option aV)) (by rw [hsw]; exact rfl), mSt_of hp6 hd9 hax (hb) hml (him)⟩ rfl
    · refine b_cast (f' := (15, [some (.inr 192), some (.inl (i : Int)), some (.inl y)], [.inl 5], [A0, A1, A2, A3, A4, A5, (modSeg re k f c n kp l tp le la td kt sh so had gr fi se to (p : Int) t d (tl : Int) at_ sn imt ik cu 0 st (tc : Int))])) (congrArg (fun zz : Int => ((15, [some (.inr 192), some (.inl (i : Int)), some (.inl y)], .inl zz :: [], [A0, A1, A2, A3, A4, A5, (modSeg re k f c n kp l tp le la td kt sh so had gr fi se to (p : Int) t d (tl : Int) at_ sn imt ik cu 0 st (tc : Int))]) : aF)) hsw) ?_
      refine b_swIn (tgt := 91) okX8_person rfl ⟨by decide, by decide⟩ (by decide) (by decide) rfl rfl ?_
      refine aGo okX8_person 2 (f' := (93, [some (.inr 192), some (.inl (i : Int)), some (.inl y)], [.inl (i : Int), .inr 192], _)) rfl ?_
      refine b_vV (as := [.inl (i : Int)]) (rest := []) (k := 192) (.inl (wt p k f c i)) okX8_person rfl lkX8_193 caX8_weightOf (Nat.le_of_ble_eq_true rfl) rfl (Nat.le_of_ble_eq_true rfl) rfl rfl rfl (c_mWeight0 hp7 hk hf hc rk rf rc (i := i) (by omega)) ?_
      exact b_ret (v := (some (.inl (wt p k f c i)))) ⟨rfl, Or.inl rfl⟩ ⟨congrArg (fun q : Int => (some (.inl q) : Option aV)) (by rw [hsw]; exact rfl), mSt_of hp6 hd9 hax (hb) hml (him)⟩ rfl
    · refine b_cast (f' := (15, [some (.inr 192), some (.inl (i : Int)), some (.inl y)], [.inl 6], [A0, A1, A2, A3, A4, A5, (modSeg re k f c n kp l tp le la td kt sh so had gr fi se to (p : Int) t d (tl : Int) at_ sn imt ik cu 0 st (tc : Int))])) (congrArg (fun zz : Int => ((15, [some (.inr 192), some (.inl (i : Int)), some (.inl y)], .inl zz :: [], [A0, A1, A2, A3, A4, A5, (modSeg re k f c n kp l tp le la td kt sh so had gr fi se to (p : Int) t d (tl : Int) at_ sn imt ik cu 0 st (tc : Int))]) : aF)) hsw) ?_
      refine b_swIn (tgt := 97) okX8_person rfl ⟨by decide, by decide⟩ (by decide) (by decide) rfl rfl ?_
      refine aGo okX8_person 1 (f' := (98, [some (.inr 192), some (.inl (i : Int)), some (.inl y)], [.inr 192], _)) rfl ?_
      refine b_vE (as := []) (rest := []) (k := 192) okX8_person rfl lkX8_202 caX8_findShares (Nat.le_of_ble_eq_true rfl) rfl (Nat.le_of_ble_eq_true rfl) rfl rfl rfl (c_findShares (gH_of hb hsh)) ?_
      rintro _ _ ⟨rfl, sh2, lsh2, esh2, rfl⟩
      refine aGo okX8_person 3 (f' := (106, [some (.inr 192), some (.inl (i : Int)), some (.inl y)], [.inl (i : Int), .inr 205], _)) rfl ?_
      refine b_ald (k := 205) (j := i) (a := sh2) okX8_person rfl rfl (by omega) (by omega) (by omega) ?_
      exact b_ret (v := (some (.inl (sh2.getD i 0)))) ⟨rfl, Or.inl rfl⟩ ⟨congrArg (fun q : Int => (some (.inl q) : Option aV)) (by rw [hsw]; exact esh2 i hi), mSt_of hp6 hd9 hax (hb) ⟨hle, hla, htd, hkt, lsh2, hso, hha, hgr, hfi, hse⟩ (him)⟩ rfl
  · refine b_swOut (tgt := 108) okX8_person rfl ⟨by omega, by omega⟩ (by omega) rfl ?_
    refine aGo okX8_person 2 (f' := (111, [some (.inr 192), some (.inl (i : Int)), some (.inl y)], [.inl (-2), .inr 192], _)) rfl ?_
    exfalso; omega
set_option maxRecDepth 100000 in
set_option maxHeartbeats 4000000 in
theorem mk_owns {imt : Int} {tc : Nat} {k f c n kp l : List Int} {p : Nat} {t d : Int} {to re : List Int} {tl : Nat} {tp : List Int} {I : moT} {A0 A1 A2 A3 A4 A5 : List (Option aE)} {h : aH} {N : Nat} (hS : mSt imt tc k f c n kp l p t d to re tl tp I A0 A1 A2 A3 A4 A5 h) {i : Nat} (hi : i < p) : aEv mX8_owns 6 0 0 N [.inr 192, .inl (i : Int)] h (fun rv h2 => rv = some (.inl (hasM p k f c l t i)) ∧ mSt imt tc k f c n kp l p t d to re tl tp I A0 A1 A2 A3 A4 A5 h2) := by
  obtain ⟨hp6, hd9, hax, hb, le, la, td, kt, sh, so, had, gr, fi, se, at_, sn, ik, cu, st, hml, him, rfl⟩ := hS
  obtain ⟨htp, rtp, htl9, hto, rto, htc, hre⟩ := id hax
  obtain ⟨hle, hla, htd, hkt, hsh, hso, hha, hgr, hfi, hse⟩ := id hml
  obtain ⟨hp7, hk, hf, hc, hn, hkp, hl, rk, rf, rc, rn, rkp, rl, ht0, ht1, hd0, hd1⟩ := id hb
  refine aEv_of okX8_owns caX8_owns (Nat.le_of_ble_eq_true rfl) ?_
  refine aGo okX8_owns 2 (f' := (2, [some (.inr 192), some (.inl (i : Int))], [.inl (i : Int), .inr 192], _)) rfl ?_
  refine b_vV (as := [.inl (i : Int)]) (rest := []) (k := 192) (.inl 1) okX8_owns rfl lkX8_75 caX8_isOne (Nat.le_of_ble_eq_true rfl) rfl (Nat.le_of_ble_eq_true rfl) rfl rfl rfl (c_isOne_t hp7 ⟨by omega, by omega⟩) ?_
  refine b0_ne (tgt := 14) okX8_owns rfl rfl ⟨by omega, by omega⟩ (fun h5 => ?_) (fun h5 => absurd h5 (by omega))
  refine aGo okX8_owns 1 (f' := (15, [some (.inr 192), some (.inl (i : Int))], [.inr 192], _)) rfl ?_
  refine b_vE (as := []) (rest := []) (k := 192) okX8_owns rfl lkX8_202 caX8_findShares (Nat.le_of_ble_eq_true rfl) rfl (Nat.le_of_ble_eq_true rfl) rfl rfl rfl (c_findShares (gH_of hb hsh)) ?_
  rintro _ _ ⟨rfl, sh2, lsh2, esh2, rfl⟩
  refine aGo okX8_owns 2 (f' := (20, [some (.inr 192), some (.inl (i : Int))], [.inl (i : Int), .inr 192], _)) rfl ?_
  refine b_vV (as := [.inl (i : Int)]) (rest := []) (k := 192) (.inl ((sh2.getD i 0) - (net p l i))) okX8_owns rfl lkX8_208 caX8_hasNow (Nat.le_of_ble_eq_true rfl) rfl (Nat.le_of_ble_eq_true rfl) rfl rfl rfl (c_hasNow0 hp7 hl lsh2 (i := i) (by omega)) ?_
  exact b_ret (v := (some (.inl ((sh2.getD i 0) - (net p l i))))) ⟨rfl, Or.inl rfl⟩ ⟨congrArg (fun q : Int => (some (.inl q) : Option aV)) (by rw [esh2 i hi]; rfl), mSt_of hp6 hd9 hax (hb) ⟨hle, hla, htd, hkt, lsh2, hso, hha, hgr, hfi, hse⟩ (him)⟩ rfl
set_option maxRecDepth 100000 in
set_option maxHeartbeats 4000000 in
theorem mk_loan {imt : Int} {tc : Nat} {k f c n kp l : List Int} {p : Nat} {t d : Int} {to re : List Int} {tl : Nat} {tp : List Int} {I : moT} {A0 A1 A2 A3 A4 A5 : List (Option aE)} {h : aH} {N : Nat} (hS : mSt imt tc k f c n kp l p t d to re tl tp I A0 A1 A2 A3 A4 A5 h) {i j : Nat} (hi : i < p) (hj : j < p) (hij : i ≠ j) : aEv mX8_loan 2 0 0 N [.inr 192, .inl (i : Int), .inl (j : Int)] h (fun rv h2 => rv = some (.inl (l.getD (7 * i + j) 0)) ∧ mSt imt tc k f c n kp l p t d to re tl tp I A0 A1 A2 A3 A4 A5 h2) := by
  obtain ⟨hp6, hd9, hax, hb, le, la, td, kt, sh, so, had, gr, fi, se, at_, sn, ik, cu, st, hml, him, rfl⟩ := hS
  obtain ⟨htp, rtp, htl9, hto, rto, htc, hre⟩ := id hax
  obtain ⟨hle, hla, htd, hkt, hsh, hso, hha, hgr, hfi, hse⟩ := id hml
  obtain ⟨hp7, hk, hf, hc, hn, hkp, hl, rk, rf, rc, rn, rkp, rl, ht0, ht1, hd0, hd1⟩ := id hb
  refine aEv_of okX8_loan caX8_loan (Nat.le_of_ble_eq_true rfl) ?_
  refine aGo okX8_loan 3 (f' := (3, [some (.inr 192), some (.inl (i : Int)), some (.inl (j : Int))], [.inl (j : Int), .inl (i : Int), .inr 192], _)) rfl ?_
  refine b_vV (as := [.inl (i : Int), .inl (j : Int)]) (rest := []) (k := 192) (.inl 1) okX8_loan rfl lkX8_134 caX8_areTwo (Nat.le_of_ble_eq_true rfl) rfl (Nat.le_of_ble_eq_true rfl) rfl rfl rfl (c_mTwo_t hp7 ⟨by omega, by omega⟩ ⟨by omega, by omega⟩ (by omega)) ?_
  refine b0_eq (tgt := 23) okX8_loan rfl rfl ⟨by omega, by omega⟩ (fun h6 => absurd h6 (by omega)) (fun h6 => ?_)
  refine aGo okX8_loan 7 (f' := (19, [some (.inr 192), some (.inl (i : Int)), some (.inl (j : Int))], [.inl ((7 * (i : Int)) + (j : Int)), .inr 199], _)) rfl ?_
  refine b_ald (k := 199) (j := ((7 * i) + j)) (a := l) okX8_loan rfl rfl (by omega) (by omega) (by omega) ?_
  refine aGo okX8_loan 1 (f' := (28, [some (.inr 192), some (.inl (i : Int)), some (.inl (j : Int))], [.inl (l.getD ((7 * i) + j) 0)], _)) rfl ?_
  exact b_ret (v := (some (.inl (l.getD ((7 * i) + j) 0)))) ⟨rfl, Or.inl rfl⟩ ⟨congrArg (fun q : Int => (some (.inl q) : Option aV)) (rfl), mSt_of hp6 hd9 hax (hb) hml (him)⟩ rfl
set_option maxRecDepth 100000 in
set_option maxHeartbeats 4000000 in
theorem mk_go {imt : Int} {tc : Nat} {k f c n kp l : List Int} {p : Nat} {t d : Int} {to re : List Int} {tl : Nat} {tp : List Int} {I : moT} {A0 A1 A2 A3 A4 A5 : List (Option aE)} {h : aH} {N : Nat} (hS : mSt imt tc k f c n kp l p t d to re tl tp I A0 A1 A2 A3 A4 A5 h) {i : Nat} {y : Int} (hi : i < p) (hy : 0 ≤ y ∧ y ≤ 35) : aEv mX8_go 1 0 0 N [.inr 192, .inl (i : Int), .inl y] h (fun rv h2 => rv = some (.inl (c.getD i 0)) ∧ mSt imt tc k f (c.set i y) n kp l p t d to re tl tp I A0 A1 A2 A3 A4 A5 h2) := by
  obtain ⟨hp6, hd9, hax, hb, le, la, td, kt, sh, so, had, gr, fi, se, at_, sn, ik, cu, st, hml, him, rfl⟩ := hS
  obtain ⟨htp, rtp, htl9, hto, rto, htc, hre⟩ := id hax
  obtain ⟨hle, hla, htd, hkt, hsh, hso, hha, hgr, hfi, hse⟩ := id hml
  obtain ⟨hp7, hk, hf, hc, hn, hkp, hl, rk, rf, rc, rn, rkp, rl, ht0, ht1, hd0, hd1⟩ := id hb
  refine aEv_of okX8_go caX8_go (Nat.le_of_ble_eq_true rfl) ?_
  refine aGo okX8_go 2 (f' := (2, [some (.inr 192), some (.inl (i : Int)), some (.inl y), none], [.inl (i : Int), .inr 192], _)) rfl ?_
  refine b_vV (as := [.inl (i : Int)]) (rest := []) (k := 192) (.inl 1) okX8_go rfl lkX8_75 caX8_isOne (Nat.le_of_ble_eq_true rfl) rfl (Nat.le_of_ble_eq_true rfl) rfl rfl rfl (c_isOne_t hp7 ⟨by omega, by omega⟩) ?_
  refine b0_eq (tgt := 15) okX8_go rfl rfl ⟨by omega, by omega⟩ (fun h5 => absurd h5 (by omega)) (fun h5 => ?_)
  refine aGo okX8_go 1 (f' := (9, [some (.inr 192), some (.inl (i : Int)), some (.inl y), none], [.inl y], _)) rfl ?_
  refine b_vS (as := [.inl y]) (rest := []) (.inl 1) okX8_go rfl lkX8_117 caX8_isCell (Nat.le_of_ble_eq_true rfl) rfl (Nat.le_of_ble_eq_true rfl) rfl (c_mCell_t ⟨by omega, by omega⟩) ?_
  refine b0_ne (tgt := 21) okX8_go rfl rfl ⟨by omega, by omega⟩ (fun h12 => ?_) (fun h12 => absurd h12 (by omega))
  refine aGo okX8_go 3 (f' := (26, [some (.inr 192), some (.inl (i : Int)), some (.inl y), none], [.inl (i : Int), .inr 196], _)) rfl ?_
  refine b_ald (k := 196) (j := i) (a := c) okX8_go rfl rfl (by omega) (by omega) (by omega) ?_
  refine aGo okX8_go 5 (f' := (34, [some (.inr 192), some (.inl (i : Int)), some (.inl y), some (.inl (c.getD i 0))], [.inl y, .inl (i : Int), .inr 196], _)) rfl ?_
  refine b_ast (k := 196) (j := i) (a := c) okX8_go rfl rfl (by omega) (by omega) (by omega) ?_
  refine b_cast (f' := (35, [some (.inr 192), some (.inl (i : Int)), some (.inl y), some (.inl (c.getD i 0))], [], [A0, A1, A2, A3, A4, A5, (modSeg re k f (c.set i y) n kp l tp le la td kt sh so had gr fi se to (p : Int) t d (tl : Int) at_ sn imt ik cu 0 st (tc : Int))])) rfl ?_
  refine aGo okX8_go 1 (f' := (36, [some (.inr 192), some (.inl (i : Int)), some (.inl y), some (.inl (c.getD i 0))], [.inl (c.getD i 0)], _)) rfl ?_
  exact b_ret (v := (some (.inl (c.getD i 0)))) ⟨rfl, Or.inl rfl⟩ ⟨congrArg (fun q : Int => (some (.inl q) : Option aV)) (rfl), mSt_of hp6 hd9 hax (bOK_c hb (by omega) (by omega)) hml (him)⟩ rfl
set_option maxRecDepth 100000 in
set_option maxHeartbeats 4000000 in
theorem mk_lend {imt : Int} {tc : Nat} {k f c n kp l : List Int} {p : Nat} {t d : Int} {to re : List Int} {tl : Nat} {tp : List Int} {I : moT} {A0 A1 A2 A3 A4 A5 : List (Option aE)} {h : aH} {N : Nat} (hS : mSt imt tc k f c n kp l p t d to re tl tp I A0 A1 A2 A3 A4 A5 h) {i j : Nat} {z : Int} (hi : i < p) (hj : j < p) (hij : i ≠ j) (hz : 0 ≤ z ∧ z ≤ 99) : aEv mX8_lend 2 0 0 N [.inr 192, .inl (i : Int), .inl (j : Int), .inl z] h (fun rv h2 => rv = some (.inl (l.getD (7 * i + j) 0)) ∧ mSt imt tc k f c n kp (l.set (7 * i + j) z) p t d to re tl tp I A0 A1 A2 A3 A4 A5 h2) := by
  obtain ⟨hp6, hd9, hax, hb, le, la, td, kt, sh, so, had, gr, fi, se, at_, sn, ik, cu, st, hml, him, rfl⟩ := hS
  obtain ⟨htp, rtp, htl9, hto, rto, htc, hre⟩ := id hax
  obtain ⟨hle, hla, htd, hkt, hsh, hso, hha, hgr, hfi, hse⟩ := id hml
  obtain ⟨hp7, hk, hf, hc, hn, hkp, hl, rk, rf, rc, rn, rkp, rl, ht0, ht1, hd0, hd1⟩ := id hb
  refine aEv_of okX8_lend caX8_lend (Nat.le_of_ble_eq_true rfl) ?_
  refine aGo okX8_lend 3 (f' := (3, [some (.inr 192), some (.inl (i : Int)), some (.inl (j : Int)), some (.inl z), none, none], [.inl (j : Int), .inl (i : Int), .inr 192], _)) rfl ?_
  refine b_vV (as := [.inl (i : Int), .inl (j : Int)]) (rest := []) (k := 192) (.inl 1) okX8_lend rfl lkX8_134 caX8_areTwo (Nat.le_of_ble_eq_true rfl) rfl (Nat.le_of_ble_eq_true rfl) rfl rfl rfl (c_mTwo_t hp7 ⟨by omega, by omega⟩ ⟨by omega, by omega⟩ (by omega)) ?_
  refine b0_ne (tgt := 13) okX8_lend rfl rfl ⟨by omega, by omega⟩ (fun h6 => ?_) (fun h6 => absurd h6 (by omega))
  refine aGo okX8_lend 3 (f' := (17, [some (.inr 192), some (.inl (i : Int)), some (.inl (j : Int)), some (.inl z), none, none], [.inl 99, .inl 0, .inl z], _)) rfl ?_
  refine b_vS (as := [.inl z, .inl 0, .inl 99]) (rest := []) (.inl 0) okX8_lend rfl lkX8_79 caX8_bound (Nat.le_of_ble_eq_true rfl) rfl (Nat.le_of_ble_eq_true rfl) rfl (c_bound_m ⟨by omega, by omega⟩ ⟨by omega, by omega⟩ ⟨by omega, by omega⟩ ⟨by omega, by omega⟩) ?_
  refine aGo okX8_lend 2 (f' := (24, [some (.inr 192), some (.inl (i : Int)), some (.inl (j : Int)), some (.inl z), some (.inl 0), none], [.inl 0], _)) rfl ?_
  refine b0_eq (tgt := 34) okX8_lend rfl rfl ⟨by omega, by omega⟩ (fun h24 => ?_) (fun h24 => absurd h24 (by omega))
  refine aGo okX8_lend 7 (f' := (44, [some (.inr 192), some (.inl (i : Int)), some (.inl (j : Int)), some (.inl z), some (.inl 0), none], [.inl ((7 * (i : Int)) + (j : Int)), .inr 199], _)) rfl ?_
  refine b_ald (k := 199) (j := ((7 * i) + j)) (a := l) okX8_lend rfl rfl (by omega) (by omega) (by omega) ?_
  refine aGo okX8_lend 9 (f' := (58, [some (.inr 192), some (.inl (i : Int)), some (.inl (j : Int)), some (.inl z), some (.inl 0), some (.inl (l.getD ((7 * i) + j) 0))], [.inl z, .inl ((7 * (i : Int)) + (j : Int)), .inr 199], _)) rfl ?_
  refine b_ast (k := 199) (j := ((7 * i) + j)) (a := l) okX8_lend rfl rfl (by omega) (by omega) (by omega) ?_
  refine b_cast (f' := (59, [some (.inr 192), some (.inl (i : Int)), some (.inl (j : Int)), some (.inl z), some (.inl 0), some (.inl (l.getD ((7 * i) + j) 0))], [], [A0, A1, A2, A3, A4, A5, (modSeg re k f c n kp (l.set ((7 * i) + j) z) tp le la td kt sh so had gr fi se to (p : Int) t d (tl : Int) at_ sn imt ik cu 0 st (tc : Int))])) rfl ?_
  refine aGo okX8_lend 1 (f' := (61, [some (.inr 192), some (.inl (i : Int)), some (.inl (j : Int)), some (.inl z), some (.inl 0), some (.inl (l.getD ((7 * i) + j) 0))], [.inl (l.getD ((7 * i) + j) 0)], _)) rfl ?_
  exact b_ret (v := (some (.inl (l.getD ((7 * i) + j) 0)))) ⟨rfl, Or.inl rfl⟩ ⟨congrArg (fun q : Int => (some (.inl q) : Option aV)) (rfl), mSt_of hp6 hd9 hax (bOK_l hb (by omega) (by omega)) hml (him)⟩ rfl
set_option maxRecDepth 100000 in
set_option maxHeartbeats 4000000 in
theorem mk_keep {imt : Int} {tc : Nat} {k f c n kp l : List Int} {p : Nat} {t d : Int} {to re : List Int} {tl : Nat} {tp : List Int} {I : moT} {A0 A1 A2 A3 A4 A5 : List (Option aE)} {h : aH} {N : Nat} (hS : mSt imt tc k f c n kp l p t d to re tl tp I A0 A1 A2 A3 A4 A5 h) {i : Nat} {y : Int} (hi : i < p) (hy : 0 ≤ y ∧ y ≤ 9999) : aEv mX8_keep 1 0 0 N [.inr 192, .inl (i : Int), .inl y] h (fun rv h2 => rv = some (.inl (kp.getD i 0)) ∧ mSt imt tc k f c n (kp.set i y) l p t d to re tl tp I A0 A1 A2 A3 A4 A5 h2) := by
  obtain ⟨hp6, hd9, hax, hb, le, la, td, kt, sh, so, had, gr, fi, se, at_, sn, ik, cu, st, hml, him, rfl⟩ := hS
  obtain ⟨htp, rtp, htl9, hto, rto, htc, hre⟩ := id hax
  obtain ⟨hle, hla, htd, hkt, hsh, hso, hha, hgr, hfi, hse⟩ := id hml
  obtain ⟨hp7, hk, hf, hc, hn, hkp, hl, rk, rf, rc, rn, rkp, rl, ht0, ht1, hd0, hd1⟩ := id hb
  refine aEv_of okX8_keep caX8_keep (Nat.le_of_ble_eq_true rfl) ?_
  refine aGo okX8_keep 2 (f' := (2, [some (.inr 192), some (.inl (i : Int)), some (.inl y), none, none], [.inl (i : Int), .inr 192], _)) rfl ?_
  refine b_vV (as := [.inl (i : Int)]) (rest := []) (k := 192) (.inl 1) okX8_keep rfl lkX8_75 caX8_isOne (Nat.le_of_ble_eq_true rfl) rfl (Nat.le_of_ble_eq_true rfl) rfl rfl rfl (c_isOne_t hp7 ⟨by omega, by omega⟩) ?_
  refine b0_ne (tgt := 12) okX8_keep rfl rfl ⟨by omega, by omega⟩ (fun h5 => ?_) (fun h5 => absurd h5 (by omega))
  refine aGo okX8_keep 3 (f' := (17, [some (.inr 192), some (.inl (i : Int)), some (.inl y), none, none], [.inl 9999, .inl 0, .inl y], _)) rfl ?_
  refine b_vS (as := [.inl y, .inl 0, .inl 9999]) (rest := []) (.inl 0) okX8_keep rfl lkX8_79 caX8_bound (Nat.le_of_ble_eq_true rfl) rfl (Nat.le_of_ble_eq_true rfl) rfl (c_bound_m ⟨by omega, by omega⟩ ⟨by omega, by omega⟩ ⟨by omega, by omega⟩ ⟨by omega, by omega⟩) ?_
  refine aGo okX8_keep 2 (f' := (22, [some (.inr 192), some (.inl (i : Int)), some (.inl y), some (.inl 0), none], [.inl 0], _)) rfl ?_
  refine b0_eq (tgt := 31) okX8_keep rfl rfl ⟨by omega, by omega⟩ (fun h22 => ?_) (fun h22 => absurd h22 (by omega))
  refine aGo okX8_keep 3 (f' := (36, [some (.inr 192), some (.inl (i : Int)), some (.inl y), some (.inl 0), none], [.inl (i : Int), .inr 198], _)) rfl ?_
  refine b_ald (k := 198) (j := i) (a := kp) okX8_keep rfl rfl (by omega) (by omega) (by omega) ?_
  refine aGo okX8_keep 5 (f' := (45, [some (.inr 192), some (.inl (i : Int)), some (.inl y), some (.inl 0), some (.inl (kp.getD i 0))], [.inl y, .inl (i : Int), .inr 198], _)) rfl ?_
  refine b_ast (k := 198) (j := i) (a := kp) okX8_keep rfl rfl (by omega) (by omega) (by omega) ?_
  refine b_cast (f' := (46, [some (.inr 192), some (.inl (i : Int)), some (.inl y), some (.inl 0), some (.inl (kp.getD i 0))], [], [A0, A1, A2, A3, A4, A5, (modSeg re k f c n (kp.set i y) l tp le la td kt sh so had gr fi se to (p : Int) t d (tl : Int) at_ sn imt ik cu 0 st (tc : Int))])) rfl ?_
  refine aGo okX8_keep 1 (f' := (48, [some (.inr 192), some (.inl (i : Int)), some (.inl y), some (.inl 0), some (.inl (kp.getD i 0))], [.inl (kp.getD i 0)], _)) rfl ?_
  exact b_ret (v := (some (.inl (kp.getD i 0)))) ⟨rfl, Or.inl rfl⟩ ⟨congrArg (fun q : Int => (some (.inl q) : Option aV)) (rfl), mSt_of hp6 hd9 hax (bOK_kp hb (by omega) (by omega)) hml (him)⟩ rfl
set_option maxRecDepth 100000 in
set_option maxHeartbeats 4000000 in
theorem mk_need {imt : Int} {tc : Nat} {k f c n kp l : List Int} {p : Nat} {t d : Int} {to re : List Int} {tl : Nat} {tp : List Int} {I : moT} {A0 A1 A2 A3 A4 A5 : List (Option aE)} {h : aH} {N : Nat} (hS : mSt imt tc k f c n kp l p t d to re tl tp I A0 A1 A2 A3 A4 A5 h) {i : Nat} {y : Int} (hi : i < p) (hy : 0 ≤ y ∧ y ≤ 99) : aEv mX8_need 1 0 0 N [.inr 192, .inl (i : Int), .inl y] h (fun rv h2 => rv = some (.inl (n.getD i 0)) ∧ mSt imt tc k f c (n.set i y) kp l p t d to re tl tp I A0 A1 A2 A3 A4 A5 h2) := by
  obtain ⟨hp6, hd9, hax, hb, le, la, td, kt, sh, so, had, gr, fi, se, at_, sn, ik, cu, st, hml, him, rfl⟩ := hS
  obtain ⟨htp, rtp, htl9, hto, rto, htc, hre⟩ := id hax
  obtain ⟨hle, hla, htd, hkt, hsh, hso, hha, hgr, hfi, hse⟩ := id hml
  obtain ⟨hp7, hk, hf, hc, hn, hkp, hl, rk, rf, rc, rn, rkp, rl, ht0, ht1, hd0, hd1⟩ := id hb
  refine aEv_of okX8_need caX8_need (Nat.le_of_ble_eq_true rfl) ?_
  refine aGo okX8_need 2 (f' := (2, [some (.inr 192), some (.inl (i : Int)), some (.inl y), none, none], [.inl (i : Int), .inr 192], _)) rfl ?_
  refine b_vV (as := [.inl (i : Int)]) (rest := []) (k := 192) (.inl 1) okX8_need rfl lkX8_75 caX8_isOne (Nat.le_of_ble_eq_true rfl) rfl (Nat.le_of_ble_eq_true rfl) rfl rfl rfl (c_isOne_t hp7 ⟨by omega, by omega⟩) ?_
  refine b0_ne (tgt := 12) okX8_need rfl rfl ⟨by omega, by omega⟩ (fun h5 => ?_) (fun h5 => absurd h5 (by omega))
  refine aGo okX8_need 3 (f' := (16, [some (.inr 192), some (.inl (i : Int)), some (.inl y), none, none], [.inl 99, .inl 0, .inl y], _)) rfl ?_
  refine b_vS (as := [.inl y, .inl 0, .inl 99]) (rest := []) (.inl 0) okX8_need rfl lkX8_79 caX8_bound (Nat.le_of_ble_eq_true rfl) rfl (Nat.le_of_ble_eq_true rfl) rfl (c_bound_m ⟨by omega, by omega⟩ ⟨by omega, by omega⟩ ⟨by omega, by omega⟩ ⟨by omega, by omega⟩) ?_
  refine aGo okX8_need 2 (f' := (21, [some (.inr 192), some (.inl (i : Int)), some (.inl y), some (.inl 0), none], [.inl 0], _)) rfl ?_
  refine b0_eq (tgt := 30) okX8_need rfl rfl ⟨by omega, by omega⟩ (fun h21 => ?_) (fun h21 => absurd h21 (by omega))
  refine aGo okX8_need 3 (f' := (35, [some (.inr 192), some (.inl (i : Int)), some (.inl y), some (.inl 0), none], [.inl (i : Int), .inr 197], _)) rfl ?_
  refine b_ald (k := 197) (j := i) (a := n) okX8_need rfl rfl (by omega) (by omega) (by omega) ?_
  refine aGo okX8_need 5 (f' := (44, [some (.inr 192), some (.inl (i : Int)), some (.inl y), some (.inl 0), some (.inl (n.getD i 0))], [.inl y, .inl (i : Int), .inr 197], _)) rfl ?_
  refine b_ast (k := 197) (j := i) (a := n) okX8_need rfl rfl (by omega) (by omega) (by omega) ?_
  refine b_cast (f' := (45, [some (.inr 192), some (.inl (i : Int)), some (.inl y), some (.inl 0), some (.inl (n.getD i 0))], [], [A0, A1, A2, A3, A4, A5, (modSeg re k f c (n.set i y) kp l tp le la td kt sh so had gr fi se to (p : Int) t d (tl : Int) at_ sn imt ik cu 0 st (tc : Int))])) rfl ?_
  refine aGo okX8_need 1 (f' := (47, [some (.inr 192), some (.inl (i : Int)), some (.inl y), some (.inl 0), some (.inl (n.getD i 0))], [.inl (n.getD i 0)], _)) rfl ?_
  exact b_ret (v := (some (.inl (n.getD i 0)))) ⟨rfl, Or.inl rfl⟩ ⟨congrArg (fun q : Int => (some (.inl q) : Option aV)) (rfl), mSt_of hp6 hd9 hax (bOK_n hb (by omega) (by omega)) hml (him)⟩ rfl
set_option maxRecDepth 100000 in
set_option maxHeartbeats 4000000 in
theorem mk_sum {imt : Int} {tc : Nat} {k f c n kp l : List Int} {p : Nat} {t d : Int} {to re : List Int} {tl : Nat} {tp : List Int} {I : moT} {A0 A1 A2 A3 A4 A5 : List (Option aE)} {h : aH} {N : Nat} (hS : mSt imt tc k f c n kp l p t d to re tl tp I A0 A1 A2 A3 A4 A5 h) {x : Int} (hx : 0 ≤ x ∧ x ≤ 999) : aEv mX8_sum 1 0 0 N [.inr 192, .inl x] h (fun rv h2 => rv = some (.inl (t)) ∧ mSt imt tc k f c n kp l p x d to re tl tp I A0 A1 A2 A3 A4 A5 h2) := by
  obtain ⟨hp6, hd9, hax, hb, le, la, td, kt, sh, so, had, gr, fi, se, at_, sn, ik, cu, st, hml, him, rfl⟩ := hS
  obtain ⟨htp, rtp, htl9, hto, rto, htc, hre⟩ := id hax
  obtain ⟨hle, hla, htd, hkt, hsh, hso, hha, hgr, hfi, hse⟩ := id hml
  obtain ⟨hp7, hk, hf, hc, hn, hkp, hl, rk, rf, rc, rn, rkp, rl, ht0, ht1, hd0, hd1⟩ := id hb
  refine aEv_of okX8_sum caX8_sum (Nat.le_of_ble_eq_true rfl) ?_
  refine aGo okX8_sum 3 (f' := (5, [some (.inr 192), some (.inl x), none, none], [.inl 999, .inl 0, .inl x], _)) rfl ?_
  refine b_vS (as := [.inl x, .inl 0, .inl 999]) (rest := []) (.inl 0) okX8_sum rfl lkX8_79 caX8_bound (Nat.le_of_ble_eq_true rfl) rfl (Nat.le_of_ble_eq_true rfl) rfl (c_bound_m ⟨by omega, by omega⟩ ⟨by omega, by omega⟩ ⟨by omega, by omega⟩ ⟨by omega, by omega⟩) ?_
  refine aGo okX8_sum 2 (f' := (10, [some (.inr 192), some (.inl x), some (.inl 0), none], [.inl 0], _)) rfl ?_
  refine b0_eq (tgt := 19) okX8_sum rfl rfl ⟨by omega, by omega⟩ (fun h10 => ?_) (fun h10 => absurd h10 (by omega))
  refine aGo okX8_sum 7 (f' := (30, [some (.inr 192), some (.inl x), some (.inl 0), some (.inl t)], [.inl t], [A0, A1, A2, A3, A4, A5, (modSeg re k f c n kp l tp le la td kt sh so had gr fi se to (p : Int) x d (tl : Int) at_ sn imt ik cu 0 st (tc : Int))])) rfl ?_
  exact b_ret (v := (some (.inl t))) ⟨rfl, Or.inl rfl⟩ ⟨congrArg (fun q : Int => (some (.inl q) : Option aV)) (rfl), mSt_of hp6 hd9 hax (bOK_t hb (by omega) (by omega)) hml (him)⟩ rfl
set_option maxRecDepth 100000 in
set_option maxHeartbeats 4000000 in
theorem mk_net {imt : Int} {tc : Nat} {k f c n kp l : List Int} {p : Nat} {t d : Int} {to re : List Int} {tl : Nat} {tp : List Int} {I : moT} {A0 A1 A2 A3 A4 A5 : List (Option aE)} {h : aH} {N : Nat} (hS : mSt imt tc k f c n kp l p t d to re tl tp I A0 A1 A2 A3 A4 A5 h) {i : Nat} (hi : i < p) : aEv mX8_net 3 0 0 N [.inr 192, .inl (i : Int)] h (fun rv h2 => rv = some (.inl (net p l i)) ∧ mSt imt tc k f c n kp l p t d to re tl tp I A0 A1 A2 A3 A4 A5 h2) := by
  obtain ⟨hp6, hd9, hax, hb, le, la, td, kt, sh, so, had, gr, fi, se, at_, sn, ik, cu, st, hml, him, rfl⟩ := hS
  obtain ⟨htp, rtp, htl9, hto, rto, htc, hre⟩ := id hax
  obtain ⟨hle, hla, htd, hkt, hsh, hso, hha, hgr, hfi, hse⟩ := id hml
  obtain ⟨hp7, hk, hf, hc, hn, hkp, hl, rk, rf, rc, rn, rkp, rl, ht0, ht1, hd0, hd1⟩ := id hb
  refine aEv_of okX8_net caX8_net (Nat.le_of_ble_eq_true rfl) ?_
  refine aGo okX8_net 2 (f' := (2, [some (.inr 192), some (.inl (i : Int))], [.inl (i : Int), .inr 192], _)) rfl ?_
  refine b_vV (as := [.inl (i : Int)]) (rest := []) (k := 192) (.inl 1) okX8_net rfl lkX8_75 caX8_isOne (Nat.le_of_ble_eq_true rfl) rfl (Nat.le_of_ble_eq_true rfl) rfl rfl rfl (c_isOne_t hp7 ⟨by omega, by omega⟩) ?_
  refine b0_eq (tgt := 16) okX8_net rfl rfl ⟨by omega, by omega⟩ (fun h5 => absurd h5 (by omega)) (fun h5 => ?_)
  refine aGo okX8_net 2 (f' := (10, [some (.inr 192), some (.inl (i : Int))], [.inl (i : Int), .inr 192], _)) rfl ?_
  refine b_vV (as := [.inl (i : Int)]) (rest := []) (k := 192) (.inl (net p l i)) okX8_net rfl lkX8_199 caX8_netOf (Nat.le_of_ble_eq_true rfl) rfl (Nat.le_of_ble_eq_true rfl) rfl rfl rfl (c_mNet0 hp7 hl (i := i) (by omega)) ?_
  refine aGo okX8_net 1 (f' := (21, [some (.inr 192), some (.inl (i : Int))], [.inl (net p l i)], _)) rfl ?_
  exact b_ret (v := (some (.inl (net p l i)))) ⟨rfl, Or.inl rfl⟩ ⟨congrArg (fun q : Int => (some (.inl q) : Option aV)) (rfl), mSt_of hp6 hd9 hax (hb) hml (him)⟩ rfl
set_option maxRecDepth 100000 in
set_option maxHeartbeats 4000000 in
theorem mk_takes {imt : Int} {tc : Nat} {k f c n kp l : List Int} {p : Nat} {t d : Int} {to re : List Int} {tl : Nat} {tp : List Int} {I : moT} {A0 A1 A2 A3 A4 A5 : List (Option aE)} {h : aH} {N : Nat} (hS : mSt imt tc k f c n kp l p t d to re tl tp I A0 A1 A2 A3 A4 A5 h) {i j : Nat} (hi : i < p) (hj : j < p) (hij : i ≠ j) : aEv mX8_takes 7 0 0 N [.inr 192, .inl (i : Int), .inl (j : Int)] h (fun rv h2 => rv = some (.inl (tkF (p - 1) k f c t i j)) ∧ mSt imt tc k f c n kp l p t d to re tl tp I A0 A1 A2 A3 A4 A5 h2) := by
  obtain ⟨hp6, hd9, hax, hb, le, la, td, kt, sh, so, had, gr, fi, se, at_, sn, ik, cu, st, hml, him, rfl⟩ := hS
  obtain ⟨htp, rtp, htl9, hto, rto, htc, hre⟩ := id hax
  obtain ⟨hle, hla, htd, hkt, hsh, hso, hha, hgr, hfi, hse⟩ := id hml
  obtain ⟨hp7, hk, hf, hc, hn, hkp, hl, rk, rf, rc, rn, rkp, rl, ht0, ht1, hd0, hd1⟩ := id hb
  refine aEv_of okX8_takes caX8_takes (Nat.le_of_ble_eq_true rfl) ?_
  refine aGo okX8_takes 3 (f' := (3, [some (.inr 192), some (.inl (i : Int)), some (.inl (j : Int))], [.inl (j : Int), .inl (i : Int), .inr 192], _)) rfl ?_
  refine b_vV (as := [.inl (i : Int), .inl (j : Int)]) (rest := []) (k := 192) (.inl 1) okX8_takes rfl lkX8_134 caX8_areTwo (Nat.le_of_ble_eq_true rfl) rfl (Nat.le_of_ble_eq_true rfl) rfl rfl rfl (c_mTwo_t hp7 ⟨by omega, by omega⟩ ⟨by omega, by omega⟩ (by omega)) ?_
  refine b0_eq (tgt := 18) okX8_takes rfl rfl ⟨by omega, by omega⟩ (fun h6 => absurd h6 (by omega)) (fun h6 => ?_)
  refine aGo okX8_takes 3 (f' := (12, [some (.inr 192), some (.inl (i : Int)), some (.inl (j : Int))], [.inl (j : Int), .inl (i : Int), .inr 192], _)) rfl ?_
  refine b_vE (as := [.inl (i : Int), .inl (j : Int)]) (rest := []) (k := 192) okX8_takes rfl lkX8_229 caX8_takesFrom (Nat.le_of_ble_eq_true rfl) rfl (Nat.le_of_ble_eq_true rfl) rfl rfl rfl (c_takesFrom hb hsh (i := i) (j := j) (by omega) (by omega)) ?_
  rintro _ _ ⟨rfl, sh2, lsh2, rfl⟩
  refine aGo okX8_takes 1 (f' := (23, [some (.inr 192), some (.inl (i : Int)), some (.inl (j : Int))], [.inl (shG p k f c t i j - shr p k f c t j)], _)) rfl ?_
  exact b_ret (v := (some (.inl (shG p k f c t i j - shr p k f c t j)))) ⟨rfl, Or.inl rfl⟩ ⟨congrArg (fun q : Int => (some (.inl q) : Option aV)) (tk_eq (by omega) (by omega) (by omega) hi hj (Ne.symm hij)), mSt_of hp6 hd9 hax (hb) ⟨hle, hla, htd, hkt, lsh2, hso, hha, hgr, hfi, hse⟩ (him)⟩ rfl
set_option maxRecDepth 100000 in
set_option maxHeartbeats 4000000 in
theorem mk_survey {imt : Int} {tc : Nat} {k f c n kp l : List Int} {p : Nat} {t d : Int} {to re : List Int} {tl : Nat} {tp : List Int} {I : moT} {A0 A1 A2 A3 A4 A5 : List (Option aE)} {h : aH} {N : Nat} (hS : mSt imt tc k f c n kp l p t d to re tl tp I A0 A1 A2 A3 A4 A5 h) {x : Int} (hx : 0 ≤ x ∧ x ≤ 35) : aEv mX8_survey 7 0 0 N [.inr 192, .inl x] h (fun rv h2 => rv = some (.inl (t - shr (p + 1) (k.set p 0) (f.set p 0) (c.set p x) t p)) ∧ mSt imt tc k f c n kp l p t d to re tl tp I A0 A1 A2 A3 A4 A5 h2) := by
  obtain ⟨hp6, hd9, hax, hb, le, la, td, kt, sh, so, had, gr, fi, se, at_, sn, ik, cu, st, hml, him, rfl⟩ := hS
  obtain ⟨htp, rtp, htl9, hto, rto, htc, hre⟩ := id hax
  obtain ⟨hle, hla, htd, hkt, hsh, hso, hha, hgr, hfi, hse⟩ := id hml
  obtain ⟨hp7, hk, hf, hc, hn, hkp, hl, rk, rf, rc, rn, rkp, rl, ht0, ht1, hd0, hd1⟩ := id hb
  refine aEv_of okX8_survey caX8_survey (Nat.le_of_ble_eq_true rfl) ?_
  refine aGo okX8_survey 1 (f' := (1, [some (.inr 192), some (.inl x)], [.inl x], _)) rfl ?_
  refine b_vS (as := [.inl x]) (rest := []) (.inl 1) okX8_survey rfl lkX8_117 caX8_isCell (Nat.le_of_ble_eq_true rfl) rfl (Nat.le_of_ble_eq_true rfl) rfl (c_mCell_t ⟨by omega, by omega⟩) ?_
  refine b0_eq (tgt := 15) okX8_survey rfl rfl ⟨by omega, by omega⟩ (fun h4 => absurd h4 (by omega)) (fun h4 => ?_)
  refine aGo okX8_survey 2 (f' := (9, [some (.inr 192), some (.inl x)], [.inl x, .inr 192], _)) rfl ?_
  refine b_vE (as := [.inl x]) (rest := []) (k := 192) okX8_survey rfl lkX8_256 caX8_surveyIn (Nat.le_of_ble_eq_true rfl) rfl (Nat.le_of_ble_eq_true rfl) rfl rfl rfl (c_surveyIn hb hp6 hsh hkt (x := x) (by omega)) ?_
  rintro _ _ ⟨rfl, kt2, sh2, lkt2, lsh2, ekt2, rfl⟩
  refine aGo okX8_survey 1 (f' := (20, [some (.inr 192), some (.inl x)], [.inl (t - shr (p + 1) (k.set p 0) (f.set p 0) (c.set p x) t p)], _)) rfl ?_
  exact b_ret (v := (some (.inl (t - shr (p + 1) (k.set p 0) (f.set p 0) (c.set p x) t p)))) ⟨rfl, Or.inl rfl⟩ ⟨congrArg (fun q : Int => (some (.inl q) : Option aV)) (rfl), mSt_of hp6 hd9 hax (hb) ⟨hle, hla, htd, lkt2, lsh2, hso, hha, hgr, hfi, hse⟩ (mim_of him (fun j hj => ekt2 j (by omega)))⟩ rfl
set_option maxRecDepth 100000 in
set_option maxHeartbeats 4000000 in
theorem mk_row {imt : Int} {tc : Nat} {k f c n kp l : List Int} {p : Nat} {t d : Int} {to re : List Int} {tl : Nat} {tp : List Int} {I : moT} {A0 A1 A2 A3 A4 A5 : List (Option aE)} {h : aH} {N : Nat} (hS : mSt imt tc k f c n kp l p t d to re tl tp I A0 A1 A2 A3 A4 A5 h) {x : Int} (hx : 0 ≤ x ∧ x ≤ 99) (htc1 : tc < 12) : aEv mX8_row 1 0 0 N [.inr 192, .inl x] h (fun rv h2 => rv = some (.inl (((tc : Int) + 1))) ∧ mSt imt (tc + 1) k f c n kp l p t d (to.set tc x) re tl tp I A0 A1 A2 A3 A4 A5 h2) := by
  obtain ⟨hp6, hd9, hax, hb, le, la, td, kt, sh, so, had, gr, fi, se, at_, sn, ik, cu, st, hml, him, rfl⟩ := hS
  obtain ⟨htp, rtp, htl9, hto, rto, htc, hre⟩ := id hax
  obtain ⟨hle, hla, htd, hkt, hsh, hso, hha, hgr, hfi, hse⟩ := id hml
  obtain ⟨hp7, hk, hf, hc, hn, hkp, hl, rk, rf, rc, rn, rkp, rl, ht0, ht1, hd0, hd1⟩ := id hb
  refine aEv_of okX8_row caX8_row (Nat.le_of_ble_eq_true rfl) ?_
  refine aGo okX8_row 3 (f' := (4, [some (.inr 192), some (.inl x), none], [.inl 99, .inl 0, .inl x], _)) rfl ?_
  refine b_vS (as := [.inl x, .inl 0, .inl 99]) (rest := []) (.inl 0) okX8_row rfl lkX8_79 caX8_bound (Nat.le_of_ble_eq_true rfl) rfl (Nat.le_of_ble_eq_true rfl) rfl (c_bound_m ⟨by omega, by omega⟩ ⟨by omega, by omega⟩ ⟨by omega, by omega⟩ ⟨by omega, by omega⟩) ?_
  refine aGo okX8_row 2 (f' := (9, [some (.inr 192), some (.inl x), some (.inl 0)], [.inl 0], _)) rfl ?_
  refine b0_ne (tgt := 24) okX8_row rfl rfl ⟨by omega, by omega⟩ (fun h9 => absurd h9 (by omega)) (fun h9 => ?_)
  refine aGo okX8_row 3 (f' := (18, [some (.inr 192), some (.inl x), some (.inl 0)], [.inl 12, .inl (tc : Int)], _)) rfl ?_
  refine b_ne (tgt := 24) okX8_row rfl rfl ⟨by omega, by omega⟩ ⟨by omega, by omega⟩ (fun h18 => ?_) (fun h18 => ?_)
  · refine aGo okX8_row 1 (f' := (25, [some (.inr 192), some (.inl x), some (.inl 0)], [.inl 0], _)) rfl ?_
    refine b0_eq (tgt := 34) okX8_row rfl rfl ⟨by omega, by omega⟩ (fun h25 => ?_) (fun h25 => absurd h25 (by omega))
    refine aGo okX8_row 5 (f' := (43, [some (.inr 192), some (.inl x), some (.inl 0)], [.inl x, .inl (tc : Int), .inr 211], _)) rfl ?_
    refine b_ast (k := 211) (j := tc) (a := to) okX8_row rfl rfl (by omega) (by omega) (by omega) ?_
    refine b_cast (f' := (44, [some (.inr 192), some (.inl x), some (.inl 0)], [], [A0, A1, A2, A3, A4, A5, (modSeg re k f c n kp l tp le la td kt sh so had gr fi se (to.set tc x) (p : Int) t d (tl : Int) at_ sn imt ik cu 0 st (tc : Int))])) rfl ?_
    refine aGo okX8_row 8 (f' := (58, [some (.inr 192), some (.inl x), some (.inl 0)], [.inl ((tc : Int) + 1)], [A0, A1, A2, A3, A4, A5, (modSeg re k f c n kp l tp le la td kt sh so had gr fi se (to.set tc x) (p : Int) t d (tl : Int) at_ sn imt ik cu 0 st ((tc : Int) + 1))])) rfl ?_
    exact b_ret (v := (some (.inl ((tc : Int) + 1)))) ⟨rfl, Or.inl rfl⟩ ⟨congrArg (fun q : Int => (some (.inl q) : Option aV)) (rfl), mSt_of hp6 hd9 ⟨htp, rtp, htl9, by rw [List.length_set]; exact hto, rng_set rto (by omega) (by omega), by omega, hre⟩ (hb) hml (him)⟩ rfl
  · refine aGo okX8_row 3 (f' := (25, [some (.inr 192), some (.inl x), some (.inl (-6))], [.inl (-6)], _)) rfl ?_
    refine b0_eq (tgt := 34) okX8_row rfl rfl ⟨by omega, by omega⟩ (fun h25 => absurd h25 (by omega)) (fun h25 => ?_)
    refine aGo okX8_row 2 (f' := (30, [some (.inr 192), some (.inl x), some (.inl (-6))], [.inl (-6), .inr 192], _)) rfl ?_
    exfalso; omega
set_option maxRecDepth 100000 in
set_option maxHeartbeats 4000000 in
theorem mk_clear {imt : Int} {tc : Nat} {k f c n kp l : List Int} {p : Nat} {t d : Int} {to re : List Int} {tl : Nat} {tp : List Int} {I : moT} {A0 A1 A2 A3 A4 A5 : List (Option aE)} {h : aH} {N : Nat} (hS : mSt imt tc k f c n kp l p t d to re tl tp I A0 A1 A2 A3 A4 A5 h)  : aEv mX8_clear 0 0 0 N [.inr 192] h (fun rv h2 => rv = some (.inl ((tc : Int))) ∧ mSt imt 0 k f c n kp l p t d to re tl tp I A0 A1 A2 A3 A4 A5 h2) := by
  obtain ⟨hp6, hd9, hax, hb, le, la, td, kt, sh, so, had, gr, fi, se, at_, sn, ik, cu, st, hml, him, rfl⟩ := hS
  obtain ⟨htp, rtp, htl9, hto, rto, htc, hre⟩ := id hax
  obtain ⟨hle, hla, htd, hkt, hsh, hso, hha, hgr, hfi, hse⟩ := id hml
  obtain ⟨hp7, hk, hf, hc, hn, hkp, hl, rk, rf, rc, rn, rkp, rl, ht0, ht1, hd0, hd1⟩ := id hb
  refine aEv_of okX8_clear caX8_clear (Nat.le_of_ble_eq_true rfl) ?_
  refine aGo okX8_clear 7 (f' := (11, [some (.inr 192), some (.inl (tc : Int))], [.inl (tc : Int)], [A0, A1, A2, A3, A4, A5, (modSeg re k f c n kp l tp le la td kt sh so had gr fi se to (p : Int) t d (tl : Int) at_ sn imt ik cu 0 st 0)])) rfl ?_
  exact b_ret (v := (some (.inl (tc : Int)))) ⟨rfl, Or.inl rfl⟩ ⟨congrArg (fun q : Int => (some (.inl q) : Option aV)) (rfl), mSt_of hp6 hd9 ⟨htp, rtp, htl9, hto, rto, by omega, hre⟩ (hb) hml (him)⟩ rfl
set_option maxRecDepth 100000 in
set_option maxHeartbeats 4000000 in
theorem mk_image {imt : Int} {tc : Nat} {k f c n kp l : List Int} {p : Nat} {t d : Int} {to re : List Int} {tl : Nat} {tp : List Int} {I : moT} {A0 A1 A2 A3 A4 A5 : List (Option aE)} {h : aH} {N : Nat} (hS : mSt imt tc k f c n kp l p t d to re tl tp I A0 A1 A2 A3 A4 A5 h)  : aEv mX8_image 2 0 0 N [.inr 192] h (fun rv h2 => rv = some (.inl (d)) ∧ mSt 1 tc k f c n kp l p t d to re tl tp (k, f, c, n, kp, l, p, t, d) A0 A1 A2 A3 A4 A5 h2) := by
  obtain ⟨hp6, hd9, hax, hb, le, la, td, kt, sh, so, had, gr, fi, se, at_, sn, ik, cu, st, hml, him, rfl⟩ := hS
  obtain ⟨htp, rtp, htl9, hto, rto, htc, hre⟩ := id hax
  obtain ⟨hle, hla, htd, hkt, hsh, hso, hha, hgr, hfi, hse⟩ := id hml
  obtain ⟨hp7, hk, hf, hc, hn, hkp, hl, rk, rf, rc, rn, rkp, rl, ht0, ht1, hd0, hd1⟩ := id hb
  refine aEv_of okX8_image caX8_image (Nat.le_of_ble_eq_true rfl) ?_
  refine aGo okX8_image 6 (f' := (8, [some (.inr 192)], [.inl 1, .inl 0, .inr 192], [A0, A1, A2, A3, A4, A5, (modSeg re k f c n kp l tp le la td kt sh so had gr fi se to (p : Int) t d (tl : Int) at_ sn 1 ik cu 0 st (tc : Int))])) rfl ?_
  refine b_vE (as := [.inl 0, .inl 1]) (rest := []) (k := 192) okX8_image rfl lkX8_144 caX8_passesAll (Nat.le_of_ble_eq_true rfl) rfl (Nat.le_of_ble_eq_true rfl) rfl rfl rfl (c_all_0k hb hkt) ?_
  rintro _ _ ⟨rfl, kt2, lkt2, hh2, ekt2, rfl⟩
  refine aGo okX8_image 2 (f' := (15, [some (.inr 192)], [.inl d], _)) rfl ?_
  exact b_ret (v := (some (.inl d))) ⟨rfl, Or.inl rfl⟩ ⟨congrArg (fun q : Int => (some (.inl q) : Option aV)) (rfl), mSt_of hp6 hd9 hax (hb) ⟨hle, hla, htd, lkt2, hsh, hso, hha, hgr, hfi, hse⟩ (Or.inr ⟨rfl, hp6, hd9, hb, hh2⟩)⟩ rfl
set_option maxRecDepth 100000 in
set_option maxHeartbeats 4000000 in
theorem mk_on {imt : Int} {tc : Nat} {k f c n kp l : List Int} {p : Nat} {t d : Int} {to re : List Int} {tl : Nat} {tp : List Int} {I : moT} {A0 A1 A2 A3 A4 A5 : List (Option aE)} {h : aH} {N : Nat} (hS : mSt imt tc k f c n kp l p t d to re tl tp I A0 A1 A2 A3 A4 A5 h) (himt : imt ≠ 0) : aEv mX8_on 2 0 0 N [.inr 192] h (fun rv h2 => rv = some (.inl (I.2.2.2.2.2.2.2.2)) ∧ mSt imt tc I.1 I.2.1 I.2.2.1 I.2.2.2.1 I.2.2.2.2.1 I.2.2.2.2.2.1 I.2.2.2.2.2.2.1 I.2.2.2.2.2.2.2.1 I.2.2.2.2.2.2.2.2 to re tl tp I A0 A1 A2 A3 A4 A5 h2) := by
  obtain ⟨hp6, hd9, hax, hb, le, la, td, kt, sh, so, had, gr, fi, se, at_, sn, ik, cu, st, hml, him, rfl⟩ := hS
  obtain ⟨htp, rtp, htl9, hto, rto, htc, hre⟩ := id hax
  obtain ⟨hle, hla, htd, hkt, hsh, hso, hha, hgr, hfi, hse⟩ := id hml
  obtain ⟨hp7, hk, hf, hc, hn, hkp, hl, rk, rf, rc, rn, rkp, rl, ht0, ht1, hd0, hd1⟩ := id hb
  obtain ⟨hi1, hi6, hi9, hib, hih⟩ := him.resolve_left himt
  obtain ⟨g1, g2, g3, g4, g5, g6, g7, -⟩ := id hib
  refine aEv_of okX8_on caX8_on (Nat.le_of_ble_eq_true rfl) ?_
  refine aGo okX8_on 2 (f' := (4, [some (.inr 192)], [.inl imt], _)) rfl ?_
  refine b0_ne (tgt := 14) okX8_on rfl rfl ⟨by omega, by omega⟩ (fun h4 => ?_) (fun h4 => absurd h4 (himt))
  refine aGo okX8_on 3 (f' := (17, [some (.inr 192)], [.inl 0, .inl 0, .inr 192], _)) rfl ?_
  refine b_vE (as := [.inl 0, .inl 0]) (rest := []) (k := 192) okX8_on rfl lkX8_144 caX8_passesAll (Nat.le_of_ble_eq_true rfl) rfl (Nat.le_of_ble_eq_true rfl) rfl rfl rfl (c_all_0b hk hf hc hn hkp hl g2 g3 g4 g5 g6 g7 hkt hih) ?_
  rintro _ _ ⟨rfl, rfl⟩
  refine aGo okX8_on 2 (f' := (24, [some (.inr 192)], [.inl (I.2.2.2.2.2.2.2.2)], _)) rfl ?_
  exact b_ret (v := (some (.inl (I.2.2.2.2.2.2.2.2)))) ⟨rfl, Or.inl rfl⟩ ⟨congrArg (fun q : Int => (some (.inl q) : Option aV)) (rfl), mSt_of hi6 hi9 hax (hib) hml (Or.inr ⟨hi1, hi6, hi9, hib, hih⟩)⟩ rfl
set_option maxRecDepth 100000 in
set_option maxHeartbeats 4000000 in
theorem mk_enough {imt : Int} {tc : Nat} {k f c n kp l : List Int} {p : Nat} {t d : Int} {to re : List Int} {tl : Nat} {tp : List Int} {I : moT} {A0 A1 A2 A3 A4 A5 : List (Option aE)} {h : aH} {N : Nat} (hS : mSt imt tc k f c n kp l p t d to re tl tp I A0 A1 A2 A3 A4 A5 h)  : aEv mX8_enough 6 0 0 N [.inr 192] h (fun rv h2 => rv = some (.inl (bitsN p (fun q => decide (n.getD q 0 ≤ hasM p k f c l t q)))) ∧ mSt imt tc k f c n kp l p t d to re tl tp I A0 A1 A2 A3 A4 A5 h2) := by
  obtain ⟨hp6, hd9, hax, hb, le, la, td, kt, sh, so, had, gr, fi, se, at_, sn, ik, cu, st, hml, him, rfl⟩ := hS
  obtain ⟨htp, rtp, htl9, hto, rto, htc, hre⟩ := id hax
  obtain ⟨hle, hla, htd, hkt, hsh, hso, hha, hgr, hfi, hse⟩ := id hml
  obtain ⟨hp7, hk, hf, hc, hn, hkp, hl, rk, rf, rc, rn, rkp, rl, ht0, ht1, hd0, hd1⟩ := id hb
  refine aEv_of okX8_enough caX8_enough (Nat.le_of_ble_eq_true rfl) ?_
  refine aGo okX8_enough 1 (f' := (1, [some (.inr 192), none, none], [.inr 192], _)) rfl ?_
  refine b_vE (as := []) (rest := []) (k := 192) okX8_enough rfl lkX8_202 caX8_findShares (Nat.le_of_ble_eq_true rfl) rfl (Nat.le_of_ble_eq_true rfl) rfl rfl rfl (c_findShares (gH_of hb hsh)) ?_
  rintro _ _ ⟨rfl, sh2, lsh2, esh2, rfl⟩
  refine aGo okX8_enough 4 (f' := (8, [some (.inr 192), some (.inl 0), some (.inl 0)], [], _)) rfl ?_
  have lp : ∀ (j v : Nat), v + j = p → AW mX8_enough 6 0 0 N none (fun rv h2 => rv = some (.inl (bitsN p (fun q => decide (n.getD q 0 ≤ hasM p k f c l t q)))) ∧ mSt imt tc k f c n kp l p t d to re tl tp I A0 A1 A2 A3 A4 A5 h2) (8, [some (.inr 192), some (.inl (bitsN v (fun q => decide (n.getD q 0 ≤ hasM p k f c l t q)))), some (.inl (v : Int))], [], [A0, A1, A2, A3, A4, A5, (modSeg re k f c n kp l tp le la td kt sh2 so had gr fi se to (p : Int) t d (tl : Int) at_ sn imt ik cu 0 st (tc : Int))]) := by
    intro j
    induction j with
    | zero =>
      intro v  hij 
      obtain rfl : p = v := by omega
      refine aGo okX8_enough 3 (f' := (13, [some (.inr 192), some (.inl (bitsN p (fun q => decide (n.getD q 0 ≤ hasM p k f c l t q)))), some (.inl (p : Int))], [.inl (p : Int), .inl (p : Int)], _)) rfl ?_
      refine b_ge (tgt := 46) okX8_enough rfl rfl ⟨by omega, by omega⟩ ⟨by omega, by omega⟩ (fun h13 => ?_) (fun h13 => absurd h13 (by omega))
      refine aGo okX8_enough 1 (f' := (47, [some (.inr 192), some (.inl (bitsN p (fun q => decide (n.getD q 0 ≤ hasM p k f c l t q)))), some (.inl (p : Int))], [.inl (bitsN p (fun q => decide (n.getD q 0 ≤ hasM p k f c l t q)))], _)) rfl ?_
      exact b_ret (v := (some (.inl (bitsN p (fun q => decide (n.getD q 0 ≤ hasM p k f c l t q)))))) ⟨rfl, Or.inl rfl⟩ ⟨congrArg (fun q : Int => (some (.inl q) : Option aV)) (rfl), mSt_of hp6 hd9 hax (hb) ⟨hle, hla, htd, hkt, lsh2, hso, hha, hgr, hfi, hse⟩ (him)⟩ rfl
    | succ j ih =>
      intro v  hij 
      have e1 := esh2 v (by omega)
      have e2 := shr_le (k := k) hp7 rf rc ⟨ht0, ht1⟩ (q := v) (by omega)
      have e3 := net_le hp7 rl v
      have e4 := rn v
      have e5 : hasM p k f c l t v = sh2.getD v 0 - net p l v := by rw [e1]; rfl
      have e6 := bits_le (p := v) (by omega) (fun q => decide (n.getD q 0 ≤ hasM p k f c l t q))
      refine aGo okX8_enough 3 (f' := (13, [some (.inr 192), some (.inl (bitsN v (fun q => decide (n.getD q 0 ≤ hasM p k f c l t q)))), some (.inl (v : Int))], [.inl (p : Int), .inl (v : Int)], _)) rfl ?_
      refine b_ge (tgt := 46) okX8_enough rfl rfl ⟨by omega, by omega⟩ ⟨by omega, by omega⟩ (fun h13 => absurd h13 (by omega)) (fun h13 => ?_)
      refine aGo okX8_enough 3 (f' := (19, [some (.inr 192), some (.inl (bitsN v (fun q => decide (n.getD q 0 ≤ hasM p k f c l t q)))), some (.inl (v : Int))], [.inl (v : Int), .inr 192, .inl (bitsN v (fun q => decide (n.getD q 0 ≤ hasM p k f c l t q)))], _)) rfl ?_
      refine b_vV (as := [.inl (v : Int)]) (rest := [.inl (bitsN v (fun q => decide (n.getD q 0 ≤ hasM p k f c l t q)))]) (k := 192) (.inl ((sh2.getD v 0) - (net p l v))) okX8_enough rfl lkX8_208 caX8_hasNow (Nat.le_of_ble_eq_true rfl) rfl (Nat.le_of_ble_eq_true rfl) rfl rfl rfl (c_hasNow0 hp7 hl lsh2 (i := v) (by omega)) ?_
      refine aGo okX8_enough 3 (f' := (27, [some (.inr 192), some (.inl (bitsN v (fun q => decide (n.getD q 0 ≤ hasM p k f c l t q)))), some (.inl (v : Int))], [.inl (v : Int), .inr 197, .inl ((sh2.getD v 0) - (net p l v)), .inl (bitsN v (fun q => decide (n.getD q 0 ≤ hasM p k f c l t q)))], _)) rfl ?_
      refine b_ald (k := 197) (j := v) (a := n) okX8_enough rfl rfl (by omega) (by omega) (by omega) ?_
      refine b_lt (tgt := 37) okX8_enough rfl rfl ⟨by omega, by omega⟩ ⟨by omega, by omega⟩ (fun h28 => ?_) (fun h28 => ?_)
      · refine aGo okX8_enough 5 (f' := (8, [some (.inr 192), some (.inl (aOr (bitsN v (fun q => decide (n.getD q 0 ≤ hasM p k f c l t q))) 0)), some (.inl ((v : Int) + 1))], [], _)) rfl ?_
        refine b_cast (f' := (8, [some (.inr 192), some (.inl (bitsN (v + 1) (fun q => decide (n.getD q 0 ≤ hasM p k f c l t q)))), some (.inl ((v : Int) + 1))], [], [A0, A1, A2, A3, A4, A5, (modSeg re k f c n kp l tp le la td kt sh2 so had gr fi se to (p : Int) t d (tl : Int) at_ sn imt ik cu 0 st (tc : Int))])) (congrArg (fun q : Int => ((8, [some (.inr 192), some (.inl q), some (.inl ((v : Int) + 1))], [], [A0, A1, A2, A3, A4, A5, (modSeg re k f c n kp l tp le la td kt sh2 so had gr fi se to (p : Int) t d (tl : Int) at_ sn imt ik cu 0 st (tc : Int))]) : aF)) (((aOr_0 ⟨by omega, by omega⟩).trans (bitsN_f (P := (fun q => decide (n.getD q 0 ≤ hasM p k f c l t q))) (decide_eq_false (by omega))).symm))) ?_
        exact ih (v + 1) (by omega)
      · refine aGo okX8_enough 8 (f' := (8, [some (.inr 192), some (.inl (aOr (bitsN v (fun q => decide (n.getD q 0 ≤ hasM p k f c l t q))) (aShl 1 (v : Int)))), some (.inl ((v : Int) + 1))], [], _)) rfl ?_
        refine b_cast (f' := (8, [some (.inr 192), some (.inl (bitsN (v + 1) (fun q => decide (n.getD q 0 ≤ hasM p k f c l t q)))), some (.inl ((v : Int) + 1))], [], [A0, A1, A2, A3, A4, A5, (modSeg re k f c n kp l tp le la td kt sh2 so had gr fi se to (p : Int) t d (tl : Int) at_ sn imt ik cu 0 st (tc : Int))])) (congrArg (fun q : Int => ((8, [some (.inr 192), some (.inl q), some (.inl ((v : Int) + 1))], [], [A0, A1, A2, A3, A4, A5, (modSeg re k f c n kp l tp le la td kt sh2 so had gr fi se to (p : Int) t d (tl : Int) at_ sn imt ik cu 0 st (tc : Int))]) : aF)) ((bitsN_t (P := (fun q => decide (n.getD q 0 ≤ hasM p k f c l t q))) (decide_eq_true (by omega))).symm)) ?_
        exact ih (v + 1) (by omega)
  exact lp p 0 (by omega)
set_option maxRecDepth 100000 in
set_option maxHeartbeats 4000000 in
theorem mk_count {imt : Int} {tc : Nat} {k f c n kp l : List Int} {p : Nat} {t d : Int} {to re : List Int} {tl : Nat} {tp : List Int} {I : moT} {A0 A1 A2 A3 A4 A5 : List (Option aE)} {h : aH} {N : Nat} (hS : mSt imt tc k f c n kp l p t d to re tl tp I A0 A1 A2 A3 A4 A5 h) {x : Int} (hx : aI x) : aEv mX8_count 5 0 0 N [.inr 192, .inl x] h (fun rv h2 => rv = some (.inl (if 11 ≤ x ∧ x ≤ 16 then re.getD (x - 10).toNat 0 else if ¬ (0 ≤ x ∧ x ≤ 7) then -9 else ([(p : Int), d, t, wAll p k f c, sumN p (fun q => n.getD q 0), sumN p (fun q => kp.getD q 0), (tc : Int), (tl : Int)].getD x.toNat 0))) ∧ mSt imt tc k f c n kp l p t d to re tl tp I A0 A1 A2 A3 A4 A5 h2) := by
  obtain ⟨hp6, hd9, hax, hb, le, la, td, kt, sh, so, had, gr, fi, se, at_, sn, ik, cu, st, hml, him, rfl⟩ := hS
  obtain ⟨htp, rtp, htl9, hto, rto, htc, hre⟩ := id hax
  obtain ⟨hle, hla, htd, hkt, hsh, hso, hha, hgr, hfi, hse⟩ := id hml
  obtain ⟨hp7, hk, hf, hc, hn, hkp, hl, rk, rf, rc, rn, rkp, rl, ht0, ht1, hd0, hd1⟩ := id hb
  obtain ⟨hx1, hx2⟩ := hx
  refine aEv_of okX8_count caX8_count (Nat.le_of_ble_eq_true rfl) ?_
  refine aGo okX8_count 3 (f' := (5, [some (.inr 192), some (.inl x), none, none], [.inl 16, .inl 11, .inl x], _)) rfl ?_
  by_cases hc5 : 11 ≤ x ∧ x ≤ 16
  · refine b_vS (as := [.inl x, .inl 11, .inl 16]) (rest := []) (.inl 1) okX8_count rfl lkX8_97 caX8_isIn (Nat.le_of_ble_eq_true rfl) rfl (Nat.le_of_ble_eq_true rfl) rfl (c_isIn_t ⟨by omega, by omega⟩ ⟨by omega, by omega⟩ ⟨by omega, by omega⟩ hc5) ?_
    refine b0_eq (tgt := 21) okX8_count rfl rfl ⟨by omega, by omega⟩ (fun h8 => absurd h8 (by omega)) (fun h8 => ?_)
    refine aGo okX8_count 5 (f' := (19, [some (.inr 192), some (.inl x), none, none], [.inl (x - 10), .inr 193], _)) rfl ?_
    obtain ⟨j, hj⟩ : ∃ j : Nat, x - 10 = (j : Int) := ⟨(x - 10).toNat, by omega⟩
    refine b_cast (f' := (19, [some (.inr 192), some (.inl x), none, none], [.inl (j : Int), .inr 193], [A0, A1, A2, A3, A4, A5, (modSeg re k f c n kp l tp le la td kt sh so had gr fi se to (p : Int) t d (tl : Int) at_ sn imt ik cu 0 st (tc : Int))])) (by rw [hj]) ?_
    refine b_ald (k := 193) (j := j) (a := re) okX8_count rfl rfl (by omega) (by omega) (by omega) ?_
    exact b_ret (v := (some (.inl (re.getD j 0)))) ⟨rfl, Or.inl rfl⟩ ⟨congrArg (fun q : Int => (some (.inl q) : Option aV)) (by rw [if_pos (by omega), hj]; rfl), mSt_of hp6 hd9 hax (hb) hml (him)⟩ rfl
  · refine b_vS (as := [.inl x, .inl 11, .inl 16]) (rest := []) (.inl 0) okX8_count rfl lkX8_97 caX8_isIn (Nat.le_of_ble_eq_true rfl) rfl (Nat.le_of_ble_eq_true rfl) rfl (c_isIn_f ⟨by omega, by omega⟩ ⟨by omega, by omega⟩ ⟨by omega, by omega⟩ hc5) ?_
    refine b0_eq (tgt := 21) okX8_count rfl rfl ⟨by omega, by omega⟩ (fun h8 => ?_) (fun h8 => absurd h8 (by omega))
    refine aGo okX8_count 3 (f' := (24, [some (.inr 192), some (.inl x), some (.inl 0), none], [.inl x], _)) rfl ?_
    by_cases hs24 : 0 ≤ x ∧ x ≤ 7
    · have hsx := (show x = 0 ∨ x = 1 ∨ x = 2 ∨ x = 3 ∨ x = 4 ∨ x = 5 ∨ x = 6 ∨ x = 7 from by omega)
      rcases hsx with hsw | hsw | hsw | hsw | hsw | hsw | hsw | hsw
      · refine b_cast (f' := (24, [some (.inr 192), some (.inl x), some (.inl 0), none], [.inl 0], [A0, A1, A2, A3, A4, A5, (modSeg re k f c n kp l tp le la td kt sh so had gr fi se to (p : Int) t d (tl : Int) at_ sn imt ik cu 0 st (tc : Int))])) (congrArg (fun zz : Int => ((24, [some (.inr 192), some (.inl x), some (.inl 0), none], .inl zz :: [], [A0, A1, A2, A3, A4, A5, (modSeg re k f c n kp l tp le la td kt sh so had gr fi se to (p : Int) t d (tl : Int) at_ sn imt ik cu 0 st (tc : Int))]) : aF)) hsw) ?_
        refine b_swIn (tgt := 72) okX8_count rfl ⟨by decide, by decide⟩ (by decide) (by decide) rfl rfl ?_
        refine aGo okX8_count 2 (f' := (76, [some (.inr 192), some (.inl x), some (.inl 0), none], [.inl (p : Int)], _)) rfl ?_
        exact b_ret (v := (some (.inl (p : Int)))) ⟨rfl, Or.inl rfl⟩ ⟨congrArg (fun q : Int => (some (.inl q) : Option aV)) (by rw [if_neg (by omega), if_neg (by omega), hsw]; rfl), mSt_of hp6 hd9 hax (hb) hml (him)⟩ rfl
      · refine b_cast (f' := (24, [some (.inr 192), some (.inl x), some (.inl 0), none], [.inl 1], [A0, A1, A2, A3, A4, A5, (modSeg re k f c n kp l tp le la td kt sh so had gr fi se to (p : Int) t d (tl : Int) at_ sn imt ik cu 0 st (tc : Int))])) (congrArg (fun zz : Int => ((24, [some (.inr 192), some (.inl x), some (.inl 0), none], .inl zz :: [], [A0, A1, A2, A3, A4, A5, (modSeg re k f c n kp l tp le la td kt sh so had gr fi se to (p : Int) t d (tl : Int) at_ sn imt ik cu 0 st (tc : Int))]) : aF)) hsw) ?_
        refine b_swIn (tgt := 77) okX8_count rfl ⟨by decide, by decide⟩ (by decide) (by decide) rfl rfl ?_
        refine aGo okX8_count 2 (f' := (81, [some (.inr 192), some (.inl x), some (.inl 0), none], [.inl d], _)) rfl ?_
        exact b_ret (v := (some (.inl d))) ⟨rfl, Or.inl rfl⟩ ⟨congrArg (fun q : Int => (some (.inl q) : Option aV)) (by rw [if_neg (by omega), if_neg (by omega), hsw]; rfl), mSt_of hp6 hd9 hax (hb) hml (him)⟩ rfl
      · refine b_cast (f' := (24, [some (.inr 192), some (.inl x), some (.inl 0), none], [.inl 2], [A0, A1, A2, A3, A4, A5, (modSeg re k f c n kp l tp le la td kt sh so had gr fi se to (p : Int) t d (tl : Int) at_ sn imt ik cu 0 st (tc : Int))])) (congrArg (fun zz : Int => ((24, [some (.inr 192), some (.inl x), some (.inl 0), none], .inl zz :: [], [A0, A1, A2, A3, A4, A5, (modSeg re k f c n kp l tp le la td kt sh so had gr fi se to (p : Int) t d (tl : Int) at_ sn imt ik cu 0 st (tc : Int))]) : aF)) hsw) ?_
        refine b_swIn (tgt := 82) okX8_count rfl ⟨by decide, by decide⟩ (by decide) (by decide) rfl rfl ?_
        refine aGo okX8_count 2 (f' := (86, [some (.inr 192), some (.inl x), some (.inl 0), none], [.inl t], _)) rfl ?_
        exact b_ret (v := (some (.inl t))) ⟨rfl, Or.inl rfl⟩ ⟨congrArg (fun q : Int => (some (.inl q) : Option aV)) (by rw [if_neg (by omega), if_neg (by omega), hsw]; rfl), mSt_of hp6 hd9 hax (hb) hml (him)⟩ rfl
      · refine b_cast (f' := (24, [some (.inr 192), some (.inl x), some (.inl 0), none], [.inl 3], [A0, A1, A2, A3, A4, A5, (modSeg re k f c n kp l tp le la td kt sh so had gr fi se to (p : Int) t d (tl : Int) at_ sn imt ik cu 0 st (tc : Int))])) (congrArg (fun zz : Int => ((24, [some (.inr 192), some (.inl x), some (.inl 0), none], .inl zz :: [], [A0, A1, A2, A3, A4, A5, (modSeg re k f c n kp l tp le la td kt sh so had gr fi se to (p : Int) t d (tl : Int) at_ sn imt ik cu 0 st (tc : Int))]) : aF)) hsw) ?_
        refine b_swIn (tgt := 87) okX8_count rfl ⟨by decide, by decide⟩ (by decide) (by decide) rfl rfl ?_
        refine aGo okX8_count 1 (f' := (88, [some (.inr 192), some (.inl x), some (.inl 0), none], [.inr 192], _)) rfl ?_
        refine b_vV (as := []) (rest := []) (k := 192) (.inl (wAll p k f c)) okX8_count rfl lkX8_196 caX8_allWeights (Nat.le_of_ble_eq_true rfl) rfl (Nat.le_of_ble_eq_true rfl) rfl rfl rfl (c_mAllW0 hp7 hk hf hc rk rf rc) ?_
        exact b_ret (v := (some (.inl (wAll p k f c)))) ⟨rfl, Or.inl rfl⟩ ⟨congrArg (fun q : Int => (some (.inl q) : Option aV)) (by rw [if_neg (by omega), if_neg (by omega), hsw]; rfl), mSt_of hp6 hd9 hax (hb) hml (him)⟩ rfl
      · refine b_cast (f' := (24, [some (.inr 192), some (.inl x), some (.inl 0), none], [.inl 4], [A0, A1, A2, A3, A4, A5, (modSeg re k f c n kp l tp le la td kt sh so had gr fi se to (p : Int) t d (tl : Int) at_ sn imt ik cu 0 st (tc : Int))])) (congrArg (fun zz : Int => ((24, [some (.inr 192), some (.inl x), some (.inl 0), none], .inl zz :: [], [A0, A1, A2, A3, A4, A5, (modSeg re k f c n kp l tp le la td kt sh so had gr fi se to (p : Int) t d (tl : Int) at_ sn imt ik cu 0 st (tc : Int))]) : aF)) hsw) ?_
        refine b_swIn (tgt := 92) okX8_count rfl ⟨by decide, by decide⟩ (by decide) (by decide) rfl rfl ?_
        refine aGo okX8_count 2 (f' := (94, [some (.inr 192), some (.inl x), some (.inl 0), some (.inl 0)], [], _)) rfl ?_
        have lp : ∀ (j v : Nat), v + j = p → AW mX8_count 5 0 0 N none (fun rv h2 => rv = some (.inl (if 11 ≤ x ∧ x ≤ 16 then re.getD (x - 10).toNat 0 else if ¬ (0 ≤ x ∧ x ≤ 7) then -9 else ([(p : Int), d, t, wAll p k f c, sumN p (fun q => n.getD q 0), sumN p (fun q => kp.getD q 0), (tc : Int), (tl : Int)].getD x.toNat 0))) ∧ mSt imt tc k f c n kp l p t d to re tl tp I A0 A1 A2 A3 A4 A5 h2) (94, [some (.inr 192), some (.inl x), some (.inl (sumN v (fun q => n.getD q 0))), some (.inl (v : Int))], [], [A0, A1, A2, A3, A4, A5, (modSeg re k f c n kp l tp le la td kt sh so had gr fi se to (p : Int) t d (tl : Int) at_ sn imt ik cu 0 st (tc : Int))]) := by
          intro j
          induction j with
          | zero =>
            intro v  hij 
            obtain rfl : p = v := by omega
            refine aGo okX8_count 3 (f' := (99, [some (.inr 192), some (.inl x), some (.inl (sumN p (fun q => n.getD q 0))), some (.inl (p : Int))], [.inl (p : Int), .inl (p : Int)], _)) rfl ?_
            refine b_ge (tgt := 117) okX8_count rfl rfl ⟨by omega, by omega⟩ ⟨by omega, by omega⟩ (fun h99 => ?_) (fun h99 => absurd h99 (by omega))
            refine aGo okX8_count 1 (f' := (118, [some (.inr 192), some (.inl x), some (.inl (sumN p (fun q => n.getD q 0))), some (.inl (p : Int))], [.inl (sumN p (fun q => n.getD q 0))], _)) rfl ?_
            exact b_ret (v := (some (.inl (sumN p (fun q => n.getD q 0))))) ⟨rfl, Or.inl rfl⟩ ⟨congrArg (fun q : Int => (some (.inl q) : Option aV)) (by rw [if_neg (by omega), if_neg (by omega), hsw]; rfl), mSt_of hp6 hd9 hax (hb) hml (him)⟩ rfl
          | succ j ih =>
            intro v  hij 
            refine aGo okX8_count 3 (f' := (99, [some (.inr 192), some (.inl x), some (.inl (sumN v (fun q => n.getD q 0))), some (.inl (v : Int))], [.inl (p : Int), .inl (v : Int)], _)) rfl ?_
            refine b_ge (tgt := 117) okX8_count rfl rfl ⟨by omega, by omega⟩ ⟨by omega, by omega⟩ (fun h99 => absurd h99 (by omega)) (fun h99 => ?_)
            refine aGo okX8_count 4 (f' := (108, [some (.inr 192), some (.inl x), some (.inl (sumN v (fun q => n.getD q 0))), some (.inl (v : Int))], [.inl (v : Int), .inr 197, .inl (sumN v (fun q => n.getD q 0))], _)) rfl ?_
            refine b_ald (k := 197) (j := v) (a := n) okX8_count rfl rfl (by omega) (by omega) (by omega) ?_
            refine aGo okX8_count 4 (f' := (94, [some (.inr 192), some (.inl x), some (.inl ((sumN v (fun q => n.getD q 0)) + (n.getD v 0))), some (.inl ((v : Int) + 1))], [], _)) rfl ?_
            exact ih (v + 1) (by omega)
        exact lp p 0 (by omega)
      · refine b_cast (f' := (24, [some (.inr 192), some (.inl x), some (.inl 0), none], [.inl 5], [A0, A1, A2, A3, A4, A5, (modSeg re k f c n kp l tp le la td kt sh so had gr fi se to (p : Int) t d (tl : Int) at_ sn imt ik cu 0 st (tc : Int))])) (congrArg (fun zz : Int => ((24, [some (.inr 192), some (.inl x), some (.inl 0), none], .inl zz :: [], [A0, A1, A2, A3, A4, A5, (modSeg re k f c n kp l tp le la td kt sh so had gr fi se to (p : Int) t d (tl : Int) at_ sn imt ik cu 0 st (tc : Int))]) : aF)) hsw) ?_
        refine b_swIn (tgt := 119) okX8_count rfl ⟨by decide, by decide⟩ (by decide) (by decide) rfl rfl ?_
        refine aGo okX8_count 2 (f' := (121, [some (.inr 192), some (.inl x), some (.inl 0), some (.inl 0)], [], _)) rfl ?_
        have lp : ∀ (j v : Nat), v + j = p → AW mX8_count 5 0 0 N none (fun rv h2 => rv = some (.inl (if 11 ≤ x ∧ x ≤ 16 then re.getD (x - 10).toNat 0 else if ¬ (0 ≤ x ∧ x ≤ 7) then -9 else ([(p : Int), d, t, wAll p k f c, sumN p (fun q => n.getD q 0), sumN p (fun q => kp.getD q 0), (tc : Int), (tl : Int)].getD x.toNat 0))) ∧ mSt imt tc k f c n kp l p t d to re tl tp I A0 A1 A2 A3 A4 A5 h2) (121, [some (.inr 192), some (.inl x), some (.inl (sumN v (fun q => kp.getD q 0))), some (.inl (v : Int))], [], [A0, A1, A2, A3, A4, A5, (modSeg re k f c n kp l tp le la td kt sh so had gr fi se to (p : Int) t d (tl : Int) at_ sn imt ik cu 0 st (tc : Int))]) := by
          intro j
          induction j with
          | zero =>
            intro v  hij 
            obtain rfl : p = v := by omega
            refine aGo okX8_count 3 (f' := (126, [some (.inr 192), some (.inl x), some (.inl (sumN p (fun q => kp.getD q 0))), some (.inl (p : Int))], [.inl (p : Int), .inl (p : Int)], _)) rfl ?_
            refine b_ge (tgt := 144) okX8_count rfl rfl ⟨by omega, by omega⟩ ⟨by omega, by omega⟩ (fun h126 => ?_) (fun h126 => absurd h126 (by omega))
            refine aGo okX8_count 1 (f' := (145, [some (.inr 192), some (.inl x), some (.inl (sumN p (fun q => kp.getD q 0))), some (.inl (p : Int))], [.inl (sumN p (fun q => kp.getD q 0))], _)) rfl ?_
            exact b_ret (v := (some (.inl (sumN p (fun q => kp.getD q 0))))) ⟨rfl, Or.inl rfl⟩ ⟨congrArg (fun q : Int => (some (.inl q) : Option aV)) (by rw [if_neg (by omega), if_neg (by omega), hsw]; rfl), mSt_of hp6 hd9 hax (hb) hml (him)⟩ rfl
          | succ j ih =>
            intro v  hij 
            refine aGo okX8_count 3 (f' := (126, [some (.inr 192), some (.inl x), some (.inl (sumN v (fun q => kp.getD q 0))), some (.inl (v : Int))], [.inl (p : Int), .inl (v : Int)], _)) rfl ?_
            refine b_ge (tgt := 144) okX8_count rfl rfl ⟨by omega, by omega⟩ ⟨by omega, by omega⟩ (fun h126 => absurd h126 (by omega)) (fun h126 => ?_)
            refine aGo okX8_count 4 (f' := (135, [some (.inr 192), some (.inl x), some (.inl (sumN v (fun q => kp.getD q 0))), some (.inl (v : Int))], [.inl (v : Int), .inr 198, .inl (sumN v (fun q => kp.getD q 0))], _)) rfl ?_
            refine b_ald (k := 198) (j := v) (a := kp) okX8_count rfl rfl (by omega) (by omega) (by omega) ?_
            refine aGo okX8_count 4 (f' := (121, [some (.inr 192), some (.inl x), some (.inl ((sumN v (fun q => kp.getD q 0)) + (kp.getD v 0))), some (.inl ((v : Int) + 1))], [], _)) rfl ?_
            exact ih (v + 1) (by omega)
        exact lp p 0 (by omega)
      · refine b_cast (f' := (24, [some (.inr 192), some (.inl x), some (.inl 0), none], [.inl 6], [A0, A1, A2, A3, A4, A5, (modSeg re k f c n kp l tp le la td kt sh so had gr fi se to (p : Int) t d (tl : Int) at_ sn imt ik cu 0 st (tc : Int))])) (congrArg (fun zz : Int => ((24, [some (.inr 192), some (.inl x), some (.inl 0), none], .inl zz :: [], [A0, A1, A2, A3, A4, A5, (modSeg re k f c n kp l tp le la td kt sh so had gr fi se to (p : Int) t d (tl : Int) at_ sn imt ik cu 0 st (tc : Int))]) : aF)) hsw) ?_
        refine b_swIn (tgt := 146) okX8_count rfl ⟨by decide, by decide⟩ (by decide) (by decide) rfl rfl ?_
        refine aGo okX8_count 2 (f' := (150, [some (.inr 192), some (.inl x), some (.inl 0), none], [.inl (tc : Int)], _)) rfl ?_
        exact b_ret (v := (some (.inl (tc : Int)))) ⟨rfl, Or.inl rfl⟩ ⟨congrArg (fun q : Int => (some (.inl q) : Option aV)) (by rw [if_neg (by omega), if_neg (by omega), hsw]; rfl), mSt_of hp6 hd9 hax (hb) hml (him)⟩ rfl
      · refine b_cast (f' := (24, [some (.inr 192), some (.inl x), some (.inl 0), none], [.inl 7], [A0, A1, A2, A3, A4, A5, (modSeg re k f c n kp l tp le la td kt sh so had gr fi se to (p : Int) t d (tl : Int) at_ sn imt ik cu 0 st (tc : Int))])) (congrArg (fun zz : Int => ((24, [some (.inr 192), some (.inl x), some (.inl 0), none], .inl zz :: [], [A0, A1, A2, A3, A4, A5, (modSeg re k f c n kp l tp le la td kt sh so had gr fi se to (p : Int) t d (tl : Int) at_ sn imt ik cu 0 st (tc : Int))]) : aF)) hsw) ?_
        refine b_swIn (tgt := 151) okX8_count rfl ⟨by decide, by decide⟩ (by decide) (by decide) rfl rfl ?_
        refine aGo okX8_count 2 (f' := (155, [some (.inr 192), some (.inl x), some (.inl 0), none], [.inl (tl : Int)], _)) rfl ?_
        exact b_ret (v := (some (.inl (tl : Int)))) ⟨rfl, Or.inl rfl⟩ ⟨congrArg (fun q : Int => (some (.inl q) : Option aV)) (by rw [if_neg (by omega), if_neg (by omega), hsw]; rfl), mSt_of hp6 hd9 hax (hb) hml (him)⟩ rfl
    · refine b_swOut (tgt := 156) okX8_count rfl ⟨by omega, by omega⟩ (by omega) rfl ?_
      refine aGo okX8_count 1 (f' := (158, [some (.inr 192), some (.inl x), some (.inl 0), none], [.inl (-9)], _)) rfl ?_
      exact b_ret (v := (some (.inl (-9)))) ⟨rfl, Or.inl rfl⟩ ⟨congrArg (fun q : Int => (some (.inl q) : Option aV)) (by rw [if_neg (by omega), if_pos (by omega)]), mSt_of hp6 hd9 hax (hb) hml (him)⟩ rfl
set_option maxRecDepth 100000 in
set_option maxHeartbeats 4000000 in
theorem mk_newcomer {imt : Int} {tc : Nat} {k f c n kp l : List Int} {p : Nat} {t d : Int} {to re : List Int} {tl : Nat} {tp : List Int} {I : moT} {A0 A1 A2 A3 A4 A5 : List (Option aE)} {h : aH} {N : Nat} (hS : mSt imt tc k f c n kp l p t d to re tl tp I A0 A1 A2 A3 A4 A5 h) {x y : Int} (hx : 0 ≤ x ∧ x ≤ 35) (hy : 0 ≤ y ∧ y ≤ 1) : aEv mX8_newcomer 6 0 0 N [.inr 192, .inl x, .inl y] h (fun rv h2 => rv = some (.inl (if p = 6 then -9 else if y = 0 then t - (t - shr (p + 1) (k.set p 0) (f.set p 0) (c.set p x) t p) else (if 0 < p then t else 0) - (t - shr (p + 1) (k.set p 0) (f.set p 0) (c.set p x) t p))) ∧ mSt imt tc k f c n kp l p t d to re tl tp I A0 A1 A2 A3 A4 A5 h2) := by
  obtain ⟨hp6, hd9, hax, hb, le, la, td, kt, sh, so, had, gr, fi, se, at_, sn, ik, cu, st, hml, him, rfl⟩ := hS
  obtain ⟨htp, rtp, htl9, hto, rto, htc, hre⟩ := id hax
  obtain ⟨hle, hla, htd, hkt, hsh, hso, hha, hgr, hfi, hse⟩ := id hml
  obtain ⟨hp7, hk, hf, hc, hn, hkp, hl, rk, rf, rc, rn, rkp, rl, ht0, ht1, hd0, hd1⟩ := id hb
  refine aEv_of okX8_newcomer caX8_newcomer (Nat.le_of_ble_eq_true rfl) ?_
  refine aGo okX8_newcomer 1 (f' := (1, [some (.inr 192), some (.inl x), some (.inl y), none, none, none, none], [.inl x], _)) rfl ?_
  refine b_vS (as := [.inl x]) (rest := []) (.inl 1) okX8_newcomer rfl lkX8_117 caX8_isCell (Nat.le_of_ble_eq_true rfl) rfl (Nat.le_of_ble_eq_true rfl) rfl (c_mCell_t ⟨by omega, by omega⟩) ?_
  refine b0_ne (tgt := 11) okX8_newcomer rfl rfl ⟨by omega, by omega⟩ (fun h4 => ?_) (fun h4 => absurd h4 (by omega))
  refine aGo okX8_newcomer 3 (f' := (14, [some (.inr 192), some (.inl x), some (.inl y), none, none, none, none], [.inl 1, .inl 0, .inl y], _)) rfl ?_
  refine b_vS (as := [.inl y, .inl 0, .inl 1]) (rest := []) (.inl 1) okX8_newcomer rfl lkX8_97 caX8_isIn (Nat.le_of_ble_eq_true rfl) rfl (Nat.le_of_ble_eq_true rfl) rfl (c_isIn_t ⟨by omega, by omega⟩ ⟨by omega, by omega⟩ ⟨by omega, by omega⟩ ⟨by omega, by omega⟩) ?_
  refine b0_ne (tgt := 25) okX8_newcomer rfl rfl ⟨by omega, by omega⟩ (fun h17 => ?_) (fun h17 => absurd h17 (by omega))
  refine aGo okX8_newcomer 3 (f' := (28, [some (.inr 192), some (.inl x), some (.inl y), some (.inl 0), none, none, none], [.inl 0], _)) rfl ?_
  refine b0_eq (tgt := 37) okX8_newcomer rfl rfl ⟨by omega, by omega⟩ (fun h28 => ?_) (fun h28 => absurd h28 (by omega))
  refine aGo okX8_newcomer 3 (f' := (43, [some (.inr 192), some (.inl x), some (.inl y), some (.inl 0), none, none, none], [.inl 6, .inl (p : Int)], _)) rfl ?_
  refine b_ne (tgt := 49) okX8_newcomer rfl rfl ⟨by omega, by omega⟩ ⟨by omega, by omega⟩ (fun h43 => ?_) (fun h43 => ?_)
  · refine aGo okX8_newcomer 4 (f' := (56, [some (.inr 192), some (.inl x), some (.inl y), some (.inl 0), some (.inl (p : Int)), none, none], [.inr 192], _)) rfl ?_
    refine b_vE (as := []) (rest := []) (k := 192) okX8_newcomer rfl lkX8_202 caX8_findShares (Nat.le_of_ble_eq_true rfl) rfl (Nat.le_of_ble_eq_true rfl) rfl rfl rfl (c_findShares (gH_of hb hsh)) ?_
    rintro _ _ ⟨rfl, sh2, lsh2, esh2, rfl⟩
    refine aGo okX8_newcomer 2 (f' := (62, [some (.inr 192), some (.inl x), some (.inl y), some (.inl 0), some (.inl (p : Int)), none, none], [.inl (p : Int), .inr 192], _)) rfl ?_
    refine b_vE (as := [.inl (p : Int)]) (rest := []) (k := 192) okX8_newcomer rfl lkX8_232 caX8_sharesOfFirst (Nat.le_of_ble_eq_true rfl) rfl (Nat.le_of_ble_eq_true rfl) rfl rfl rfl (c_sharesOfFirst (by omega) lsh2 (m := p) (by omega)) ?_
    rintro _ _ ⟨rfl, rfl⟩
    refine aGo okX8_newcomer 2 (f' := (68, [some (.inr 192), some (.inl x), some (.inl y), some (.inl 0), some (.inl (p : Int)), some (.inl (sumN p (fun q => sh2.getD q 0))), none], [.inr 192], _)) rfl ?_
    refine b_vE (as := []) (rest := []) (k := 192) okX8_newcomer rfl lkX8_214 caX8_thinks (Nat.le_of_ble_eq_true rfl) rfl (Nat.le_of_ble_eq_true rfl) rfl rfl rfl (c_thinks hb hkt) ?_
    rintro _ _ ⟨rfl, kt2, hkt2, hh2, he2, rfl⟩
    refine aGo okX8_newcomer 5 (f' := (76, [some (.inr 192), some (.inl x), some (.inl y), some (.inl 0), some (.inl (p : Int)), some (.inl (sumN p (fun q => sh2.getD q 0))), none], [.inl 0, .inl x, .inl 0, .inl 0, .inr 192], _)) rfl ?_
    refine b_vE (as := [.inl 0, .inl 0, .inl x, .inl 0]) (rest := []) (k := 192) okX8_newcomer rfl lkX8_120 caX8_adds (Nat.le_of_ble_eq_true rfl) rfl (Nat.le_of_ble_eq_true rfl) rfl rfl rfl (c_adds (x := 0) (y := 0) (z := x) (v := 0) hp6 hk hf hc hn hkp hl) ?_
    rintro _ _ ⟨rfl, rfl⟩
    refine aGo okX8_newcomer 1 (f' := (80, [some (.inr 192), some (.inl x), some (.inl y), some (.inl 0), some (.inl (p : Int)), some (.inl (sumN p (fun q => sh2.getD q 0))), none], [.inr 192], _)) rfl ?_
    refine b_vE (as := []) (rest := []) (k := 192) okX8_newcomer rfl lkX8_202 caX8_findShares (Nat.le_of_ble_eq_true rfl) rfl (Nat.le_of_ble_eq_true rfl) rfl rfl rfl (c_findShares (gH_add hp6 (gH_of hb lsh2) (by omega) (by omega) (by omega))) ?_
    rintro _ _ ⟨rfl, sh3, lsh3, esh3, rfl⟩
    refine aGo okX8_newcomer 1 (f' := (84, [some (.inr 192), some (.inl x), some (.inl y), some (.inl 0), some (.inl (p : Int)), some (.inl (sumN p (fun q => sh2.getD q 0))), none], [.inl y], _)) rfl ?_
    refine b0_ne (tgt := 97) okX8_newcomer rfl rfl ⟨by omega, by omega⟩ (fun h84 => ?_) (fun h84 => ?_)
    · refine aGo okX8_newcomer 3 (f' := (102, [some (.inr 192), some (.inl x), some (.inl y), some (.inl 0), some (.inl (p : Int)), some (.inl (sumN p (fun q => sh2.getD q 0))), none], [.inl (p : Int), .inr 192, .inl (sumN p (fun q => sh2.getD q 0))], _)) rfl ?_
      refine b_vE (as := [.inl (p : Int)]) (rest := [.inl (sumN p (fun q => sh2.getD q 0))]) (k := 192) okX8_newcomer rfl lkX8_232 caX8_sharesOfFirst (Nat.le_of_ble_eq_true rfl) rfl (Nat.le_of_ble_eq_true rfl) rfl rfl rfl (c_sharesOfFirst (by omega) lsh3 (m := p) (by omega)) ?_
      rintro _ _ ⟨rfl, rfl⟩
      refine aGo okX8_newcomer 3 (f' := (109, [some (.inr 192), some (.inl x), some (.inl y), some (.inl 0), some (.inl (p : Int)), some (.inl (sumN p (fun q => sh2.getD q 0))), some (.inl ((sumN p (fun q => sh2.getD q 0)) - (sumN p (fun q => sh3.getD q 0))))], [.inr 192], _)) rfl ?_
      refine b_vE (as := []) (rest := []) (k := 192) okX8_newcomer rfl lkX8_220 caX8_forgets (Nat.le_of_ble_eq_true rfl) rfl (Nat.le_of_ble_eq_true rfl) rfl rfl rfl (c_forgets (by rw [List.length_set]; exact hk) (by rw [List.length_set]; exact hf) (by rw [List.length_set]; exact hc) (by rw [List.length_set]; exact hn) (by rw [List.length_set]; exact hkp) (by rw [addL_len]; exact hl) hk hf hc hn hkp hl hkt2 hh2) ?_
      rintro _ _ ⟨rfl, rfl⟩
      refine aGo okX8_newcomer 1 (f' := (114, [some (.inr 192), some (.inl x), some (.inl y), some (.inl 0), some (.inl (p : Int)), some (.inl (sumN p (fun q => sh2.getD q 0))), some (.inl ((sumN p (fun q => sh2.getD q 0)) - (sumN p (fun q => sh3.getD q 0))))], [.inl ((sumN p (fun q => sh2.getD q 0)) - (sumN p (fun q => sh3.getD q 0)))], _)) rfl ?_
      exact b_ret (v := (some (.inl ((sumN p (fun q => sh2.getD q 0)) - (sumN p (fun q => sh3.getD q 0)))))) ⟨rfl, Or.inl rfl⟩ ⟨congrArg (fun q : Int => (some (.inl q) : Option aV)) (by rw [if_neg (by omega), if_neg (by omega), sumN_congr (fun q (hq : q < p) => esh3 q (by omega)), sumN_congr (fun q (hq : q < p) => esh2 q hq)]; have s1 := shr_sum (p := p + 1) (k := k.set p 0) (f := f.set p 0) (c := c.set p x) (t := t) (by omega) (by omega) (rng_set rf (by omega) (by omega)) (rng_set rc (by omega) (by omega)); simp only [sumN] at s1; by_cases hp0 : 0 < p; rw [if_pos hp0, shr_sum hp0 hp7 rf rc]; omega; rw [if_neg hp0]; obtain rfl : p = 0 := (by omega); simp only [sumN] at *; omega), mSt_of hp6 hd9 hax (hb) ⟨hle, hla, htd, hkt2, lsh3, hso, hha, hgr, hfi, hse⟩ (mim_of him (fun j hj => he2 j (by omega)))⟩ rfl
    · refine aGo okX8_newcomer 3 (f' := (93, [some (.inr 192), some (.inl x), some (.inl y), some (.inl 0), some (.inl (p : Int)), some (.inl (sumN p (fun q => sh2.getD q 0))), none], [.inl (p : Int), .inr 205], _)) rfl ?_
      refine b_ald (k := 205) (j := p) (a := sh3) okX8_newcomer rfl rfl (by omega) (by omega) (by omega) ?_
      refine aGo okX8_newcomer 3 (f' := (109, [some (.inr 192), some (.inl x), some (.inl y), some (.inl 0), some (.inl (p : Int)), some (.inl (sumN p (fun q => sh2.getD q 0))), some (.inl (sh3.getD p 0))], [.inr 192], _)) rfl ?_
      refine b_vE (as := []) (rest := []) (k := 192) okX8_newcomer rfl lkX8_220 caX8_forgets (Nat.le_of_ble_eq_true rfl) rfl (Nat.le_of_ble_eq_true rfl) rfl rfl rfl (c_forgets (by rw [List.length_set]; exact hk) (by rw [List.length_set]; exact hf) (by rw [List.length_set]; exact hc) (by rw [List.length_set]; exact hn) (by rw [List.length_set]; exact hkp) (by rw [addL_len]; exact hl) hk hf hc hn hkp hl hkt2 hh2) ?_
      rintro _ _ ⟨rfl, rfl⟩
      refine aGo okX8_newcomer 1 (f' := (114, [some (.inr 192), some (.inl x), some (.inl y), some (.inl 0), some (.inl (p : Int)), some (.inl (sumN p (fun q => sh2.getD q 0))), some (.inl (sh3.getD p 0))], [.inl (sh3.getD p 0)], _)) rfl ?_
      exact b_ret (v := (some (.inl (sh3.getD p 0)))) ⟨rfl, Or.inl rfl⟩ ⟨congrArg (fun q : Int => (some (.inl q) : Option aV)) (by rw [if_neg (by omega), if_pos (by omega), esh3 p (by omega)]; omega), mSt_of hp6 hd9 hax (hb) ⟨hle, hla, htd, hkt2, lsh3, hso, hha, hgr, hfi, hse⟩ (mim_of him (fun j hj => he2 j (by omega)))⟩ rfl
  · refine aGo okX8_newcomer 1 (f' := (48, [some (.inr 192), some (.inl x), some (.inl y), some (.inl 0), none, none, none], [.inl (-9)], _)) rfl ?_
    exact b_ret (v := (some (.inl (-9)))) ⟨rfl, Or.inl rfl⟩ ⟨congrArg (fun q : Int => (some (.inl q) : Option aV)) (by rw [if_pos (by omega)]), mSt_of hp6 hd9 hax (hb) hml (him)⟩ rfl
section AMF
variable {A0 A1 A2 A3 A4 A5 : List (Option aE)} {re k f c n kp l tp le la td kt sh so had gr fi se to : List Int} {p g : Nat} {t d tl at_ sn him ik cu ou st rm : Int} {N : Nat}
set_option maxRecDepth 100000 in
set_option maxHeartbeats 4000000 in
theorem c_shortOn (hb : bOK p k f c n kp l t d) (hd9 : d ≤ 999) (hsh : sh.length = 7) (hso : so.length = 7) (hkt : kt.length = 270) {i : Nat} (hi : i < p) : aEv mX8_shortOn 7 0 0 N [.inr 192, .inl (i : Int)] [A0, A1, A2, A3, A4, A5, (modSeg re k f c n kp l tp le la td kt sh so had gr fi se to (p : Int) t d tl at_ sn him ik cu 0 st rm)] ((fun rv h => rv = some (.inl (firstF (fun j => sht p (hasM p k f c l t) n kp i j) 99 0)) ∧ ∃ (kt2 sh2 so2 : List Int) (cu2 ik2 st2 : Int), kt2.length = 270 ∧ sh2.length = 7 ∧ so2.length = 7 ∧ (∀ j, j < 180 → kt2.getD j 0 = kt.getD j 0) ∧ h = [A0, A1, A2, A3, A4, A5, (modSeg re k f c n kp l tp le la td kt2 sh2 so2 had gr fi se to (p : Int) t d tl at_ sn him ik2 cu2 0 st2 rm)])) := by
  obtain ⟨hp7, hk, hf, hc, hn, hkp, hl, rk, rf, rc, rn, rkp, rl, ht0, ht1, hd0, hd1⟩ := id hb
  refine aEv_of okX8_shortOn caX8_shortOn (Nat.le_of_ble_eq_true rfl) ?_
  refine aGo okX8_shortOn 1 (f' := (1, [some (.inr 192), some (.inl (i : Int)), none, none], [.inr 192], _)) rfl ?_
  refine b_vE (as := []) (rest := []) (k := 192) okX8_shortOn rfl lkX8_214 caX8_thinks (Nat.le_of_ble_eq_true rfl) rfl (Nat.le_of_ble_eq_true rfl) rfl rfl rfl (c_thinks hb hkt) ?_
  rintro _ _ ⟨rfl, kt2, hkt2, hh2, he2, rfl⟩
  refine aGo okX8_shortOn 1 (f' := (5, [some (.inr 192), some (.inl (i : Int)), none, none], [.inr 192], _)) rfl ?_
  refine b_vE (as := []) (rest := []) (k := 192) okX8_shortOn rfl lkX8_217 caX8_noShorts (Nat.le_of_ble_eq_true rfl) rfl (Nat.le_of_ble_eq_true rfl) rfl rfl rfl (c_noShorts hso) ?_
  rintro _ _ ⟨rfl, rfl⟩
  refine aGo okX8_shortOn 4 (f' := (13, [some (.inr 192), some (.inl (i : Int)), some (.inl (-9)), some (.inl 1)], [], _)) rfl ?_
  have lp : ∀ (jn v : Nat) (so1 : List Int) (sh1 : List Int) (st1 : Int), v + jn = 99 → (so1.length = 7) → (so1.getD i 0 = 0) → (sh1.length = 7) → (firstF (fun j => sht p (hasM p k f c l t) n kp i j) 99 0 = firstF (fun j => sht p (hasM p k f c l t) n kp i j) jn v) → AW mX8_shortOn 7 0 0 N none (fun rv h => rv = some (.inl (firstF (fun j => sht p (hasM p k f c l t) n kp i j) 99 0)) ∧ ∃ (kt2 sh2 so2 : List Int) (cu2 ik2 st2 : Int), kt2.length = 270 ∧ sh2.length = 7 ∧ so2.length = 7 ∧ (∀ j, j < 180 → kt2.getD j 0 = kt.getD j 0) ∧ h = [A0, A1, A2, A3, A4, A5, (modSeg re k f c n kp l tp le la td kt2 sh2 so2 had gr fi se to (p : Int) t d tl at_ sn him ik2 cu2 0 st2 rm)]) (13, [some (.inr 192), some (.inl (i : Int)), some (.inl (-9)), some (.inl (((v + 1) : Nat) : Int))], [], [A0, A1, A2, A3, A4, A5, (modSeg re k f c n (dayIt p (hasM p k f c l t) n v kp) l tp le la td kt2 sh1 so1 had gr fi se to (p : Int) t (d + (v : Int)) tl at_ sn him 1 267 0 st1 rm)]) := by
    intro jn
    induction jn with
    | zero =>
      intro v so1 sh1 st1 hij x1 x2 x3 x4
      obtain rfl : 99 = v := by omega
      refine aGo okX8_shortOn 2 (f' := (16, [some (.inr 192), some (.inl (i : Int)), some (.inl (-9)), some (.inl (((99 + 1) : Nat) : Int))], [.inl 99, .inl (((99 + 1) : Nat) : Int)], _)) rfl ?_
      refine b_gt (tgt := 53) okX8_shortOn rfl rfl ⟨by omega, by omega⟩ ⟨by omega, by omega⟩ (fun h16 => ?_) (fun h16 => absurd h16 (by omega))
      refine aGo okX8_shortOn 1 (f' := (54, [some (.inr 192), some (.inl (i : Int)), some (.inl (-9)), some (.inl (((99 + 1) : Nat) : Int))], [.inr 192], _)) rfl ?_
      refine b_vE (as := []) (rest := []) (k := 192) okX8_shortOn rfl lkX8_220 caX8_forgets (Nat.le_of_ble_eq_true rfl) rfl (Nat.le_of_ble_eq_true rfl) rfl rfl rfl (c_forgets hk hf hc hn (by rw [dayIt_len]; exact hkp) hl hk hf hc hn hkp hl hkt2 hh2) ?_
      rintro _ _ ⟨rfl, rfl⟩
      refine aGo okX8_shortOn 1 (f' := (58, [some (.inr 192), some (.inl (i : Int)), some (.inl (-9)), some (.inl (((99 + 1) : Nat) : Int))], [.inl (-9)], _)) rfl ?_
      exact b_ret (v := (some (.inl (-9)))) ⟨rfl, Or.inl rfl⟩ ⟨congrArg (fun q : Int => (some (.inl q) : Option aV)) (by rw [x4]; rfl), kt2, _, _, _, _, _, hkt2, x3, x1, he2, rfl⟩ rfl
    | succ jn ih =>
      intro v so1 sh1 st1 hij x1 x2 x3 x4
      refine aGo okX8_shortOn 2 (f' := (16, [some (.inr 192), some (.inl (i : Int)), some (.inl (-9)), some (.inl (((v + 1) : Nat) : Int))], [.inl 99, .inl (((v + 1) : Nat) : Int)], _)) rfl ?_
      refine b_gt (tgt := 53) okX8_shortOn rfl rfl ⟨by omega, by omega⟩ ⟨by omega, by omega⟩ (fun h16 => absurd h16 (by omega)) (fun h16 => ?_)
      refine aGo okX8_shortOn 1 (f' := (20, [some (.inr 192), some (.inl (i : Int)), some (.inl (-9)), some (.inl (((v + 1) : Nat) : Int))], [.inl (-9)], _)) rfl ?_
      refine b0_ge (tgt := 53) okX8_shortOn rfl rfl ⟨by omega, by omega⟩ (fun h20 => absurd h20 (by omega)) (fun h20 => ?_)
      refine aGo okX8_shortOn 3 (f' := (28, [some (.inr 192), some (.inl (i : Int)), some (.inl (-9)), some (.inl (((v + 1) : Nat) : Int))], [.inl (-9), .inl (-9), .inr 192], _)) rfl ?_
      refine b_vE (as := [.inl (-9), .inl (-9)]) (rest := []) (k := 192) okX8_shortOn rfl lkX8_127 caX8_goesDay (Nat.le_of_ble_eq_true rfl) rfl (Nat.le_of_ble_eq_true rfl) rfl rfl rfl (c_goesDay (bOK_it hb _ (by omega)) x3 x1) ?_
      rintro _ _ ⟨rfl, sh3, lsh3, rfl⟩
      refine aGo okX8_shortOn 3 (f' := (36, [some (.inr 192), some (.inl (i : Int)), some (.inl (-9)), some (.inl (((v + 1) : Nat) : Int))], [.inl (i : Int), .inr 206], _)) rfl ?_
      refine b_ald (k := 206) (j := i) (a := (soL (fun q => decide (dayV (dayIt p (hasM p k f c l t) n v kp) (hasM p k f c l t) n q < 0)) so1 p)) okX8_shortOn rfl rfl (by omega) (by rw [soL_len]; omega) (by omega) ?_
      have e5 := sht_so (has := (hasM p k f c l t)) (n := n) (kp := kp) (v := v) hi (so := so1) (by omega)
      cases hz : sht p (hasM p k f c l t) n kp i v with
      | true =>
        rw [hz, x2] at e5
        refine b_cast (f' := (37, [some (.inr 192), some (.inl (i : Int)), some (.inl (-9)), some (.inl (((v + 1) : Nat) : Int))], [.inl 1], [A0, A1, A2, A3, A4, A5, (modSeg re k f c n (dayIt p (hasM p k f c l t) n (v + 1) kp) l tp le la td kt2 sh3 (soL (fun q => decide (dayV (dayIt p (hasM p k f c l t) n v kp) (hasM p k f c l t) n q < 0)) so1 p) had gr fi se to (p : Int) t ((d + (v : Int)) + 1) tl at_ sn him 1 267 0 (cntN p (fun q => decide (dayV (dayIt p (hasM p k f c l t) n v kp) (hasM p k f c l t) n q < 0))) rm)])) (congrArg (fun q : Int => ((37, [some (.inr 192), some (.inl (i : Int)), some (.inl (-9)), some (.inl (((v + 1) : Nat) : Int))], .inl q :: [], [A0, A1, A2, A3, A4, A5, (modSeg re k f c n (dayIt p (hasM p k f c l t) n (v + 1) kp) l tp le la td kt2 sh3 (soL (fun q => decide (dayV (dayIt p (hasM p k f c l t) n v kp) (hasM p k f c l t) n q < 0)) so1 p) had gr fi se to (p : Int) t ((d + (v : Int)) + 1) tl at_ sn him 1 267 0 (cntN p (fun q => decide (dayV (dayIt p (hasM p k f c l t) n v kp) (hasM p k f c l t) n q < 0))) rm)]) : aF)) e5) ?_
        refine b0_le (tgt := 44) okX8_shortOn rfl rfl ⟨by omega, by omega⟩ (fun h37 => absurd h37 (by omega)) (fun h37 => ?_)
        refine aGo okX8_shortOn 7 (f' := (16, [some (.inr 192), some (.inl (i : Int)), some (.inl (((v + 1) : Nat) : Int)), some (.inl ((((v + 1) : Nat) : Int) + 1))], [.inl 99, .inl ((((v + 1) : Nat) : Int) + 1)], _)) rfl ?_
        refine b_gt (tgt := 53) okX8_shortOn rfl rfl ⟨by omega, by omega⟩ ⟨by omega, by omega⟩ (fun h16 => ?_) (fun h16 => ?_)
        · refine aGo okX8_shortOn 1 (f' := (54, [some (.inr 192), some (.inl (i : Int)), some (.inl (((v + 1) : Nat) : Int)), some (.inl ((((v + 1) : Nat) : Int) + 1))], [.inr 192], _)) rfl ?_
          refine b_vE (as := []) (rest := []) (k := 192) okX8_shortOn rfl lkX8_220 caX8_forgets (Nat.le_of_ble_eq_true rfl) rfl (Nat.le_of_ble_eq_true rfl) rfl rfl rfl (c_forgets hk hf hc hn (by rw [dayIt_len]; exact hkp) hl hk hf hc hn hkp hl hkt2 hh2) ?_
          rintro _ _ ⟨rfl, rfl⟩
          refine aGo okX8_shortOn 1 (f' := (58, [some (.inr 192), some (.inl (i : Int)), some (.inl (((v + 1) : Nat) : Int)), some (.inl ((((v + 1) : Nat) : Int) + 1))], [.inl (((v + 1) : Nat) : Int)], _)) rfl ?_
          exact b_ret (v := (some (.inl (((v + 1) : Nat) : Int)))) ⟨rfl, Or.inl rfl⟩ ⟨congrArg (fun q : Int => (some (.inl q) : Option aV)) (by rw [x4, firstF_t hz]; omega), kt2, _, _, _, _, _, hkt2, lsh3, (by rw [soL_len]; exact x1), he2, rfl⟩ rfl
        · refine aGo okX8_shortOn 1 (f' := (20, [some (.inr 192), some (.inl (i : Int)), some (.inl (((v + 1) : Nat) : Int)), some (.inl ((((v + 1) : Nat) : Int) + 1))], [.inl (((v + 1) : Nat) : Int)], _)) rfl ?_
          refine b0_ge (tgt := 53) okX8_shortOn rfl rfl ⟨by omega, by omega⟩ (fun h20 => ?_) (fun h20 => absurd h20 (by omega))
          refine aGo okX8_shortOn 1 (f' := (54, [some (.inr 192), some (.inl (i : Int)), some (.inl (((v + 1) : Nat) : Int)), some (.inl ((((v + 1) : Nat) : Int) + 1))], [.inr 192], _)) rfl ?_
          refine b_vE (as := []) (rest := []) (k := 192) okX8_shortOn rfl lkX8_220 caX8_forgets (Nat.le_of_ble_eq_true rfl) rfl (Nat.le_of_ble_eq_true rfl) rfl rfl rfl (c_forgets hk hf hc hn (by rw [dayIt_len]; exact hkp) hl hk hf hc hn hkp hl hkt2 hh2) ?_
          rintro _ _ ⟨rfl, rfl⟩
          refine aGo okX8_shortOn 1 (f' := (58, [some (.inr 192), some (.inl (i : Int)), some (.inl (((v + 1) : Nat) : Int)), some (.inl ((((v + 1) : Nat) : Int) + 1))], [.inl (((v + 1) : Nat) : Int)], _)) rfl ?_
          exact b_ret (v := (some (.inl (((v + 1) : Nat) : Int)))) ⟨rfl, Or.inl rfl⟩ ⟨congrArg (fun q : Int => (some (.inl q) : Option aV)) (by rw [x4, firstF_t hz]; omega), kt2, _, _, _, _, _, hkt2, lsh3, (by rw [soL_len]; exact x1), he2, rfl⟩ rfl
      | false =>
        rw [hz, x2] at e5
        refine b_cast (f' := (37, [some (.inr 192), some (.inl (i : Int)), some (.inl (-9)), some (.inl (((v + 1) : Nat) : Int))], [.inl 0], [A0, A1, A2, A3, A4, A5, (modSeg re k f c n (dayIt p (hasM p k f c l t) n (v + 1) kp) l tp le la td kt2 sh3 (soL (fun q => decide (dayV (dayIt p (hasM p k f c l t) n v kp) (hasM p k f c l t) n q < 0)) so1 p) had gr fi se to (p : Int) t ((d + (v : Int)) + 1) tl at_ sn him 1 267 0 (cntN p (fun q => decide (dayV (dayIt p (hasM p k f c l t) n v kp) (hasM p k f c l t) n q < 0))) rm)])) (congrArg (fun q : Int => ((37, [some (.inr 192), some (.inl (i : Int)), some (.inl (-9)), some (.inl (((v + 1) : Nat) : Int))], .inl q :: [], [A0, A1, A2, A3, A4, A5, (modSeg re k f c n (dayIt p (hasM p k f c l t) n (v + 1) kp) l tp le la td kt2 sh3 (soL (fun q => decide (dayV (dayIt p (hasM p k f c l t) n v kp) (hasM p k f c l t) n q < 0)) so1 p) had gr fi se to (p : Int) t ((d + (v : Int)) + 1) tl at_ sn him 1 267 0 (cntN p (fun q => decide (dayV (dayIt p (hasM p k f c l t) n v kp) (hasM p k f c l t) n q < 0))) rm)]) : aF)) e5) ?_
        refine b0_le (tgt := 44) okX8_shortOn rfl rfl ⟨by omega, by omega⟩ (fun h37 => ?_) (fun h37 => absurd h37 (by omega))
        refine aGo okX8_shortOn 4 (f' := (13, [some (.inr 192), some (.inl (i : Int)), some (.inl (-9)), some (.inl ((((v + 1) : Nat) : Int) + 1))], [], _)) rfl ?_
        refine b_cast (f' := (13, [some (.inr 192), some (.inl (i : Int)), some (.inl (-9)), some (.inl ((((v + 1) : Nat) : Int) + 1))], [], [A0, A1, A2, A3, A4, A5, (modSeg re k f c n (dayIt p (hasM p k f c l t) n (v + 1) kp) l tp le la td kt2 sh3 (soL (fun q => decide (dayV (dayIt p (hasM p k f c l t) n v kp) (hasM p k f c l t) n q < 0)) so1 p) had gr fi se to (p : Int) t (d + (((v + 1) : Nat) : Int)) tl at_ sn him 1 267 0 (cntN p (fun q => decide (dayV (dayIt p (hasM p k f c l t) n v kp) (hasM p k f c l t) n q < 0))) rm)])) (by rw [show d + (v : Int) + 1 = d + ((v + 1 : Nat) : Int) by omega]) ?_
        exact ih (v + 1) _ _ _ (by omega) (by rw [soL_len]; exact x1) (by rw [sht_so hi (by omega), hz, x2]; rfl) lsh3 (by rw [x4, firstF_f hz])
  refine b_cast (f' := (13, [some (.inr 192), some (.inl (i : Int)), some (.inl (-9)), some (.inl (((0 + 1) : Nat) : Int))], [], [A0, A1, A2, A3, A4, A5, (modSeg re k f c n kp l tp le la td kt2 sh (zeL so 7) had gr fi se to (p : Int) t (d + ((0 : Nat) : Int)) tl at_ sn him 1 267 0 st rm)])) (by rw [show d + ((0 : Nat) : Int) = d by omega]; rfl) ?_
  exact lp 99 0 (zeL so 7) sh st (by omega) (by rw [zeL_len]; exact hso) (zeL_in (by omega) (by omega)) hsh rfl
end AMF
set_option maxRecDepth 100000 in
set_option maxHeartbeats 4000000 in
theorem mk_lasts {imt : Int} {tc : Nat} {k f c n kp l : List Int} {p : Nat} {t d : Int} {to re : List Int} {tl : Nat} {tp : List Int} {I : moT} {A0 A1 A2 A3 A4 A5 : List (Option aE)} {h : aH} {N : Nat} (hS : mSt imt tc k f c n kp l p t d to re tl tp I A0 A1 A2 A3 A4 A5 h) {i : Nat} (hi : i < p) : aEv mX8_lasts 8 0 0 N [.inr 192, .inl (i : Int)] h (fun rv h2 => rv = some (.inl (lastF (fun j => sht p (hasM p k f c l t) n kp i j) 99 0)) ∧ mSt imt tc k f c n kp l p t d to re tl tp I A0 A1 A2 A3 A4 A5 h2) := by
  obtain ⟨hp6, hd9, hax, hb, le, la, td, kt, sh, so, had, gr, fi, se, at_, sn, ik, cu, st, hml, him, rfl⟩ := hS
  obtain ⟨htp, rtp, htl9, hto, rto, htc, hre⟩ := id hax
  obtain ⟨hle, hla, htd, hkt, hsh, hso, hha, hgr, hfi, hse⟩ := id hml
  obtain ⟨hp7, hk, hf, hc, hn, hkp, hl, rk, rf, rc, rn, rkp, rl, ht0, ht1, hd0, hd1⟩ := id hb
  refine aEv_of okX8_lasts caX8_lasts (Nat.le_of_ble_eq_true rfl) ?_
  refine aGo okX8_lasts 2 (f' := (2, [some (.inr 192), some (.inl (i : Int)), none], [.inl (i : Int), .inr 192], _)) rfl ?_
  refine b_vV (as := [.inl (i : Int)]) (rest := []) (k := 192) (.inl 1) okX8_lasts rfl lkX8_75 caX8_isOne (Nat.le_of_ble_eq_true rfl) rfl (Nat.le_of_ble_eq_true rfl) rfl rfl rfl (c_isOne_t hp7 ⟨by omega, by omega⟩) ?_
  refine b0_ne (tgt := 14) okX8_lasts rfl rfl ⟨by omega, by omega⟩ (fun h5 => ?_) (fun h5 => absurd h5 (by omega))
  refine aGo okX8_lasts 2 (f' := (16, [some (.inr 192), some (.inl (i : Int)), none], [.inl (i : Int), .inr 192], _)) rfl ?_
  refine b_vE (as := [.inl (i : Int)]) (rest := []) (k := 192) okX8_lasts rfl lkX8_223 caX8_shortOn (Nat.le_of_ble_eq_true rfl) rfl (Nat.le_of_ble_eq_true rfl) rfl rfl rfl (c_shortOn hb hd9 hsh hso hkt (i := i) (by omega)) ?_
  rintro _ _ ⟨rfl, kt2, sh2, so2, cu2, ik2, st2, lkt2, lsh2, lso2, ekt2, rfl⟩
  refine aGo okX8_lasts 1 (f' := (20, [some (.inr 192), some (.inl (i : Int)), some (.inl (firstF (fun j => sht p (hasM p k f c l t) n kp i j) 99 0))], [], _)) rfl ?_
  have hF1 := firstF_is (P := fun j => sht p (hasM p k f c l t) n kp i j) 99 0
  have hF2 : firstF (fun j => sht p (hasM p k f c l t) n kp i j) 99 0 = -9 ∨ (1 ≤ firstF (fun j => sht p (hasM p k f c l t) n kp i j) 99 0 ∧ firstF (fun j => sht p (hasM p k f c l t) n kp i j) 99 0 ≤ 99) := by
    rcases hF1 with ⟨g1, -⟩ | ⟨v, g1, g2, g3, -⟩
    · exact Or.inl g1
    · right; rw [g3]; omega
  refine aGo okX8_lasts 1 (f' := (21, [some (.inr 192), some (.inl (i : Int)), some (.inl (firstF (fun j => sht p (hasM p k f c l t) n kp i j) 99 0))], [.inl (firstF (fun j => sht p (hasM p k f c l t) n kp i j) 99 0)], _)) rfl ?_
  refine b0_ge (tgt := 29) okX8_lasts rfl rfl ⟨by omega, by omega⟩ (fun h21 => ?_) (fun h21 => ?_)
  · have hF : ¬ firstF (fun j => sht p (hasM p k f c l t) n kp i j) 99 0 = -9 := by omega
    refine aGo okX8_lasts 3 (f' := (32, [some (.inr 192), some (.inl (i : Int)), some (.inl (firstF (fun j => sht p (hasM p k f c l t) n kp i j) 99 0))], [.inl ((firstF (fun j => sht p (hasM p k f c l t) n kp i j) 99 0) - 1)], _)) rfl ?_
    exact b_ret (v := (some (.inl ((firstF (fun j => sht p (hasM p k f c l t) n kp i j) 99 0) - 1)))) ⟨rfl, Or.inl rfl⟩ ⟨congrArg (fun q : Int => (some (.inl q) : Option aV)) (by rw [lastF_F]; rw [if_neg hF]), mSt_of hp6 hd9 hax (hb) ⟨hle, hla, htd, lkt2, lsh2, lso2, hha, hgr, hfi, hse⟩ (mim_of him (fun j hj => ekt2 j (by omega)))⟩ rfl
  · have hF : firstF (fun j => sht p (hasM p k f c l t) n kp i j) 99 0 = -9 := by omega
    refine aGo okX8_lasts 2 (f' := (32, [some (.inr 192), some (.inl (i : Int)), some (.inl (firstF (fun j => sht p (hasM p k f c l t) n kp i j) 99 0))], [.inl 99], _)) rfl ?_
    exact b_ret (v := (some (.inl 99))) ⟨rfl, Or.inl rfl⟩ ⟨congrArg (fun q : Int => (some (.inl q) : Option aV)) (by rw [lastF_F]; rw [if_pos hF]), mSt_of hp6 hd9 hax (hb) ⟨hle, hla, htd, lkt2, lsh2, lso2, hha, hgr, hfi, hse⟩ (mim_of him (fun j hj => ekt2 j (by omega)))⟩ rfl
