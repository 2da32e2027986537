/-! moor(), of the reference; laid by gen_moorm3.py -/
set_option maxRecDepth 100000 in
set_option maxHeartbeats 4000000 in
theorem mk_moor {imt : Int} {tc : Nat} {k f c n kp l : List Int} {p : Nat} {t d : Int} {to re : List Int} {tl : Nat} {tp : List Int} {I : moT} {A0 A1 A2 A3 A4 A5 : List (Option aE)} {h : aH} {N : Nat} (hS : mSt imt tc k f c n kp l p t d to re tl tp I A0 A1 A2 A3 A4 A5 h)  : aEv mX8_moor 9 0 0 N [.inr 192] h (fun rv h2 => rv = some (.inl (mvA tp tl (k, f, c, n, kp, l, p, t, d))) ∧ mSt imt tc (mvS tp tl (k, f, c, n, kp, l, p, t, d)).1 (mvS tp tl (k, f, c, n, kp, l, p, t, d)).2.1 (mvS tp tl (k, f, c, n, kp, l, p, t, d)).2.2.1 (mvS tp tl (k, f, c, n, kp, l, p, t, d)).2.2.2.1 (mvS tp tl (k, f, c, n, kp, l, p, t, d)).2.2.2.2.1 (mvS tp tl (k, f, c, n, kp, l, p, t, d)).2.2.2.2.2.1 (mvS tp tl (k, f, c, n, kp, l, p, t, d)).2.2.2.2.2.2.1 (mvS tp tl (k, f, c, n, kp, l, p, t, d)).2.2.2.2.2.2.2.1 (mvS tp tl (k, f, c, n, kp, l, p, t, d)).2.2.2.2.2.2.2.2 to re 0 tp I A0 A1 A2 A3 A4 A5 h2) := by
  obtain ⟨hp6, hd9, hax, hb, le, la, td, kt, sh, so, had, gr, fi, se, at_, sn, ik, cu, st, hml, him, rfl⟩ := hS
  obtain ⟨htp, rtp, htl9, hto, rto, htc, hre⟩ := id hax
  obtain ⟨hle, hla, htd, hkt, hsh, hso, hha, hgr, hfi, hse⟩ := id hml
  obtain ⟨hp7, hk, hf, hc, hn, hkp, hl, rk, rf, rc, rn, rkp, rl, ht0, ht1, hd0, hd1⟩ := id hb
  refine aEv_of okX8_moor caX8_moor (Nat.le_of_ble_eq_true rfl) ?_
  refine aGo okX8_moor 8 (f' := (12, [some (.inr 192), some (.inl 1), none], [], [A0, A1, A2, A3, A4, A5, (modSeg re k f c n kp l tp le la td kt sh so had gr fi se to (p : Int) t d (tl : Int) 0 0 imt ik cu 0 st (tc : Int))])) rfl ?_
  have lp : ∀ (n9 j : Nat) (x : Nat) (le1 : List Int) (la1 : List Int) (td1 : List Int), j + n9 = 25 → (le1.length = 48) → (la1.length = 48) → (td1.length = 192) → (4 * j ≤ x) → (x ≤ tl) → (x = psF tp j) → (∀ e, e < j → wfS tp tl (psF tp e) ∧ le1.getD e 0 = tp.getD (psF tp e) 0 ∧ la1.getD e 0 = (psF tp e : Int) ∧ tdOK tp td1 e (psF tp e)) → (fwF tp tl 97 0 = fwF tp tl (97 - j) x) → AW mX8_moor 9 0 0 N none (fun rv h2 => rv = some (.inl (mvA tp tl (k, f, c, n, kp, l, p, t, d))) ∧ mSt imt tc (mvS tp tl (k, f, c, n, kp, l, p, t, d)).1 (mvS tp tl (k, f, c, n, kp, l, p, t, d)).2.1 (mvS tp tl (k, f, c, n, kp, l, p, t, d)).2.2.1 (mvS tp tl (k, f, c, n, kp, l, p, t, d)).2.2.2.1 (mvS tp tl (k, f, c, n, kp, l, p, t, d)).2.2.2.2.1 (mvS tp tl (k, f, c, n, kp, l, p, t, d)).2.2.2.2.2.1 (mvS tp tl (k, f, c, n, kp, l, p, t, d)).2.2.2.2.2.2.1 (mvS tp tl (k, f, c, n, kp, l, p, t, d)).2.2.2.2.2.2.2.1 (mvS tp tl (k, f, c, n, kp, l, p, t, d)).2.2.2.2.2.2.2.2 to re 0 tp I A0 A1 A2 A3 A4 A5 h2) (12, [some (.inr 192), some (.inl 1), none], [], [A0, A1, A2, A3, A4, A5, (modSeg re k f c n kp l tp le1 la1 td1 kt sh so had gr fi se to (p : Int) t d (tl : Int) (x : Int) (j : Int) imt ik cu 0 st (tc : Int))]) := by
    intro n9
    induction n9 with
    | zero =>
      intro j x le1 la1 td1 hij9 x1 x2 x3 x4 x5 x6 x7 x8
      obtain rfl : 25 = j := by omega
      exfalso; omega
    | succ n9 ih =>
      intro j x le1 la1 td1 hij9 x1 x2 x3 x4 x5 x6 x7 x8
      have e0 : j = 0 → psF tp j = 0 := fun z => by rw [z]; rfl
      refine aGo okX8_moor 1 (f' := (13, [some (.inr 192), some (.inl 1), none], [.inl 1], _)) rfl ?_
      refine b0_eq (tgt := 60) okX8_moor rfl rfl ⟨by omega, by omega⟩ (fun h13 => absurd h13 (by omega)) (fun h13 => ?_)
      refine aGo okX8_moor 4 (f' := (24, [some (.inr 192), some (.inl 1), none], [.inl (tl : Int), .inl (x : Int)], _)) rfl ?_
      refine b_lt (tgt := 34) okX8_moor rfl rfl ⟨by omega, by omega⟩ ⟨by omega, by omega⟩ (fun h24 => ?_) (fun h24 => ?_)
      · refine aGo okX8_moor 1 (f' := (35, [some (.inr 192), some (.inl 1), none], [.inr 192], _)) rfl ?_
        by_cases hc35 : wfS tp tl x
        · refine b_vE (as := []) (rest := []) (k := 192) okX8_moor rfl lkX8_140 caX8_statement (Nat.le_of_ble_eq_true rfl) rfl (Nat.le_of_ble_eq_true rfl) rfl rfl rfl (c_stm_t htp htl9 rtp x3 x1 x2 (x := x) (j := j) (by omega) (by omega) hc35) ?_
          rintro _ _ ⟨rfl, le2, la2, td2, lle2, lla2, ltd2, ele2, ela2, otd2, etd2, rfl⟩
          refine aGo okX8_moor 5 (f' := (45, [some (.inr 192), some (.inl 1), none], [.inl 1, .inl (j : Int), .inr 192], _)) rfl ?_
          refine b0_eq (tgt := 52) okX8_moor rfl rfl ⟨by omega, by omega⟩ (fun h45 => absurd h45 (by omega)) (fun h45 => ?_)
          refine aGo okX8_moor 5 (f' := (12, [some (.inr 192), some (.inl 1), none], [], [A0, A1, A2, A3, A4, A5, (modSeg re k f c n kp l tp le2 la2 td2 kt sh so had gr fi se to (p : Int) t d (tl : Int) ((x + aTxLen.getD (fmI (tp.getD x 0)) 0) : Int) ((j : Int) + 1) imt ik cu 0 st (tc : Int))])) rfl ?_
          have h4 := (tx_two _ hc35.1).2
          have h5 := hc35.2.1
          have hps : x + aTxLen.getD (fmI (tp.getD x 0)) 0 = psF tp (j + 1) := by show _ = psF tp j + aTxLen.getD (fmI (tp.getD (psF tp j) 0)) 0; rw [← x6]
          refine ih (j + 1) (x + aTxLen.getD (fmI (tp.getD x 0)) 0) le2 la2 td2 (by omega) lle2 lla2 ltd2 (by omega) (by omega) hps (fun e he => ?_) (by rw [x8, show 97 - j = 96 - j + 1 by omega, fwF_good hc35, show 96 - j = 97 - (j + 1) by omega])
          by_cases hej : e = j
          · subst hej
            rw [← x6]
            exact ⟨hc35, by rw [ele2, if_pos rfl], by rw [ela2, if_pos rfl], otd2⟩
          · have hpe := x7 e (by omega)
            exact ⟨hpe.1, by rw [ele2, if_neg hej]; exact hpe.2.1, by rw [ela2, if_neg hej]; exact hpe.2.2.1, tdOK_of hpe.2.2.2 (fun q q1 q2 => etd2 q (by omega))⟩
        · refine b_vE (as := []) (rest := []) (k := 192) okX8_moor rfl lkX8_140 caX8_statement (Nat.le_of_ble_eq_true rfl) rfl (Nat.le_of_ble_eq_true rfl) rfl rfl rfl (c_stm_f htp htl9 rtp x3 x1 x2 (x := x) (j := j) (by omega) (by omega) (s := 96 - j) (by omega) hc35) ?_
          rintro _ _ ⟨rfl, y, le2, la2, td2, ey, lle2, lla2, ltd2, rfl⟩
          refine aGo okX8_moor 5 (f' := (45, [some (.inr 192), some (.inl 0), none], [.inl 0, .inl (j : Int), .inr 192], _)) rfl ?_
          refine b0_eq (tgt := 52) okX8_moor rfl rfl ⟨by omega, by omega⟩ (fun h45 => ?_) (fun h45 => absurd h45 (by omega))
          refine aGo okX8_moor 4 (f' := (12, [some (.inr 192), some (.inl 0), none], [], [A0, A1, A2, A3, A4, A5, (modSeg re k f c n kp l tp le2 la2 td2 kt sh so had gr fi se to (p : Int) t d (tl : Int) (y : Int) ((j : Int) + 0) imt ik cu 0 st (tc : Int))])) rfl ?_
          have hmv : mvA tp tl (k, f, c, n, kp, l, p, t, d) = -1000 - (y : Int) := by unfold mvA; rw [x8, show 97 - j = 96 - j + 1 by omega, ey, if_pos (by omega)]
          refine aGo okX8_moor 1 (f' := (13, [some (.inr 192), some (.inl 0), none], [.inl 0], _)) rfl ?_
          refine b0_eq (tgt := 60) okX8_moor rfl rfl ⟨by omega, by omega⟩ (fun h13 => ?_) (fun h13 => absurd h13 (by omega))
          refine aGo okX8_moor 4 (f' := (66, [some (.inr 192), some (.inl 0), none], [.inl 0], [A0, A1, A2, A3, A4, A5, (modSeg re k f c n kp l tp le2 la2 td2 kt sh so had gr fi se to (p : Int) t d 0 (y : Int) ((j : Int) + 0) imt ik cu 0 st (tc : Int))])) rfl ?_
          refine b0_ne (tgt := 78) okX8_moor rfl rfl ⟨by omega, by omega⟩ (fun h66 => absurd h66 (by omega)) (fun h66 => ?_)
          refine aGo okX8_moor 4 (f' := (77, [some (.inr 192), some (.inl 0), none], [.inl ((-1000) - (y : Int))], _)) rfl ?_
          exact b_ret (v := (some (.inl ((-1000) - (y : Int))))) ⟨rfl, Or.inl rfl⟩ ⟨congrArg (fun q : Int => (some (.inl q) : Option aV)) (by rw [hmv]), by rw [mvS_f (by rw [hmv]; omega)]; exact mSt_of (tl := 0) hp6 hd9 ⟨htp, rtp, Nat.zero_le _, hto, rto, htc, hre⟩ hb ⟨lle2, lla2, ltd2, hkt, hsh, hso, hha, hgr, hfi, hse⟩ him⟩ rfl
      · refine aGo okX8_moor 2 (f' := (31, [some (.inr 192), some (.inl 1), none], [.inl (j : Int)], _)) rfl ?_
        refine b0_ne (tgt := 60) okX8_moor rfl rfl ⟨by omega, by omega⟩ (fun h31 => ?_) (fun h31 => ?_)
        · refine aGo okX8_moor 4 (f' := (66, [some (.inr 192), some (.inl 1), none], [.inl 1], [A0, A1, A2, A3, A4, A5, (modSeg re k f c n kp l tp le1 la1 td1 kt sh so had gr fi se to (p : Int) t d 0 (x : Int) (j : Int) imt ik cu 0 st (tc : Int))])) rfl ?_
          refine b0_ne (tgt := 78) okX8_moor rfl rfl ⟨by omega, by omega⟩ (fun h66 => ?_) (fun h66 => absurd h66 (by omega))
          refine aGo okX8_moor 3 (f' := (81, [some (.inr 192), some (.inl 1), none], [.inl 1, .inl 1, .inr 192], _)) rfl ?_
          refine b_vE (as := [.inl 1, .inl 1]) (rest := []) (k := 192) okX8_moor rfl lkX8_144 caX8_passesAll (Nat.le_of_ble_eq_true rfl) rfl (Nat.le_of_ble_eq_true rfl) rfl rfl rfl (c_all_1k hb hkt) ?_
          rintro _ _ ⟨rfl, kt2, lkt2, hh2, ekt2, rfl⟩
          refine aGo okX8_moor 2 (f' := (86, [some (.inr 192), some (.inl 1), some (.inl 0)], [], _)) rfl ?_
          have hw : fwF tp tl 97 0 = -1 := by rw [x8, fwF_end (by omega), if_neg (by have := x4; have := x5; have e9 : 4 * j ≤ x := x4; omega)]
          have emv : mvA tp tl (k, f, c, n, kp, l, p, t, d) = (runF tp tl 97 0 0 (k, f, c, n, kp, l, p, t, d)).1 := by unfold mvA; rw [if_neg (by omega)]
          have esv : 0 ≤ mvA tp tl (k, f, c, n, kp, l, p, t, d) → mvS tp tl (k, f, c, n, kp, l, p, t, d) = (runF tp tl 97 0 0 (k, f, c, n, kp, l, p, t, d)).2 := fun z => if_pos z
          have hxt : tl ≤ psF tp j := by omega
          clear x4 x5
          have lq : ∀ (j2 e : Nat) (s : moT) (sh2 : List Int) (so2 : List Int) (st2 : Int), e + j2 = j → (sh2.length = 7) → (so2.length = 7) → (bOKs s) → (runF tp tl 97 0 0 (k, f, c, n, kp, l, p, t, d) = runF tp tl (97 - e) (psF tp e) (e : Int) s) → AW mX8_moor 9 0 0 N none (fun rv h2 => rv = some (.inl (mvA tp tl (k, f, c, n, kp, l, p, t, d))) ∧ mSt imt tc (mvS tp tl (k, f, c, n, kp, l, p, t, d)).1 (mvS tp tl (k, f, c, n, kp, l, p, t, d)).2.1 (mvS tp tl (k, f, c, n, kp, l, p, t, d)).2.2.1 (mvS tp tl (k, f, c, n, kp, l, p, t, d)).2.2.2.1 (mvS tp tl (k, f, c, n, kp, l, p, t, d)).2.2.2.2.1 (mvS tp tl (k, f, c, n, kp, l, p, t, d)).2.2.2.2.2.1 (mvS tp tl (k, f, c, n, kp, l, p, t, d)).2.2.2.2.2.2.1 (mvS tp tl (k, f, c, n, kp, l, p, t, d)).2.2.2.2.2.2.2.1 (mvS tp tl (k, f, c, n, kp, l, p, t, d)).2.2.2.2.2.2.2.2 to re 0 tp I A0 A1 A2 A3 A4 A5 h2) (86, [some (.inr 192), some (.inl 1), some (.inl (e : Int))], [], [A0, A1, A2, A3, A4, A5, (modSeg re (s.1) (s.2.1) (s.2.2.1) (s.2.2.2.1) (s.2.2.2.2.1) (s.2.2.2.2.2.1) tp le1 la1 td1 kt2 sh2 so2 had gr fi se to (s.2.2.2.2.2.2.1 : Int) (s.2.2.2.2.2.2.2.1) (s.2.2.2.2.2.2.2.2) 0 (x : Int) (j : Int) imt 1 177 0 st2 (tc : Int))]) := by
            intro j2
            induction j2 with
            | zero =>
              intro e s sh2 so2 st2 hij2 z1 z2 hs x4
              obtain rfl : j = e := by omega
              refine aGo okX8_moor 3 (f' := (91, [some (.inr 192), some (.inl 1), some (.inl (j : Int))], [.inl (j : Int), .inl (j : Int)], _)) rfl ?_
              refine b_ge (tgt := 128) okX8_moor rfl rfl ⟨by omega, by omega⟩ ⟨by omega, by omega⟩ (fun h91 => ?_) (fun h91 => absurd h91 (by omega))
              refine aGo okX8_moor 2 (f' := (132, [some (.inr 192), some (.inl 1), some (.inl (j : Int))], [.inl (j : Int)], _)) rfl ?_
              exact b_ret (v := (some (.inl (j : Int)))) ⟨rfl, Or.inl rfl⟩ ⟨congrArg (fun q : Int => (some (.inl q) : Option aV)) (by rw [emv, x4, runF_end hxt]), by rw [esv (by rw [emv, x4, runF_end hxt]; simp only; omega), x4, runF_end hxt]; exact mSt_of (tl := 0) hs.1 hs.2.1 ⟨htp, rtp, Nat.zero_le _, hto, rto, htc, hre⟩ hs.2.2 ⟨x1, x2, x3, lkt2, z1, z2, hha, hgr, hfi, hse⟩ (mim_of him (fun q hq => ekt2 q (Or.inl hq)))⟩ rfl
            | succ j2 ih2 =>
              intro e s sh2 so2 st2 hij2 z1 z2 hs x4
              have hpe := x7 e (by omega)
              have hpl := hpe.1.2.1
              have hp4 := tx_two _ hpe.1.1
              refine aGo okX8_moor 3 (f' := (91, [some (.inr 192), some (.inl 1), some (.inl (e : Int))], [.inl (j : Int), .inl (e : Int)], _)) rfl ?_
              refine b_ge (tgt := 128) okX8_moor rfl rfl ⟨by omega, by omega⟩ ⟨by omega, by omega⟩ (fun h91 => absurd h91 (by omega)) (fun h91 => ?_)
              refine aGo okX8_moor 2 (f' := (96, [some (.inr 192), some (.inl 1), some (.inl (e : Int))], [.inl (e : Int), .inr 192], _)) rfl ?_
              by_cases hc96 : sayB tp (psF tp e) s = true
              · refine b_vE (as := [.inl (e : Int)]) (rest := []) (k := 192) okX8_moor rfl lkX8_148 caX8_comes (Nat.le_of_ble_eq_true rfl) rfl (Nat.le_of_ble_eq_true rfl) rfl rfl rfl (c_comes_t hs z1 z2 x3 x1 (e := e) (x := psF tp e) (by omega) hpe.1 hpe.2.1 hpe.2.2.2 hc96) ?_
                rintro _ _ ⟨rfl, sh3, so3, st3, lsh3, lso3, hs3, rfl⟩
                refine b0_eq (tgt := 105) okX8_moor rfl rfl ⟨by omega, by omega⟩ (fun h99 => absurd h99 (by omega)) (fun h99 => ?_)
                refine aGo okX8_moor 3 (f' := (86, [some (.inr 192), some (.inl 1), some (.inl ((e : Int) + 1))], [], _)) rfl ?_
                exact ih2 (e + 1) _ _ _ _ (by omega) lsh3 lso3 hs3 (by rw [x4, show 97 - e = 96 - e + 1 by omega, runF_t (by omega) hc96, show 96 - e = 97 - (e + 1) by omega]; rfl)
              · refine b_vE (as := [.inl (e : Int)]) (rest := []) (k := 192) okX8_moor rfl lkX8_148 caX8_comes (Nat.le_of_ble_eq_true rfl) rfl (Nat.le_of_ble_eq_true rfl) rfl rfl rfl (c_comes_f hs z1 z2 x3 x1 (e := e) (x := psF tp e) (by omega) hpe.1 hpe.2.1 hpe.2.2.2 hc96) ?_
                rintro _ _ ⟨rfl, sh3, so3, st3, lsh3, lso3, hs3, rfl⟩
                refine b0_eq (tgt := 105) okX8_moor rfl rfl ⟨by omega, by omega⟩ (fun h99 => ?_) (fun h99 => absurd h99 (by omega))
                refine aGo okX8_moor 3 (f' := (108, [some (.inr 192), some (.inl 1), some (.inl (e : Int))], [.inl 0, .inl 1, .inr 192], _)) rfl ?_
                obtain ⟨g1, g2, g3, g4, g5, g6, g7, -⟩ := id hs.2.2
                refine b_vE (as := [.inl 1, .inl 0]) (rest := []) (k := 192) okX8_moor rfl lkX8_144 caX8_passesAll (Nat.le_of_ble_eq_true rfl) rfl (Nat.le_of_ble_eq_true rfl) rfl rfl rfl (c_all_1b g2 g3 g4 g5 g6 g7 hk hf hc hn hkp hl lkt2 hh2) ?_
                rintro _ _ ⟨rfl, rfl⟩
                refine aGo okX8_moor 4 (f' := (119, [some (.inr 192), some (.inl 1), some (.inl (e : Int))], [.inl (e : Int), .inr 202, .inl (-2000)], _)) rfl ?_
                refine b_ald (k := 202) (j := e) (a := la1) okX8_moor rfl rfl (by omega) (by omega) (by omega) ?_
                refine aGo okX8_moor 1 (f' := (121, [some (.inr 192), some (.inl 1), some (.inl (e : Int))], [.inl ((-2000) - (la1.getD e 0))], _)) rfl ?_
                exact b_ret (v := (some (.inl ((-2000) - (la1.getD e 0))))) ⟨rfl, Or.inl rfl⟩ ⟨congrArg (fun q : Int => (some (.inl q) : Option aV)) (by rw [emv, x4, show 97 - e = 96 - e + 1 by omega, runF_f (by omega) hc96, hpe.2.2.1]), by rw [mvS_f (by rw [emv, x4, show 97 - e = 96 - e + 1 by omega, runF_f (by omega) hc96]; simp only; omega)]; exact mSt_of (tl := 0) hp6 hd9 ⟨htp, rtp, Nat.zero_le _, hto, rto, htc, hre⟩ hb ⟨x1, x2, x3, lkt2, lsh3, lso3, hha, hgr, hfi, hse⟩ (mim_of him (fun q hq => ekt2 q (Or.inl hq)))⟩ rfl
          exact lq j 0 (k, f, c, n, kp, l, p, t, d) sh so st (by omega) hsh hso ⟨hp6, hd9, hb⟩ rfl
        · refine aGo okX8_moor 1 (f' := (35, [some (.inr 192), some (.inl 1), none], [.inr 192], _)) rfl ?_
          by_cases hc35 : wfS tp tl x
          · refine b_vE (as := []) (rest := []) (k := 192) okX8_moor rfl lkX8_140 caX8_statement (Nat.le_of_ble_eq_true rfl) rfl (Nat.le_of_ble_eq_true rfl) rfl rfl rfl (c_stm_t htp htl9 rtp x3 x1 x2 (x := x) (j := j) (by omega) (by omega) hc35) ?_
            rintro _ _ ⟨rfl, le2, la2, td2, lle2, lla2, ltd2, ele2, ela2, otd2, etd2, rfl⟩
            refine aGo okX8_moor 5 (f' := (45, [some (.inr 192), some (.inl 1), none], [.inl 1, .inl (j : Int), .inr 192], _)) rfl ?_
            refine b0_eq (tgt := 52) okX8_moor rfl rfl ⟨by omega, by omega⟩ (fun h45 => absurd h45 (by omega)) (fun h45 => ?_)
            refine aGo okX8_moor 5 (f' := (12, [some (.inr 192), some (.inl 1), none], [], [A0, A1, A2, A3, A4, A5, (modSeg re k f c n kp l tp le2 la2 td2 kt sh so had gr fi se to (p : Int) t d (tl : Int) ((x + aTxLen.getD (fmI (tp.getD x 0)) 0) : Int) ((j : Int) + 1) imt ik cu 0 st (tc : Int))])) rfl ?_
            have h4 := (tx_two _ hc35.1).2
            have h5 := hc35.2.1
            have hps : x + aTxLen.getD (fmI (tp.getD x 0)) 0 = psF tp (j + 1) := by show _ = psF tp j + aTxLen.getD (fmI (tp.getD (psF tp j) 0)) 0; rw [← x6]
            refine ih (j + 1) (x + aTxLen.getD (fmI (tp.getD x 0)) 0) le2 la2 td2 (by omega) lle2 lla2 ltd2 (by omega) (by omega) hps (fun e he => ?_) (by rw [x8, show 97 - j = 96 - j + 1 by omega, fwF_good hc35, show 96 - j = 97 - (j + 1) by omega])
            by_cases hej : e = j
            · subst hej
              rw [← x6]
              exact ⟨hc35, by rw [ele2, if_pos rfl], by rw [ela2, if_pos rfl], otd2⟩
            · have hpe := x7 e (by omega)
              exact ⟨hpe.1, by rw [ele2, if_neg hej]; exact hpe.2.1, by rw [ela2, if_neg hej]; exact hpe.2.2.1, tdOK_of hpe.2.2.2 (fun q q1 q2 => etd2 q (by omega))⟩
          · refine b_vE (as := []) (rest := []) (k := 192) okX8_moor rfl lkX8_140 caX8_statement (Nat.le_of_ble_eq_true rfl) rfl (Nat.le_of_ble_eq_true rfl) rfl rfl rfl (c_stm_f htp htl9 rtp x3 x1 x2 (x := x) (j := j) (by omega) (by omega) (s := 96 - j) (by omega) hc35) ?_
            rintro _ _ ⟨rfl, y, le2, la2, td2, ey, lle2, lla2, ltd2, rfl⟩
            refine aGo okX8_moor 5 (f' := (45, [some (.inr 192), some (.inl 0), none], [.inl 0, .inl (j : Int), .inr 192], _)) rfl ?_
            refine b0_eq (tgt := 52) okX8_moor rfl rfl ⟨by omega, by omega⟩ (fun h45 => ?_) (fun h45 => absurd h45 (by omega))
            refine aGo okX8_moor 4 (f' := (12, [some (.inr 192), some (.inl 0), none], [], [A0, A1, A2, A3, A4, A5, (modSeg re k f c n kp l tp le2 la2 td2 kt sh so had gr fi se to (p : Int) t d (tl : Int) (y : Int) ((j : Int) + 0) imt ik cu 0 st (tc : Int))])) rfl ?_
            have hmv : mvA tp tl (k, f, c, n, kp, l, p, t, d) = -1000 - (y : Int) := by unfold mvA; rw [x8, show 97 - j = 96 - j + 1 by omega, ey, if_pos (by omega)]
            refine aGo okX8_moor 1 (f' := (13, [some (.inr 192), some (.inl 0), none], [.inl 0], _)) rfl ?_
            refine b0_eq (tgt := 60) okX8_moor rfl rfl ⟨by omega, by omega⟩ (fun h13 => ?_) (fun h13 => absurd h13 (by omega))
            refine aGo okX8_moor 4 (f' := (66, [some (.inr 192), some (.inl 0), none], [.inl 0], [A0, A1, A2, A3, A4, A5, (modSeg re k f c n kp l tp le2 la2 td2 kt sh so had gr fi se to (p : Int) t d 0 (y : Int) ((j : Int) + 0) imt ik cu 0 st (tc : Int))])) rfl ?_
            refine b0_ne (tgt := 78) okX8_moor rfl rfl ⟨by omega, by omega⟩ (fun h66 => absurd h66 (by omega)) (fun h66 => ?_)
            refine aGo okX8_moor 4 (f' := (77, [some (.inr 192), some (.inl 0), none], [.inl ((-1000) - (y : Int))], _)) rfl ?_
            exact b_ret (v := (some (.inl ((-1000) - (y : Int))))) ⟨rfl, Or.inl rfl⟩ ⟨congrArg (fun q : Int => (some (.inl q) : Option aV)) (by rw [hmv]), by rw [mvS_f (by rw [hmv]; omega)]; exact mSt_of (tl := 0) hp6 hd9 ⟨htp, rtp, Nat.zero_le _, hto, rto, htc, hre⟩ hb ⟨lle2, lla2, ltd2, hkt, hsh, hso, hha, hgr, hfi, hse⟩ him⟩ rfl
  exact lp 25 0 0 le la td (by omega) hle hla htd (by omega) (by omega) rfl (fun e he => by omega) rfl
