/-! The reference: what it is, what it refuses; laid by gen_mod4.py -/
def mlOK (le la td kt sh so had gr fi se : List Int) : Prop := le.length = 48 ∧ la.length = 48 ∧ td.length = 192 ∧ kt.length = 270 ∧ sh.length = 7 ∧ so.length = 7 ∧ had.length = 7 ∧ gr.length = 64 ∧ fi.length = 25 ∧ se.length = 25
/-- an image, as the reference keeps it -/
def mimOK (kt : List Int) (I : moT) : Prop := I.2.2.2.2.2.2.1 ≤ 6 ∧ I.2.2.2.2.2.2.2.2 ≤ 999 ∧ bOK I.2.2.2.2.2.2.1 I.1 I.2.1 I.2.2.1 I.2.2.2.1 I.2.2.2.2.1 I.2.2.2.2.2.1 I.2.2.2.2.2.2.2.1 I.2.2.2.2.2.2.2.2 ∧ hld 0 kt I.1 I.2.1 I.2.2.1 I.2.2.2.1 I.2.2.2.2.1 I.2.2.2.2.2.1 (I.2.2.2.2.2.2.1 : Int) I.2.2.2.2.2.2.2.1 I.2.2.2.2.2.2.2.2
/-- the reference's block, behind the class's six -/
def mSt (imt : Int) (tc : Nat) (k f c n kp l : List Int) (p : Nat) (t d : Int) (to re : List Int) (tl : Nat) (tp : List Int) (I : moT) (A0 A1 A2 A3 A4 A5 : List (Option aE)) (h : aH) : Prop :=
  p ≤ 6 ∧ d ≤ 999 ∧ auxOK tc to re tl tp ∧ bOK p k f c n kp l t d ∧ ∃ (le la td kt sh so had gr fi se : List Int) (at_ sn ik cu st : Int),
    mlOK le la td kt sh so had gr fi se ∧ (imt = 0 ∨ imt = 1 ∧ mimOK kt I) ∧ h = [A0, A1, A2, A3, A4, A5, modSeg re k f c n kp l tp le la td kt sh so had gr fi se to (p : Int) t d (tl : Int) at_ sn imt ik cu 0 st (tc : Int)]
theorem mSt_of {imt : Int} {tc : Nat} {k f c n kp l : List Int} {p : Nat} {t d : Int} {to re : List Int} {tl : Nat} {tp : List Int} {I : moT} {A0 A1 A2 A3 A4 A5 : List (Option aE)} {le la td kt sh so had gr fi se : List Int} {at_ sn ik cu st : Int}
    (h1 : p ≤ 6) (h2 : d ≤ 999) (h3 : auxOK tc to re tl tp) (h4 : bOK p k f c n kp l t d) (h5 : mlOK le la td kt sh so had gr fi se) (h6 : imt = 0 ∨ imt = 1 ∧ mimOK kt I) :
    mSt imt tc k f c n kp l p t d to re tl tp I A0 A1 A2 A3 A4 A5 [A0, A1, A2, A3, A4, A5, modSeg re k f c n kp l tp le la td kt sh so had gr fi se to (p : Int) t d (tl : Int) at_ sn imt ik cu 0 st (tc : Int)] :=
  ⟨h1, h2, h3, h4, le, la, td, kt, sh, so, had, gr, fi, se, at_, sn, ik, cu, st, h5, h6, rfl⟩
theorem mim_of {kt kt2 : List Int} {imt : Int} {I : moT} (h : imt = 0 ∨ imt = 1 ∧ mimOK kt I) (e : ∀ j, j < 90 → kt2.getD j 0 = kt.getD j 0) : imt = 0 ∨ imt = 1 ∧ mimOK kt2 I :=
  h.imp id fun z => ⟨z.1, z.2.1, z.2.2.1, z.2.2.2.1, hld_of z.2.2.2.2 (fun j hj => e j (by omega))⟩
set_option maxRecDepth 100000 in
set_option maxHeartbeats 4000000 in
theorem mr_letter {imt : Int} {tc : Nat} {k f c n kp l : List Int} {p : Nat} {t d : Int} {to re : List Int} {tl : Nat} {tp : List Int} {I : moT} {A0 A1 A2 A3 A4 A5 : List (Option aE)} {h : aH} {N : Nat} (hS : mSt imt tc k f c n kp l p t d to re tl tp I A0 A1 A2 A3 A4 A5 h) {x : Int} (hx : aI x) (hw0 : (wy_letter tl x) ≠ 0) : aEv mX8_letter 1 0 0 N [.inr 192, .inl x] h (fun rv h2 => rv = some (.inl ((wy_letter tl x))) ∧ mSt imt tc k f c n kp l p t d to (bump re (wy_letter tl x)) tl tp I A0 A1 A2 A3 A4 A5 h2) := by
  obtain ⟨hp6, hd9, hax, hb, le, la, td, kt, sh, so, had, gr, fi, se, at_, sn, ik, cu, st, hml, him, rfl⟩ := hS
  obtain ⟨htp, rtp, htl9, hto, rto, htc, hre⟩ := id hax
  obtain ⟨hle, hla, htd, hkt, hsh, hso, hha, hgr, hfi, hse⟩ := id hml
  obtain ⟨hp7, hk, hf, hc, hn, hkp, hl, rk, rf, rc, rn, rkp, rl, ht0, ht1, hd0, hd1⟩ := id hb
  obtain ⟨hx1, hx2⟩ := hx
  refine aEv_of okX8_letter caX8_letter (Nat.le_of_ble_eq_true rfl) ?_
  refine aGo okX8_letter 3 (f' := (5, [some (.inr 192), some (.inl x), none], [.inl 255, .inl 0, .inl x], _)) rfl ?_
  rcases (show (x < 0) ∨ (255 < x) ∨ (0 ≤ x ∧ x ≤ 255) from by omega) with hc5 | hc5 | hc5
  · refine b_vS (as := [.inl x, .inl 0, .inl 255]) (rest := []) (.inl (-4)) okX8_letter rfl lkX8_79 caX8_bound (Nat.le_of_ble_eq_true rfl) rfl (Nat.le_of_ble_eq_true rfl) rfl (c_bound_l ⟨by omega, by omega⟩ ⟨by omega, by omega⟩ ⟨by omega, by omega⟩ hc5) ?_
    refine aGo okX8_letter 2 (f' := (10, [some (.inr 192), some (.inl x), some (.inl (-4))], [.inl (-4)], _)) rfl ?_
    refine b0_ne (tgt := 25) okX8_letter rfl rfl ⟨by omega, by omega⟩ (fun h10 => ?_) (fun h10 => absurd h10 (by omega))
    refine aGo okX8_letter 1 (f' := (26, [some (.inr 192), some (.inl x), some (.inl (-4))], [.inl (-4)], _)) rfl ?_
    refine b0_eq (tgt := 35) okX8_letter rfl rfl ⟨by omega, by omega⟩ (fun h26 => absurd h26 (by omega)) (fun h26 => ?_)
    refine aGo okX8_letter 2 (f' := (31, [some (.inr 192), some (.inl x), some (.inl (-4))], [.inl (-4), .inr 192], _)) rfl ?_
    refine b_vE (as := [.inl (-4)]) (rest := []) (k := 192) okX8_letter rfl lkX8_86 caX8_no (Nat.le_of_ble_eq_true rfl) rfl (Nat.le_of_ble_eq_true rfl) rfl rfl rfl (c_no_4 hre) ?_
    rintro _ _ ⟨rfl, rfl⟩
    have hw : (wy_letter tl x) = -4 := by unfold wy_letter; (repeat' split) <;> omega
    exact b_ret (v := (some (.inl (-4)))) ⟨rfl, Or.inl rfl⟩ ⟨by rw [hw]; first | done | rfl, by rw [hw, bump_4]; exact mSt_of hp6 hd9 ⟨htp, rtp, htl9, hto, rto, htc, by rw [List.length_set]; exact hre⟩ hb hml him⟩ rfl
  · refine b_vS (as := [.inl x, .inl 0, .inl 255]) (rest := []) (.inl (-6)) okX8_letter rfl lkX8_79 caX8_bound (Nat.le_of_ble_eq_true rfl) rfl (Nat.le_of_ble_eq_true rfl) rfl (c_bound_h ⟨by omega, by omega⟩ ⟨by omega, by omega⟩ ⟨by omega, by omega⟩ (by omega) hc5) ?_
    refine aGo okX8_letter 2 (f' := (10, [some (.inr 192), some (.inl x), some (.inl (-6))], [.inl (-6)], _)) rfl ?_
    refine b0_ne (tgt := 25) okX8_letter rfl rfl ⟨by omega, by omega⟩ (fun h10 => ?_) (fun h10 => absurd h10 (by omega))
    refine aGo okX8_letter 1 (f' := (26, [some (.inr 192), some (.inl x), some (.inl (-6))], [.inl (-6)], _)) rfl ?_
    refine b0_eq (tgt := 35) okX8_letter rfl rfl ⟨by omega, by omega⟩ (fun h26 => absurd h26 (by omega)) (fun h26 => ?_)
    refine aGo okX8_letter 2 (f' := (31, [some (.inr 192), some (.inl x), some (.inl (-6))], [.inl (-6), .inr 192], _)) rfl ?_
    refine b_vE (as := [.inl (-6)]) (rest := []) (k := 192) okX8_letter rfl lkX8_86 caX8_no (Nat.le_of_ble_eq_true rfl) rfl (Nat.le_of_ble_eq_true rfl) rfl rfl rfl (c_no_6 hre) ?_
    rintro _ _ ⟨rfl, rfl⟩
    have hw : (wy_letter tl x) = -6 := by unfold wy_letter; (repeat' split) <;> omega
    exact b_ret (v := (some (.inl (-6)))) ⟨rfl, Or.inl rfl⟩ ⟨by rw [hw]; first | done | rfl, by rw [hw, bump_6]; exact mSt_of hp6 hd9 ⟨htp, rtp, htl9, hto, rto, htc, by rw [List.length_set]; exact hre⟩ hb hml him⟩ rfl
  · refine b_vS (as := [.inl x, .inl 0, .inl 255]) (rest := []) (.inl 0) okX8_letter rfl lkX8_79 caX8_bound (Nat.le_of_ble_eq_true rfl) rfl (Nat.le_of_ble_eq_true rfl) rfl (c_bound_m ⟨by omega, by omega⟩ ⟨by omega, by omega⟩ ⟨by omega, by omega⟩ hc5) ?_
    refine aGo okX8_letter 2 (f' := (10, [some (.inr 192), some (.inl x), some (.inl 0)], [.inl 0], _)) rfl ?_
    refine b0_ne (tgt := 25) okX8_letter rfl rfl ⟨by omega, by omega⟩ (fun h10 => absurd h10 (by omega)) (fun h10 => ?_)
    refine aGo okX8_letter 3 (f' := (19, [some (.inr 192), some (.inl x), some (.inl 0)], [.inl 96, .inl (tl : Int)], _)) rfl ?_
    refine b_ne (tgt := 25) okX8_letter rfl rfl ⟨by omega, by omega⟩ ⟨by omega, by omega⟩ (fun h19 => ?_) (fun h19 => ?_)
    · refine aGo okX8_letter 1 (f' := (26, [some (.inr 192), some (.inl x), some (.inl 0)], [.inl 0], _)) rfl ?_
      refine b0_eq (tgt := 35) okX8_letter rfl rfl ⟨by omega, by omega⟩ (fun h26 => ?_) (fun h26 => absurd h26 (by omega))
      exact absurd (by unfold wy_letter; (repeat' split) <;> omega) hw0
    · refine aGo okX8_letter 3 (f' := (26, [some (.inr 192), some (.inl x), some (.inl (-6))], [.inl (-6)], _)) rfl ?_
      refine b0_eq (tgt := 35) okX8_letter rfl rfl ⟨by omega, by omega⟩ (fun h26 => absurd h26 (by omega)) (fun h26 => ?_)
      refine aGo okX8_letter 2 (f' := (31, [some (.inr 192), some (.inl x), some (.inl (-6))], [.inl (-6), .inr 192], _)) rfl ?_
      refine b_vE (as := [.inl (-6)]) (rest := []) (k := 192) okX8_letter rfl lkX8_86 caX8_no (Nat.le_of_ble_eq_true rfl) rfl (Nat.le_of_ble_eq_true rfl) rfl rfl rfl (c_no_6 hre) ?_
      rintro _ _ ⟨rfl, rfl⟩
      have hw : (wy_letter tl x) = -6 := by unfold wy_letter; (repeat' split) <;> omega
      exact b_ret (v := (some (.inl (-6)))) ⟨rfl, Or.inl rfl⟩ ⟨by rw [hw]; first | done | rfl, by rw [hw, bump_6]; exact mSt_of hp6 hd9 ⟨htp, rtp, htl9, hto, rto, htc, by rw [List.length_set]; exact hre⟩ hb hml him⟩ rfl
set_option maxRecDepth 100000 in
set_option maxHeartbeats 4000000 in
theorem mr_person {imt : Int} {tc : Nat} {k f c n kp l : List Int} {p : Nat} {t d : Int} {to re : List Int} {tl : Nat} {tp : List Int} {I : moT} {A0 A1 A2 A3 A4 A5 : List (Option aE)} {h : aH} {N : Nat} (hS : mSt imt tc k f c n kp l p t d to re tl tp I A0 A1 A2 A3 A4 A5 h) {x : Int} (hx : aI x) {y : Int} (hy : aI y) (hw0 : (wy_person p x y) ≠ 0) : aEv mX8_person 6 0 0 N [.inr 192, .inl x, .inl y] h (fun rv h2 => rv = some (.inl ((wy_person p x y))) ∧ mSt imt tc k f c n kp l p t d to (bump re (wy_person p x y)) tl tp I A0 A1 A2 A3 A4 A5 h2) := by
  obtain ⟨hp6, hd9, hax, hb, le, la, td, kt, sh, so, had, gr, fi, se, at_, sn, ik, cu, st, hml, him, rfl⟩ := hS
  obtain ⟨htp, rtp, htl9, hto, rto, htc, hre⟩ := id hax
  obtain ⟨hle, hla, htd, hkt, hsh, hso, hha, hgr, hfi, hse⟩ := id hml
  obtain ⟨hp7, hk, hf, hc, hn, hkp, hl, rk, rf, rc, rn, rkp, rl, ht0, ht1, hd0, hd1⟩ := id hb
  obtain ⟨hx1, hx2⟩ := hx
  obtain ⟨hy1, hy2⟩ := hy
  refine aEv_of okX8_person caX8_person (Nat.le_of_ble_eq_true rfl) ?_
  refine aGo okX8_person 2 (f' := (2, [some (.inr 192), some (.inl x), some (.inl y)], [.inl x, .inr 192], _)) rfl ?_
  by_cases hc2 : 0 ≤ x ∧ x < (p : Int)
  · refine b_vV (as := [.inl x]) (rest := []) (k := 192) (.inl 1) okX8_person rfl lkX8_75 caX8_isOne (Nat.le_of_ble_eq_true rfl) rfl (Nat.le_of_ble_eq_true rfl) rfl rfl rfl (c_isOne_t hp7 hc2) ?_
    refine b0_ne (tgt := 14) okX8_person rfl rfl ⟨by omega, by omega⟩ (fun h5 => ?_) (fun h5 => absurd h5 (by omega))
    refine aGo okX8_person 1 (f' := (15, [some (.inr 192), some (.inl x), some (.inl y)], [.inl y], _)) rfl ?_
    by_cases hs15 : 0 ≤ y ∧ y ≤ 6
    · have hsx := (show y = 0 ∨ y = 1 ∨ y = 2 ∨ y = 3 ∨ y = 4 ∨ y = 5 ∨ y = 6 from by omega)
      rcases hsx with hsw | hsw | hsw | hsw | hsw | hsw | hsw
      · refine b_cast (f' := (15, [some (.inr 192), some (.inl x), some (.inl y)], [.inl 0], [A0, A1, A2, A3, A4, A5, (modSeg re k f c n kp l tp le la td kt sh so had gr fi se to (p : Int) t d (tl : Int) at_ sn imt ik cu 0 st (tc : Int))])) (congrArg (fun zz : Int => ((15, [some (.inr 192), some (.inl x), some (.inl y)], .inl zz :: [], [A0, A1, A2, A3, A4, A5, (modSeg re k f c n kp l tp le la td kt sh so had gr fi se to (p : Int) t d (tl : Int) at_ sn imt ik cu 0 st (tc : Int))]) : aF)) hsw) ?_
        refine b_swIn (tgt := 56) okX8_person rfl ⟨by decide, by decide⟩ (by decide) (by decide) rfl rfl ?_
        exact absurd (by unfold wy_person; (repeat' split) <;> omega) hw0
      · refine b_cast (f' := (15, [some (.inr 192), some (.inl x), some (.inl y)], [.inl 1], [A0, A1, A2, A3, A4, A5, (modSeg re k f c n kp l tp le la td kt sh so had gr fi se to (p : Int) t d (tl : Int) at_ sn imt ik cu 0 st (tc : Int))])) (congrArg (fun zz : Int => ((15, [some (.inr 192), some (.inl x), some (.inl y)], .inl zz :: [], [A0, A1, A2, A3, A4, A5, (modSeg re k f c n kp l tp le la td kt sh so had gr fi se to (p : Int) t d (tl : Int) at_ sn imt ik cu 0 st (tc : Int))]) : aF)) hsw) ?_
        refine b_swIn (tgt := 63) okX8_person rfl ⟨by decide, by decide⟩ (by decide) (by decide) rfl rfl ?_
        exact absurd (by unfold wy_person; (repeat' split) <;> omega) hw0
      · refine b_cast (f' := (15, [some (.inr 192), some (.inl x), some (.inl y)], [.inl 2], [A0, A1, A2, A3, A4, A5, (modSeg re k f c n kp l tp le la td kt sh so had gr fi se to (p : Int) t d (tl : Int) at_ sn imt ik cu 0 st (tc : Int))])) (congrArg (fun zz : Int => ((15, [some (.inr 192), some (.inl x), some (.inl y)], .inl zz :: [], [A0, A1, A2, A3, A4, A5, (modSeg re k f c n kp l tp le la td kt sh so had gr fi se to (p : Int) t d (tl : Int) at_ sn imt ik cu 0 st (tc : Int))]) : aF)) hsw) ?_
        refine b_swIn (tgt := 70) okX8_person rfl ⟨by decide, by decide⟩ (by decide) (by decide) rfl rfl ?_
        exact absurd (by unfold wy_person; (repeat' split) <;> omega) hw0
      · refine b_cast (f' := (15, [some (.inr 192), some (.inl x), some (.inl y)], [.inl 3], [A0, A1, A2, A3, A4, A5, (modSeg re k f c n kp l tp le la td kt sh so had gr fi se to (p : Int) t d (tl : Int) at_ sn imt ik cu 0 st (tc : Int))])) (congrArg (fun zz : Int => ((15, [some (.inr 192), some (.inl x), some (.inl y)], .inl zz :: [], [A0, A1, A2, A3, A4, A5, (modSeg re k f c n kp l tp le la td kt sh so had gr fi se to (p : Int) t d (tl : Int) at_ sn imt ik cu 0 st (tc : Int))]) : aF)) hsw) ?_
        refine b_swIn (tgt := 77) okX8_person rfl ⟨by decide, by decide⟩ (by decide) (by decide) rfl rfl ?_
        exact absurd (by unfold wy_person; (repeat' split) <;> omega) hw0
      · refine b_cast (f' := (15, [some (.inr 192), some (.inl x), some (.inl y)], [.inl 4], [A0, A1, A2, A3, A4, A5, (modSeg re k f c n kp l tp le la td kt sh so had gr fi se to (p : Int) t d (tl : Int) at_ sn imt ik cu 0 st (tc : Int))])) (congrArg (fun zz : Int => ((15, [some (.inr 192), some (.inl x), some (.inl y)], .inl zz :: [], [A0, A1, A2, A3, A4, A5, (modSeg re k f c n kp l tp le la td kt sh so had gr fi se to (p : Int) t d (tl : Int) at_ sn imt ik cu 0 st (tc : Int))]) : aF)) hsw) ?_
        refine b_swIn (tgt := 84) okX8_person rfl ⟨by decide, by decide⟩ (by decide) (by decide) rfl rfl ?_
        exact absurd (by unfold wy_person; (repeat' split) <;> omega) hw0
      · refine b_cast (f' := (15, [some (.inr 192), some (.inl x), some (.inl y)], [.inl 5], [A0, A1, A2, A3, A4, A5, (modSeg re k f c n kp l tp le la td kt sh so had gr fi se to (p : Int) t d (tl : Int) at_ sn imt ik cu 0 st (tc : Int))])) (congrArg (fun zz : Int => ((15, [some (.inr 192), some (.inl x), some (.inl y)], .inl zz :: [], [A0, A1, A2, A3, A4, A5, (modSeg re k f c n kp l tp le la td kt sh so had gr fi se to (p : Int) t d (tl : Int) at_ sn imt ik cu 0 st (tc : Int))]) : aF)) hsw) ?_
        refine b_swIn (tgt := 91) okX8_person rfl ⟨by decide, by decide⟩ (by decide) (by decide) rfl rfl ?_
        exact absurd (by unfold wy_person; (repeat' split) <;> omega) hw0
      · refine b_cast (f' := (15, [some (.inr 192), some (.inl x), some (.inl y)], [.inl 6], [A0, A1, A2, A3, A4, A5, (modSeg re k f c n kp l tp le la td kt sh so had gr fi se to (p : Int) t d (tl : Int) at_ sn imt ik cu 0 st (tc : Int))])) (congrArg (fun zz : Int => ((15, [some (.inr 192), some (.inl x), some (.inl y)], .inl zz :: [], [A0, A1, A2, A3, A4, A5, (modSeg re k f c n kp l tp le la td kt sh so had gr fi se to (p : Int) t d (tl : Int) at_ sn imt ik cu 0 st (tc : Int))]) : aF)) hsw) ?_
        refine b_swIn (tgt := 97) okX8_person rfl ⟨by decide, by decide⟩ (by decide) (by decide) rfl rfl ?_
        exact absurd (by unfold wy_person; (repeat' split) <;> omega) hw0
    · refine b_swOut (tgt := 108) okX8_person rfl ⟨by omega, by omega⟩ (by omega) rfl ?_
      refine aGo okX8_person 2 (f' := (111, [some (.inr 192), some (.inl x), some (.inl y)], [.inl (-2), .inr 192], _)) rfl ?_
      refine b_vE (as := [.inl (-2)]) (rest := []) (k := 192) okX8_person rfl lkX8_86 caX8_no (Nat.le_of_ble_eq_true rfl) rfl (Nat.le_of_ble_eq_true rfl) rfl rfl rfl (c_no_2 hre) ?_
      rintro _ _ ⟨rfl, rfl⟩
      have hw : (wy_person p x y) = -2 := by unfold wy_person; (repeat' split) <;> omega
      exact b_ret (v := (some (.inl (-2)))) ⟨rfl, Or.inl rfl⟩ ⟨by rw [hw]; first | done | rfl, by rw [hw, bump_2]; exact mSt_of hp6 hd9 ⟨htp, rtp, htl9, hto, rto, htc, by rw [List.length_set]; exact hre⟩ hb hml him⟩ rfl
  · refine b_vV (as := [.inl x]) (rest := []) (k := 192) (.inl 0) okX8_person rfl lkX8_75 caX8_isOne (Nat.le_of_ble_eq_true rfl) rfl (Nat.le_of_ble_eq_true rfl) rfl rfl rfl (c_isOne_f hp7 ⟨by omega, by omega⟩ hc2) ?_
    refine b0_ne (tgt := 14) okX8_person rfl rfl ⟨by omega, by omega⟩ (fun h5 => absurd h5 (by omega)) (fun h5 => ?_)
    refine aGo okX8_person 2 (f' := (10, [some (.inr 192), some (.inl x), some (.inl y)], [.inl (-1), .inr 192], _)) rfl ?_
    refine b_vE (as := [.inl (-1)]) (rest := []) (k := 192) okX8_person rfl lkX8_86 caX8_no (Nat.le_of_ble_eq_true rfl) rfl (Nat.le_of_ble_eq_true rfl) rfl rfl rfl (c_no_1 hre) ?_
    rintro _ _ ⟨rfl, rfl⟩
    have hw : (wy_person p x y) = -1 := by unfold wy_person; (repeat' split) <;> omega
    exact b_ret (v := (some (.inl (-1)))) ⟨rfl, Or.inl rfl⟩ ⟨by rw [hw]; first | done | rfl, by rw [hw, bump_1]; exact mSt_of hp6 hd9 ⟨htp, rtp, htl9, hto, rto, htc, by rw [List.length_set]; exact hre⟩ hb hml him⟩ rfl
set_option maxRecDepth 100000 in
set_option maxHeartbeats 4000000 in
theorem mr_owns {imt : Int} {tc : Nat} {k f c n kp l : List Int} {p : Nat} {t d : Int} {to re : List Int} {tl : Nat} {tp : List Int} {I : moT} {A0 A1 A2 A3 A4 A5 : List (Option aE)} {h : aH} {N : Nat} (hS : mSt imt tc k f c n kp l p t d to re tl tp I A0 A1 A2 A3 A4 A5 h) {x : Int} (hx : aI x) (hw0 : (wy_owns p x) ≠ 0) : aEv mX8_owns 6 0 0 N [.inr 192, .inl x] h (fun rv h2 => rv = some (.inl (1000000000 - (wy_owns p x))) ∧ mSt imt tc k f c n kp l p t d to (bump re (wy_owns p x)) tl tp I A0 A1 A2 A3 A4 A5 h2) := by
  obtain ⟨hp6, hd9, hax, hb, le, la, td, kt, sh, so, had, gr, fi, se, at_, sn, ik, cu, st, hml, him, rfl⟩ := hS
  obtain ⟨htp, rtp, htl9, hto, rto, htc, hre⟩ := id hax
  obtain ⟨hle, hla, htd, hkt, hsh, hso, hha, hgr, hfi, hse⟩ := id hml
  obtain ⟨hp7, hk, hf, hc, hn, hkp, hl, rk, rf, rc, rn, rkp, rl, ht0, ht1, hd0, hd1⟩ := id hb
  obtain ⟨hx1, hx2⟩ := hx
  refine aEv_of okX8_owns caX8_owns (Nat.le_of_ble_eq_true rfl) ?_
  refine aGo okX8_owns 2 (f' := (2, [some (.inr 192), some (.inl x)], [.inl x, .inr 192], _)) rfl ?_
  by_cases hc2 : 0 ≤ x ∧ x < (p : Int)
  · refine b_vV (as := [.inl x]) (rest := []) (k := 192) (.inl 1) okX8_owns rfl lkX8_75 caX8_isOne (Nat.le_of_ble_eq_true rfl) rfl (Nat.le_of_ble_eq_true rfl) rfl rfl rfl (c_isOne_t hp7 hc2) ?_
    refine b0_ne (tgt := 14) okX8_owns rfl rfl ⟨by omega, by omega⟩ (fun h5 => ?_) (fun h5 => absurd h5 (by omega))
    exact absurd (by unfold wy_owns; (repeat' split) <;> omega) hw0
  · refine b_vV (as := [.inl x]) (rest := []) (k := 192) (.inl 0) okX8_owns rfl lkX8_75 caX8_isOne (Nat.le_of_ble_eq_true rfl) rfl (Nat.le_of_ble_eq_true rfl) rfl rfl rfl (c_isOne_f hp7 ⟨by omega, by omega⟩ hc2) ?_
    refine b0_ne (tgt := 14) okX8_owns rfl rfl ⟨by omega, by omega⟩ (fun h5 => absurd h5 (by omega)) (fun h5 => ?_)
    refine aGo okX8_owns 2 (f' := (10, [some (.inr 192), some (.inl x)], [.inl (-1), .inr 192], _)) rfl ?_
    refine b_vE (as := [.inl (-1)]) (rest := []) (k := 192) okX8_owns rfl lkX8_211 caX8_lower (Nat.le_of_ble_eq_true rfl) rfl (Nat.le_of_ble_eq_true rfl) rfl rfl rfl (c_lower_1 hre) ?_
    rintro _ _ ⟨rfl, rfl⟩
    have hw : (wy_owns p x) = -1 := by unfold wy_owns; (repeat' split) <;> omega
    exact b_ret (v := (some (.inl 1000000001))) ⟨rfl, Or.inl rfl⟩ ⟨by rw [hw]; first | done | rfl, by rw [hw, bump_1]; exact mSt_of hp6 hd9 ⟨htp, rtp, htl9, hto, rto, htc, by rw [List.length_set]; exact hre⟩ hb hml him⟩ rfl
set_option maxRecDepth 100000 in
set_option maxHeartbeats 4000000 in
theorem mr_loan {imt : Int} {tc : Nat} {k f c n kp l : List Int} {p : Nat} {t d : Int} {to re : List Int} {tl : Nat} {tp : List Int} {I : moT} {A0 A1 A2 A3 A4 A5 : List (Option aE)} {h : aH} {N : Nat} (hS : mSt imt tc k f c n kp l p t d to re tl tp I A0 A1 A2 A3 A4 A5 h) {x : Int} (hx : aI x) {y : Int} (hy : aI y) (hw0 : (wy_loan p x y) ≠ 0) : aEv mX8_loan 2 0 0 N [.inr 192, .inl x, .inl y] h (fun rv h2 => rv = some (.inl ((wy_loan p x y))) ∧ mSt imt tc k f c n kp l p t d to (bump re (wy_loan p x y)) tl tp I A0 A1 A2 A3 A4 A5 h2) := by
  obtain ⟨hp6, hd9, hax, hb, le, la, td, kt, sh, so, had, gr, fi, se, at_, sn, ik, cu, st, hml, him, rfl⟩ := hS
  obtain ⟨htp, rtp, htl9, hto, rto, htc, hre⟩ := id hax
  obtain ⟨hle, hla, htd, hkt, hsh, hso, hha, hgr, hfi, hse⟩ := id hml
  obtain ⟨hp7, hk, hf, hc, hn, hkp, hl, rk, rf, rc, rn, rkp, rl, ht0, ht1, hd0, hd1⟩ := id hb
  obtain ⟨hx1, hx2⟩ := hx
  obtain ⟨hy1, hy2⟩ := hy
  refine aEv_of okX8_loan caX8_loan (Nat.le_of_ble_eq_true rfl) ?_
  refine aGo okX8_loan 3 (f' := (3, [some (.inr 192), some (.inl x), some (.inl y)], [.inl y, .inl x, .inr 192], _)) rfl ?_
  by_cases hc3 : 0 ≤ x ∧ x < (p : Int) ∧ 0 ≤ y ∧ y < (p : Int) ∧ x ≠ y
  · refine b_vV (as := [.inl x, .inl y]) (rest := []) (k := 192) (.inl 1) okX8_loan rfl lkX8_134 caX8_areTwo (Nat.le_of_ble_eq_true rfl) rfl (Nat.le_of_ble_eq_true rfl) rfl rfl rfl (c_mTwo_t hp7 ⟨by omega, by omega⟩ ⟨by omega, by omega⟩ (by omega)) ?_
    refine b0_eq (tgt := 23) okX8_loan rfl rfl ⟨by omega, by omega⟩ (fun h6 => absurd h6 (by omega)) (fun h6 => ?_)
    exact absurd (by unfold wy_loan; (repeat' split) <;> omega) hw0
  · refine b_vV (as := [.inl x, .inl y]) (rest := []) (k := 192) (.inl 0) okX8_loan rfl lkX8_134 caX8_areTwo (Nat.le_of_ble_eq_true rfl) rfl (Nat.le_of_ble_eq_true rfl) rfl rfl rfl (c_mTwo_f hp7 ⟨by omega, by omega⟩ ⟨by omega, by omega⟩ hc3) ?_
    refine b0_eq (tgt := 23) okX8_loan rfl rfl ⟨by omega, by omega⟩ (fun h6 => ?_) (fun h6 => absurd h6 (by omega))
    refine aGo okX8_loan 2 (f' := (25, [some (.inr 192), some (.inl x), some (.inl y)], [.inl (-1), .inr 192], _)) rfl ?_
    refine b_vE (as := [.inl (-1)]) (rest := []) (k := 192) okX8_loan rfl lkX8_86 caX8_no (Nat.le_of_ble_eq_true rfl) rfl (Nat.le_of_ble_eq_true rfl) rfl rfl rfl (c_no_1 hre) ?_
    rintro _ _ ⟨rfl, rfl⟩
    have hw : (wy_loan p x y) = -1 := by unfold wy_loan; (repeat' split) <;> omega
    exact b_ret (v := (some (.inl (-1)))) ⟨rfl, Or.inl rfl⟩ ⟨by rw [hw]; first | done | rfl, by rw [hw, bump_1]; exact mSt_of hp6 hd9 ⟨htp, rtp, htl9, hto, rto, htc, by rw [List.length_set]; exact hre⟩ hb hml him⟩ rfl
set_option maxRecDepth 100000 in
set_option maxHeartbeats 4000000 in
theorem mr_go {imt : Int} {tc : Nat} {k f c n kp l : List Int} {p : Nat} {t d : Int} {to re : List Int} {tl : Nat} {tp : List Int} {I : moT} {A0 A1 A2 A3 A4 A5 : List (Option aE)} {h : aH} {N : Nat} (hS : mSt imt tc k f c n kp l p t d to re tl tp I A0 A1 A2 A3 A4 A5 h) {x : Int} (hx : aI x) {y : Int} (hy : aI y) (hw0 : (wy_go p x y) ≠ 0) : aEv mX8_go 1 0 0 N [.inr 192, .inl x, .inl y] h (fun rv h2 => rv = some (.inl ((wy_go p x y))) ∧ mSt imt tc k f c n kp l p t d to (bump re (wy_go p x y)) tl tp I A0 A1 A2 A3 A4 A5 h2) := by
  obtain ⟨hp6, hd9, hax, hb, le, la, td, kt, sh, so, had, gr, fi, se, at_, sn, ik, cu, st, hml, him, rfl⟩ := hS
  obtain ⟨htp, rtp, htl9, hto, rto, htc, hre⟩ := id hax
  obtain ⟨hle, hla, htd, hkt, hsh, hso, hha, hgr, hfi, hse⟩ := id hml
  obtain ⟨hp7, hk, hf, hc, hn, hkp, hl, rk, rf, rc, rn, rkp, rl, ht0, ht1, hd0, hd1⟩ := id hb
  obtain ⟨hx1, hx2⟩ := hx
  obtain ⟨hy1, hy2⟩ := hy
  refine aEv_of okX8_go caX8_go (Nat.le_of_ble_eq_true rfl) ?_
  refine aGo okX8_go 2 (f' := (2, [some (.inr 192), some (.inl x), some (.inl y), none], [.inl x, .inr 192], _)) rfl ?_
  by_cases hc2 : 0 ≤ x ∧ x < (p : Int)
  · refine b_vV (as := [.inl x]) (rest := []) (k := 192) (.inl 1) okX8_go rfl lkX8_75 caX8_isOne (Nat.le_of_ble_eq_true rfl) rfl (Nat.le_of_ble_eq_true rfl) rfl rfl rfl (c_isOne_t hp7 hc2) ?_
    refine b0_eq (tgt := 15) okX8_go rfl rfl ⟨by omega, by omega⟩ (fun h5 => absurd h5 (by omega)) (fun h5 => ?_)
    refine aGo okX8_go 1 (f' := (9, [some (.inr 192), some (.inl x), some (.inl y), none], [.inl y], _)) rfl ?_
    by_cases hc9 : 0 ≤ y ∧ y ≤ 35
    · refine b_vS (as := [.inl y]) (rest := []) (.inl 1) okX8_go rfl lkX8_117 caX8_isCell (Nat.le_of_ble_eq_true rfl) rfl (Nat.le_of_ble_eq_true rfl) rfl (c_mCell_t hc9) ?_
      refine b0_ne (tgt := 21) okX8_go rfl rfl ⟨by omega, by omega⟩ (fun h12 => ?_) (fun h12 => absurd h12 (by omega))
      exact absurd (by unfold wy_go; (repeat' split) <;> omega) hw0
    · refine b_vS (as := [.inl y]) (rest := []) (.inl 0) okX8_go rfl lkX8_117 caX8_isCell (Nat.le_of_ble_eq_true rfl) rfl (Nat.le_of_ble_eq_true rfl) rfl (c_mCell_f ⟨by omega, by omega⟩ hc9) ?_
      refine b0_ne (tgt := 21) okX8_go rfl rfl ⟨by omega, by omega⟩ (fun h12 => absurd h12 (by omega)) (fun h12 => ?_)
      refine aGo okX8_go 2 (f' := (17, [some (.inr 192), some (.inl x), some (.inl y), none], [.inl (-1), .inr 192], _)) rfl ?_
      refine b_vE (as := [.inl (-1)]) (rest := []) (k := 192) okX8_go rfl lkX8_86 caX8_no (Nat.le_of_ble_eq_true rfl) rfl (Nat.le_of_ble_eq_true rfl) rfl rfl rfl (c_no_1 hre) ?_
      rintro _ _ ⟨rfl, rfl⟩
      have hw : (wy_go p x y) = -1 := by unfold wy_go; (repeat' split) <;> omega
      exact b_ret (v := (some (.inl (-1)))) ⟨rfl, Or.inl rfl⟩ ⟨by rw [hw]; first | done | rfl, by rw [hw, bump_1]; exact mSt_of hp6 hd9 ⟨htp, rtp, htl9, hto, rto, htc, by rw [List.length_set]; exact hre⟩ hb hml him⟩ rfl
  · refine b_vV (as := [.inl x]) (rest := []) (k := 192) (.inl 0) okX8_go rfl lkX8_75 caX8_isOne (Nat.le_of_ble_eq_true rfl) rfl (Nat.le_of_ble_eq_true rfl) rfl rfl rfl (c_isOne_f hp7 ⟨by omega, by omega⟩ hc2) ?_
    refine b0_eq (tgt := 15) okX8_go rfl rfl ⟨by omega, by omega⟩ (fun h5 => ?_) (fun h5 => absurd h5 (by omega))
    refine aGo okX8_go 2 (f' := (17, [some (.inr 192), some (.inl x), some (.inl y), none], [.inl (-1), .inr 192], _)) rfl ?_
    refine b_vE (as := [.inl (-1)]) (rest := []) (k := 192) okX8_go rfl lkX8_86 caX8_no (Nat.le_of_ble_eq_true rfl) rfl (Nat.le_of_ble_eq_true rfl) rfl rfl rfl (c_no_1 hre) ?_
    rintro _ _ ⟨rfl, rfl⟩
    have hw : (wy_go p x y) = -1 := by unfold wy_go; (repeat' split) <;> omega
    exact b_ret (v := (some (.inl (-1)))) ⟨rfl, Or.inl rfl⟩ ⟨by rw [hw]; first | done | rfl, by rw [hw, bump_1]; exact mSt_of hp6 hd9 ⟨htp, rtp, htl9, hto, rto, htc, by rw [List.length_set]; exact hre⟩ hb hml him⟩ rfl
set_option maxRecDepth 100000 in
set_option maxHeartbeats 4000000 in
theorem mr_lend {imt : Int} {tc : Nat} {k f c n kp l : List Int} {p : Nat} {t d : Int} {to re : List Int} {tl : Nat} {tp : List Int} {I : moT} {A0 A1 A2 A3 A4 A5 : List (Option aE)} {h : aH} {N : Nat} (hS : mSt imt tc k f c n kp l p t d to re tl tp I A0 A1 A2 A3 A4 A5 h) {x : Int} (hx : aI x) {y : Int} (hy : aI y) {z : Int} (hz : aI z) (hw0 : (wy_lend p x y z) ≠ 0) : aEv mX8_lend 2 0 0 N [.inr 192, .inl x, .inl y, .inl z] h (fun rv h2 => rv = some (.inl ((wy_lend p x y z))) ∧ mSt imt tc k f c n kp l p t d to (bump re (wy_lend p x y z)) tl tp I A0 A1 A2 A3 A4 A5 h2) := by
  obtain ⟨hp6, hd9, hax, hb, le, la, td, kt, sh, so, had, gr, fi, se, at_, sn, ik, cu, st, hml, him, rfl⟩ := hS
  obtain ⟨htp, rtp, htl9, hto, rto, htc, hre⟩ := id hax
  obtain ⟨hle, hla, htd, hkt, hsh, hso, hha, hgr, hfi, hse⟩ := id hml
  obtain ⟨hp7, hk, hf, hc, hn, hkp, hl, rk, rf, rc, rn, rkp, rl, ht0, ht1, hd0, hd1⟩ := id hb
  obtain ⟨hx1, hx2⟩ := hx
  obtain ⟨hy1, hy2⟩ := hy
  obtain ⟨hz1, hz2⟩ := hz
  refine aEv_of okX8_lend caX8_lend (Nat.le_of_ble_eq_true rfl) ?_
  refine aGo okX8_lend 3 (f' := (3, [some (.inr 192), some (.inl x), some (.inl y), some (.inl z), none, none], [.inl y, .inl x, .inr 192], _)) rfl ?_
  by_cases hc3 : 0 ≤ x ∧ x < (p : Int) ∧ 0 ≤ y ∧ y < (p : Int) ∧ x ≠ y
  · refine b_vV (as := [.inl x, .inl y]) (rest := []) (k := 192) (.inl 1) okX8_lend rfl lkX8_134 caX8_areTwo (Nat.le_of_ble_eq_true rfl) rfl (Nat.le_of_ble_eq_true rfl) rfl rfl rfl (c_mTwo_t hp7 ⟨by omega, by omega⟩ ⟨by omega, by omega⟩ (by omega)) ?_
    refine b0_ne (tgt := 13) okX8_lend rfl rfl ⟨by omega, by omega⟩ (fun h6 => ?_) (fun h6 => absurd h6 (by omega))
    refine aGo okX8_lend 3 (f' := (17, [some (.inr 192), some (.inl x), some (.inl y), some (.inl z), none, none], [.inl 99, .inl 0, .inl z], _)) rfl ?_
    rcases (show (z < 0) ∨ (99 < z) ∨ (0 ≤ z ∧ z ≤ 99) from by omega) with hc17 | hc17 | hc17
    · refine b_vS (as := [.inl z, .inl 0, .inl 99]) (rest := []) (.inl (-4)) okX8_lend rfl lkX8_79 caX8_bound (Nat.le_of_ble_eq_true rfl) rfl (Nat.le_of_ble_eq_true rfl) rfl (c_bound_l ⟨by omega, by omega⟩ ⟨by omega, by omega⟩ ⟨by omega, by omega⟩ hc17) ?_
      refine aGo okX8_lend 2 (f' := (24, [some (.inr 192), some (.inl x), some (.inl y), some (.inl z), some (.inl (-4)), none], [.inl (-4)], _)) rfl ?_
      refine b0_eq (tgt := 34) okX8_lend rfl rfl ⟨by omega, by omega⟩ (fun h24 => absurd h24 (by omega)) (fun h24 => ?_)
      refine aGo okX8_lend 2 (f' := (30, [some (.inr 192), some (.inl x), some (.inl y), some (.inl z), some (.inl (-4)), none], [.inl (-4), .inr 192], _)) rfl ?_
      refine b_vE (as := [.inl (-4)]) (rest := []) (k := 192) okX8_lend rfl lkX8_86 caX8_no (Nat.le_of_ble_eq_true rfl) rfl (Nat.le_of_ble_eq_true rfl) rfl rfl rfl (c_no_4 hre) ?_
      rintro _ _ ⟨rfl, rfl⟩
      have hw : (wy_lend p x y z) = -4 := by unfold wy_lend; (repeat' split) <;> omega
      exact b_ret (v := (some (.inl (-4)))) ⟨rfl, Or.inl rfl⟩ ⟨by rw [hw]; first | done | rfl, by rw [hw, bump_4]; exact mSt_of hp6 hd9 ⟨htp, rtp, htl9, hto, rto, htc, by rw [List.length_set]; exact hre⟩ hb hml him⟩ rfl
    · refine b_vS (as := [.inl z, .inl 0, .inl 99]) (rest := []) (.inl (-6)) okX8_lend rfl lkX8_79 caX8_bound (Nat.le_of_ble_eq_true rfl) rfl (Nat.le_of_ble_eq_true rfl) rfl (c_bound_h ⟨by omega, by omega⟩ ⟨by omega, by omega⟩ ⟨by omega, by omega⟩ (by omega) hc17) ?_
      refine aGo okX8_lend 2 (f' := (24, [some (.inr 192), some (.inl x), some (.inl y), some (.inl z), some (.inl (-6)), none], [.inl (-6)], _)) rfl ?_
      refine b0_eq (tgt := 34) okX8_lend rfl rfl ⟨by omega, by omega⟩ (fun h24 => absurd h24 (by omega)) (fun h24 => ?_)
      refine aGo okX8_lend 2 (f' := (30, [some (.inr 192), some (.inl x), some (.inl y), some (.inl z), some (.inl (-6)), none], [.inl (-6), .inr 192], _)) rfl ?_
      refine b_vE (as := [.inl (-6)]) (rest := []) (k := 192) okX8_lend rfl lkX8_86 caX8_no (Nat.le_of_ble_eq_true rfl) rfl (Nat.le_of_ble_eq_true rfl) rfl rfl rfl (c_no_6 hre) ?_
      rintro _ _ ⟨rfl, rfl⟩
      have hw : (wy_lend p x y z) = -6 := by unfold wy_lend; (repeat' split) <;> omega
      exact b_ret (v := (some (.inl (-6)))) ⟨rfl, Or.inl rfl⟩ ⟨by rw [hw]; first | done | rfl, by rw [hw, bump_6]; exact mSt_of hp6 hd9 ⟨htp, rtp, htl9, hto, rto, htc, by rw [List.length_set]; exact hre⟩ hb hml him⟩ rfl
    · refine b_vS (as := [.inl z, .inl 0, .inl 99]) (rest := []) (.inl 0) okX8_lend rfl lkX8_79 caX8_bound (Nat.le_of_ble_eq_true rfl) rfl (Nat.le_of_ble_eq_true rfl) rfl (c_bound_m ⟨by omega, by omega⟩ ⟨by omega, by omega⟩ ⟨by omega, by omega⟩ hc17) ?_
      refine aGo okX8_lend 2 (f' := (24, [some (.inr 192), some (.inl x), some (.inl y), some (.inl z), some (.inl 0), none], [.inl 0], _)) rfl ?_
      refine b0_eq (tgt := 34) okX8_lend rfl rfl ⟨by omega, by omega⟩ (fun h24 => ?_) (fun h24 => absurd h24 (by omega))
      exact absurd (by unfold wy_lend; (repeat' split) <;> omega) hw0
  · refine b_vV (as := [.inl x, .inl y]) (rest := []) (k := 192) (.inl 0) okX8_lend rfl lkX8_134 caX8_areTwo (Nat.le_of_ble_eq_true rfl) rfl (Nat.le_of_ble_eq_true rfl) rfl rfl rfl (c_mTwo_f hp7 ⟨by omega, by omega⟩ ⟨by omega, by omega⟩ hc3) ?_
    refine b0_ne (tgt := 13) okX8_lend rfl rfl ⟨by omega, by omega⟩ (fun h6 => absurd h6 (by omega)) (fun h6 => ?_)
    refine aGo okX8_lend 4 (f' := (24, [some (.inr 192), some (.inl x), some (.inl y), some (.inl z), some (.inl (-1)), none], [.inl (-1)], _)) rfl ?_
    refine b0_eq (tgt := 34) okX8_lend rfl rfl ⟨by omega, by omega⟩ (fun h24 => absurd h24 (by omega)) (fun h24 => ?_)
    refine aGo okX8_lend 2 (f' := (30, [some (.inr 192), some (.inl x), some (.inl y), some (.inl z), some (.inl (-1)), none], [.inl (-1), .inr 192], _)) rfl ?_
    refine b_vE (as := [.inl (-1)]) (rest := []) (k := 192) okX8_lend rfl lkX8_86 caX8_no (Nat.le_of_ble_eq_true rfl) rfl (Nat.le_of_ble_eq_true rfl) rfl rfl rfl (c_no_1 hre) ?_
    rintro _ _ ⟨rfl, rfl⟩
    have hw : (wy_lend p x y z) = -1 := by unfold wy_lend; (repeat' split) <;> omega
    exact b_ret (v := (some (.inl (-1)))) ⟨rfl, Or.inl rfl⟩ ⟨by rw [hw]; first | done | rfl, by rw [hw, bump_1]; exact mSt_of hp6 hd9 ⟨htp, rtp, htl9, hto, rto, htc, by rw [List.length_set]; exact hre⟩ hb hml him⟩ rfl
set_option maxRecDepth 100000 in
set_option maxHeartbeats 4000000 in
theorem mr_keep {imt : Int} {tc : Nat} {k f c n kp l : List Int} {p : Nat} {t d : Int} {to re : List Int} {tl : Nat} {tp : List Int} {I : moT} {A0 A1 A2 A3 A4 A5 : List (Option aE)} {h : aH} {N : Nat} (hS : mSt imt tc k f c n kp l p t d to re tl tp I A0 A1 A2 A3 A4 A5 h) {x : Int} (hx : aI x) {y : Int} (hy : aI y) (hw0 : (wy_keep p x y) ≠ 0) : aEv mX8_keep 1 0 0 N [.inr 192, .inl x, .inl y] h (fun rv h2 => rv = some (.inl ((wy_keep p x y))) ∧ mSt imt tc k f c n kp l p t d to (bump re (wy_keep p x y)) tl tp I A0 A1 A2 A3 A4 A5 h2) := by
  obtain ⟨hp6, hd9, hax, hb, le, la, td, kt, sh, so, had, gr, fi, se, at_, sn, ik, cu, st, hml, him, rfl⟩ := hS
  obtain ⟨htp, rtp, htl9, hto, rto, htc, hre⟩ := id hax
  obtain ⟨hle, hla, htd, hkt, hsh, hso, hha, hgr, hfi, hse⟩ := id hml
  obtain ⟨hp7, hk, hf, hc, hn, hkp, hl, rk, rf, rc, rn, rkp, rl, ht0, ht1, hd0, hd1⟩ := id hb
  obtain ⟨hx1, hx2⟩ := hx
  obtain ⟨hy1, hy2⟩ := hy
  refine aEv_of okX8_keep caX8_keep (Nat.le_of_ble_eq_true rfl) ?_
  refine aGo okX8_keep 2 (f' := (2, [some (.inr 192), some (.inl x), some (.inl y), none, none], [.inl x, .inr 192], _)) rfl ?_
  by_cases hc2 : 0 ≤ x ∧ x < (p : Int)
  · refine b_vV (as := [.inl x]) (rest := []) (k := 192) (.inl 1) okX8_keep rfl lkX8_75 caX8_isOne (Nat.le_of_ble_eq_true rfl) rfl (Nat.le_of_ble_eq_true rfl) rfl rfl rfl (c_isOne_t hp7 hc2) ?_
    refine b0_ne (tgt := 12) okX8_keep rfl rfl ⟨by omega, by omega⟩ (fun h5 => ?_) (fun h5 => absurd h5 (by omega))
    refine aGo okX8_keep 3 (f' := (17, [some (.inr 192), some (.inl x), some (.inl y), none, none], [.inl 9999, .inl 0, .inl y], _)) rfl ?_
    rcases (show (y < 0) ∨ (9999 < y) ∨ (0 ≤ y ∧ y ≤ 9999) from by omega) with hc17 | hc17 | hc17
    · refine b_vS (as := [.inl y, .inl 0, .inl 9999]) (rest := []) (.inl (-4)) okX8_keep rfl lkX8_79 caX8_bound (Nat.le_of_ble_eq_true rfl) rfl (Nat.le_of_ble_eq_true rfl) rfl (c_bound_l ⟨by omega, by omega⟩ ⟨by omega, by omega⟩ ⟨by omega, by omega⟩ hc17) ?_
      refine aGo okX8_keep 2 (f' := (22, [some (.inr 192), some (.inl x), some (.inl y), some (.inl (-4)), none], [.inl (-4)], _)) rfl ?_
      refine b0_eq (tgt := 31) okX8_keep rfl rfl ⟨by omega, by omega⟩ (fun h22 => absurd h22 (by omega)) (fun h22 => ?_)
      refine aGo okX8_keep 2 (f' := (27, [some (.inr 192), some (.inl x), some (.inl y), some (.inl (-4)), none], [.inl (-4), .inr 192], _)) rfl ?_
      refine b_vE (as := [.inl (-4)]) (rest := []) (k := 192) okX8_keep rfl lkX8_86 caX8_no (Nat.le_of_ble_eq_true rfl) rfl (Nat.le_of_ble_eq_true rfl) rfl rfl rfl (c_no_4 hre) ?_
      rintro _ _ ⟨rfl, rfl⟩
      have hw : (wy_keep p x y) = -4 := by unfold wy_keep; (repeat' split) <;> omega
      exact b_ret (v := (some (.inl (-4)))) ⟨rfl, Or.inl rfl⟩ ⟨by rw [hw]; first | done | rfl, by rw [hw, bump_4]; exact mSt_of hp6 hd9 ⟨htp, rtp, htl9, hto, rto, htc, by rw [List.length_set]; exact hre⟩ hb hml him⟩ rfl
    · refine b_vS (as := [.inl y, .inl 0, .inl 9999]) (rest := []) (.inl (-6)) okX8_keep rfl lkX8_79 caX8_bound (Nat.le_of_ble_eq_true rfl) rfl (Nat.le_of_ble_eq_true rfl) rfl (c_bound_h ⟨by omega, by omega⟩ ⟨by omega, by omega⟩ ⟨by omega, by omega⟩ (by omega) hc17) ?_
      refine aGo okX8_keep 2 (f' := (22, [some (.inr 192), some (.inl x), some (.inl y), some (.inl (-6)), none], [.inl (-6)], _)) rfl ?_
      refine b0_eq (tgt := 31) okX8_keep rfl rfl ⟨by omega, by omega⟩ (fun h22 => absurd h22 (by omega)) (fun h22 => ?_)
      refine aGo okX8_keep 2 (f' := (27, [some (.inr 192), some (.inl x), some (.inl y), some (.inl (-6)), none], [.inl (-6), .inr 192], _)) rfl ?_
      refine b_vE (as := [.inl (-6)]) (rest := []) (k := 192) okX8_keep rfl lkX8_86 caX8_no (Nat.le_of_ble_eq_true rfl) rfl (Nat.le_of_ble_eq_true rfl) rfl rfl rfl (c_no_6 hre) ?_
      rintro _ _ ⟨rfl, rfl⟩
      have hw : (wy_keep p x y) = -6 := by unfold wy_keep; (repeat' split) <;> omega
      exact b_ret (v := (some (.inl (-6)))) ⟨rfl, Or.inl rfl⟩ ⟨by rw [hw]; first | done | rfl, by rw [hw, bump_6]; exact mSt_of hp6 hd9 ⟨htp, rtp, htl9, hto, rto, htc, by rw [List.length_set]; exact hre⟩ hb hml him⟩ rfl
    · refine b_vS (as := [.inl y, .inl 0, .inl 9999]) (rest := []) (.inl 0) okX8_keep rfl lkX8_79 caX8_bound (Nat.le_of_ble_eq_true rfl) rfl (Nat.le_of_ble_eq_true rfl) rfl (c_bound_m ⟨by omega, by omega⟩ ⟨by omega, by omega⟩ ⟨by omega, by omega⟩ hc17) ?_
      refine aGo okX8_keep 2 (f' := (22, [some (.inr 192), some (.inl x), some (.inl y), some (.inl 0), none], [.inl 0], _)) rfl ?_
      refine b0_eq (tgt := 31) okX8_keep rfl rfl ⟨by omega, by omega⟩ (fun h22 => ?_) (fun h22 => absurd h22 (by omega))
      exact absurd (by unfold wy_keep; (repeat' split) <;> omega) hw0
  · refine b_vV (as := [.inl x]) (rest := []) (k := 192) (.inl 0) okX8_keep rfl lkX8_75 caX8_isOne (Nat.le_of_ble_eq_true rfl) rfl (Nat.le_of_ble_eq_true rfl) rfl rfl rfl (c_isOne_f hp7 ⟨by omega, by omega⟩ hc2) ?_
    refine b0_ne (tgt := 12) okX8_keep rfl rfl ⟨by omega, by omega⟩ (fun h5 => absurd h5 (by omega)) (fun h5 => ?_)
    refine aGo okX8_keep 4 (f' := (22, [some (.inr 192), some (.inl x), some (.inl y), some (.inl (-1)), none], [.inl (-1)], _)) rfl ?_
    refine b0_eq (tgt := 31) okX8_keep rfl rfl ⟨by omega, by omega⟩ (fun h22 => absurd h22 (by omega)) (fun h22 => ?_)
    refine aGo okX8_keep 2 (f' := (27, [some (.inr 192), some (.inl x), some (.inl y), some (.inl (-1)), none], [.inl (-1), .inr 192], _)) rfl ?_
    refine b_vE (as := [.inl (-1)]) (rest := []) (k := 192) okX8_keep rfl lkX8_86 caX8_no (Nat.le_of_ble_eq_true rfl) rfl (Nat.le_of_ble_eq_true rfl) rfl rfl rfl (c_no_1 hre) ?_
    rintro _ _ ⟨rfl, rfl⟩
    have hw : (wy_keep p x y) = -1 := by unfold wy_keep; (repeat' split) <;> omega
    exact b_ret (v := (some (.inl (-1)))) ⟨rfl, Or.inl rfl⟩ ⟨by rw [hw]; first | done | rfl, by rw [hw, bump_1]; exact mSt_of hp6 hd9 ⟨htp, rtp, htl9, hto, rto, htc, by rw [List.length_set]; exact hre⟩ hb hml him⟩ rfl
set_option maxRecDepth 100000 in
set_option maxHeartbeats 4000000 in
theorem mr_need {imt : Int} {tc : Nat} {k f c n kp l : List Int} {p : Nat} {t d : Int} {to re : List Int} {tl : Nat} {tp : List Int} {I : moT} {A0 A1 A2 A3 A4 A5 : List (Option aE)} {h : aH} {N : Nat} (hS : mSt imt tc k f c n kp l p t d to re tl tp I A0 A1 A2 A3 A4 A5 h) {x : Int} (hx : aI x) {y : Int} (hy : aI y) (hw0 : (wy_need p x y) ≠ 0) : aEv mX8_need 1 0 0 N [.inr 192, .inl x, .inl y] h (fun rv h2 => rv = some (.inl ((wy_need p x y))) ∧ mSt imt tc k f c n kp l p t d to (bump re (wy_need p x y)) tl tp I A0 A1 A2 A3 A4 A5 h2) := by
  obtain ⟨hp6, hd9, hax, hb, le, la, td, kt, sh, so, had, gr, fi, se, at_, sn, ik, cu, st, hml, him, rfl⟩ := hS
  obtain ⟨htp, rtp, htl9, hto, rto, htc, hre⟩ := id hax
  obtain ⟨hle, hla, htd, hkt, hsh, hso, hha, hgr, hfi, hse⟩ := id hml
  obtain ⟨hp7, hk, hf, hc, hn, hkp, hl, rk, rf, rc, rn, rkp, rl, ht0, ht1, hd0, hd1⟩ := id hb
  obtain ⟨hx1, hx2⟩ := hx
  obtain ⟨hy1, hy2⟩ := hy
  refine aEv_of okX8_need caX8_need (Nat.le_of_ble_eq_true rfl) ?_
  refine aGo okX8_need 2 (f' := (2, [some (.inr 192), some (.inl x), some (.inl y), none, none], [.inl x, .inr 192], _)) rfl ?_
  by_cases hc2 : 0 ≤ x ∧ x < (p : Int)
  · refine b_vV (as := [.inl x]) (rest := []) (k := 192) (.inl 1) okX8_need rfl lkX8_75 caX8_isOne (Nat.le_of_ble_eq_true rfl) rfl (Nat.le_of_ble_eq_true rfl) rfl rfl rfl (c_isOne_t hp7 hc2) ?_
    refine b0_ne (tgt := 12) okX8_need rfl rfl ⟨by omega, by omega⟩ (fun h5 => ?_) (fun h5 => absurd h5 (by omega))
    refine aGo okX8_need 3 (f' := (16, [some (.inr 192), some (.inl x), some (.inl y), none, none], [.inl 99, .inl 0, .inl y], _)) rfl ?_
    rcases (show (y < 0) ∨ (99 < y) ∨ (0 ≤ y ∧ y ≤ 99) from by omega) with hc16 | hc16 | hc16
    · refine b_vS (as := [.inl y, .inl 0, .inl 99]) (rest := []) (.inl (-4)) okX8_need rfl lkX8_79 caX8_bound (Nat.le_of_ble_eq_true rfl) rfl (Nat.le_of_ble_eq_true rfl) rfl (c_bound_l ⟨by omega, by omega⟩ ⟨by omega, by omega⟩ ⟨by omega, by omega⟩ hc16) ?_
      refine aGo okX8_need 2 (f' := (21, [some (.inr 192), some (.inl x), some (.inl y), some (.inl (-4)), none], [.inl (-4)], _)) rfl ?_
      refine b0_eq (tgt := 30) okX8_need rfl rfl ⟨by omega, by omega⟩ (fun h21 => absurd h21 (by omega)) (fun h21 => ?_)
      refine aGo okX8_need 2 (f' := (26, [some (.inr 192), some (.inl x), some (.inl y), some (.inl (-4)), none], [.inl (-4), .inr 192], _)) rfl ?_
      refine b_vE (as := [.inl (-4)]) (rest := []) (k := 192) okX8_need rfl lkX8_86 caX8_no (Nat.le_of_ble_eq_true rfl) rfl (Nat.le_of_ble_eq_true rfl) rfl rfl rfl (c_no_4 hre) ?_
      rintro _ _ ⟨rfl, rfl⟩
      have hw : (wy_need p x y) = -4 := by unfold wy_need; (repeat' split) <;> omega
      exact b_ret (v := (some (.inl (-4)))) ⟨rfl, Or.inl rfl⟩ ⟨by rw [hw]; first | done | rfl, by rw [hw, bump_4]; exact mSt_of hp6 hd9 ⟨htp, rtp, htl9, hto, rto, htc, by rw [List.length_set]; exact hre⟩ hb hml him⟩ rfl
    · refine b_vS (as := [.inl y, .inl 0, .inl 99]) (rest := []) (.inl (-6)) okX8_need rfl lkX8_79 caX8_bound (Nat.le_of_ble_eq_true rfl) rfl (Nat.le_of_ble_eq_true rfl) rfl (c_bound_h ⟨by omega, by omega⟩ ⟨by omega, by omega⟩ ⟨by omega, by omega⟩ (by omega) hc16) ?_
      refine aGo okX8_need 2 (f' := (21, [some (.inr 192), some (.inl x), some (.inl y), some (.inl (-6)), none], [.inl (-6)], _)) rfl ?_
      refine b0_eq (tgt := 30) okX8_need rfl rfl ⟨by omega, by omega⟩ (fun h21 => absurd h21 (by omega)) (fun h21 => ?_)
      refine aGo okX8_need 2 (f' := (26, [some (.inr 192), some (.inl x), some (.inl y), some (.inl (-6)), none], [.inl (-6), .inr 192], _)) rfl ?_
      refine b_vE (as := [.inl (-6)]) (rest := []) (k := 192) okX8_need rfl lkX8_86 caX8_no (Nat.le_of_ble_eq_true rfl) rfl (Nat.le_of_ble_eq_true rfl) rfl rfl rfl (c_no_6 hre) ?_
      rintro _ _ ⟨rfl, rfl⟩
      have hw : (wy_need p x y) = -6 := by unfold wy_need; (repeat' split) <;> omega
      exact b_ret (v := (some (.inl (-6)))) ⟨rfl, Or.inl rfl⟩ ⟨by rw [hw]; first | done | rfl, by rw [hw, bump_6]; exact mSt_of hp6 hd9 ⟨htp, rtp, htl9, hto, rto, htc, by rw [List.length_set]; exact hre⟩ hb hml him⟩ rfl
    · refine b_vS (as := [.inl y, .inl 0, .inl 99]) (rest := []) (.inl 0) okX8_need rfl lkX8_79 caX8_bound (Nat.le_of_ble_eq_true rfl) rfl (Nat.le_of_ble_eq_true rfl) rfl (c_bound_m ⟨by omega, by omega⟩ ⟨by omega, by omega⟩ ⟨by omega, by omega⟩ hc16) ?_
      refine aGo okX8_need 2 (f' := (21, [some (.inr 192), some (.inl x), some (.inl y), some (.inl 0), none], [.inl 0], _)) rfl ?_
      refine b0_eq (tgt := 30) okX8_need rfl rfl ⟨by omega, by omega⟩ (fun h21 => ?_) (fun h21 => absurd h21 (by omega))
      exact absurd (by unfold wy_need; (repeat' split) <;> omega) hw0
  · refine b_vV (as := [.inl x]) (rest := []) (k := 192) (.inl 0) okX8_need rfl lkX8_75 caX8_isOne (Nat.le_of_ble_eq_true rfl) rfl (Nat.le_of_ble_eq_true rfl) rfl rfl rfl (c_isOne_f hp7 ⟨by omega, by omega⟩ hc2) ?_
    refine b0_ne (tgt := 12) okX8_need rfl rfl ⟨by omega, by omega⟩ (fun h5 => absurd h5 (by omega)) (fun h5 => ?_)
    refine aGo okX8_need 4 (f' := (21, [some (.inr 192), some (.inl x), some (.inl y), some (.inl (-1)), none], [.inl (-1)], _)) rfl ?_
    refine b0_eq (tgt := 30) okX8_need rfl rfl ⟨by omega, by omega⟩ (fun h21 => absurd h21 (by omega)) (fun h21 => ?_)
    refine aGo okX8_need 2 (f' := (26, [some (.inr 192), some (.inl x), some (.inl y), some (.inl (-1)), none], [.inl (-1), .inr 192], _)) rfl ?_
    refine b_vE (as := [.inl (-1)]) (rest := []) (k := 192) okX8_need rfl lkX8_86 caX8_no (Nat.le_of_ble_eq_true rfl) rfl (Nat.le_of_ble_eq_true rfl) rfl rfl rfl (c_no_1 hre) ?_
    rintro _ _ ⟨rfl, rfl⟩
    have hw : (wy_need p x y) = -1 := by unfold wy_need; (repeat' split) <;> omega
    exact b_ret (v := (some (.inl (-1)))) ⟨rfl, Or.inl rfl⟩ ⟨by rw [hw]; first | done | rfl, by rw [hw, bump_1]; exact mSt_of hp6 hd9 ⟨htp, rtp, htl9, hto, rto, htc, by rw [List.length_set]; exact hre⟩ hb hml him⟩ rfl
set_option maxRecDepth 100000 in
set_option maxHeartbeats 4000000 in
theorem mr_sum {imt : Int} {tc : Nat} {k f c n kp l : List Int} {p : Nat} {t d : Int} {to re : List Int} {tl : Nat} {tp : List Int} {I : moT} {A0 A1 A2 A3 A4 A5 : List (Option aE)} {h : aH} {N : Nat} (hS : mSt imt tc k f c n kp l p t d to re tl tp I A0 A1 A2 A3 A4 A5 h) {x : Int} (hx : aI x) (hw0 : (wy_sum x) ≠ 0) : aEv mX8_sum 1 0 0 N [.inr 192, .inl x] h (fun rv h2 => rv = some (.inl ((wy_sum x))) ∧ mSt imt tc k f c n kp l p t d to (bump re (wy_sum x)) tl tp I A0 A1 A2 A3 A4 A5 h2) := by
  obtain ⟨hp6, hd9, hax, hb, le, la, td, kt, sh, so, had, gr, fi, se, at_, sn, ik, cu, st, hml, him, rfl⟩ := hS
  obtain ⟨htp, rtp, htl9, hto, rto, htc, hre⟩ := id hax
  obtain ⟨hle, hla, htd, hkt, hsh, hso, hha, hgr, hfi, hse⟩ := id hml
  obtain ⟨hp7, hk, hf, hc, hn, hkp, hl, rk, rf, rc, rn, rkp, rl, ht0, ht1, hd0, hd1⟩ := id hb
  obtain ⟨hx1, hx2⟩ := hx
  refine aEv_of okX8_sum caX8_sum (Nat.le_of_ble_eq_true rfl) ?_
  refine aGo okX8_sum 3 (f' := (5, [some (.inr 192), some (.inl x), none, none], [.inl 999, .inl 0, .inl x], _)) rfl ?_
  rcases (show (x < 0) ∨ (999 < x) ∨ (0 ≤ x ∧ x ≤ 999) from by omega) with hc5 | hc5 | hc5
  · refine b_vS (as := [.inl x, .inl 0, .inl 999]) (rest := []) (.inl (-4)) okX8_sum rfl lkX8_79 caX8_bound (Nat.le_of_ble_eq_true rfl) rfl (Nat.le_of_ble_eq_true rfl) rfl (c_bound_l ⟨by omega, by omega⟩ ⟨by omega, by omega⟩ ⟨by omega, by omega⟩ hc5) ?_
    refine aGo okX8_sum 2 (f' := (10, [some (.inr 192), some (.inl x), some (.inl (-4)), none], [.inl (-4)], _)) rfl ?_
    refine b0_eq (tgt := 19) okX8_sum rfl rfl ⟨by omega, by omega⟩ (fun h10 => absurd h10 (by omega)) (fun h10 => ?_)
    refine aGo okX8_sum 2 (f' := (15, [some (.inr 192), some (.inl x), some (.inl (-4)), none], [.inl (-4), .inr 192], _)) rfl ?_
    refine b_vE (as := [.inl (-4)]) (rest := []) (k := 192) okX8_sum rfl lkX8_86 caX8_no (Nat.le_of_ble_eq_true rfl) rfl (Nat.le_of_ble_eq_true rfl) rfl rfl rfl (c_no_4 hre) ?_
    rintro _ _ ⟨rfl, rfl⟩
    have hw : (wy_sum x) = -4 := by unfold wy_sum; (repeat' split) <;> omega
    exact b_ret (v := (some (.inl (-4)))) ⟨rfl, Or.inl rfl⟩ ⟨by rw [hw]; first | done | rfl, by rw [hw, bump_4]; exact mSt_of hp6 hd9 ⟨htp, rtp, htl9, hto, rto, htc, by rw [List.length_set]; exact hre⟩ hb hml him⟩ rfl
  · refine b_vS (as := [.inl x, .inl 0, .inl 999]) (rest := []) (.inl (-6)) okX8_sum rfl lkX8_79 caX8_bound (Nat.le_of_ble_eq_true rfl) rfl (Nat.le_of_ble_eq_true rfl) rfl (c_bound_h ⟨by omega, by omega⟩ ⟨by omega, by omega⟩ ⟨by omega, by omega⟩ (by omega) hc5) ?_
    refine aGo okX8_sum 2 (f' := (10, [some (.inr 192), some (.inl x), some (.inl (-6)), none], [.inl (-6)], _)) rfl ?_
    refine b0_eq (tgt := 19) okX8_sum rfl rfl ⟨by omega, by omega⟩ (fun h10 => absurd h10 (by omega)) (fun h10 => ?_)
    refine aGo okX8_sum 2 (f' := (15, [some (.inr 192), some (.inl x), some (.inl (-6)), none], [.inl (-6), .inr 192], _)) rfl ?_
    refine b_vE (as := [.inl (-6)]) (rest := []) (k := 192) okX8_sum rfl lkX8_86 caX8_no (Nat.le_of_ble_eq_true rfl) rfl (Nat.le_of_ble_eq_true rfl) rfl rfl rfl (c_no_6 hre) ?_
    rintro _ _ ⟨rfl, rfl⟩
    have hw : (wy_sum x) = -6 := by unfold wy_sum; (repeat' split) <;> omega
    exact b_ret (v := (some (.inl (-6)))) ⟨rfl, Or.inl rfl⟩ ⟨by rw [hw]; first | done | rfl, by rw [hw, bump_6]; exact mSt_of hp6 hd9 ⟨htp, rtp, htl9, hto, rto, htc, by rw [List.length_set]; exact hre⟩ hb hml him⟩ rfl
  · refine b_vS (as := [.inl x, .inl 0, .inl 999]) (rest := []) (.inl 0) okX8_sum rfl lkX8_79 caX8_bound (Nat.le_of_ble_eq_true rfl) rfl (Nat.le_of_ble_eq_true rfl) rfl (c_bound_m ⟨by omega, by omega⟩ ⟨by omega, by omega⟩ ⟨by omega, by omega⟩ hc5) ?_
    refine aGo okX8_sum 2 (f' := (10, [some (.inr 192), some (.inl x), some (.inl 0), none], [.inl 0], _)) rfl ?_
    refine b0_eq (tgt := 19) okX8_sum rfl rfl ⟨by omega, by omega⟩ (fun h10 => ?_) (fun h10 => absurd h10 (by omega))
    exact absurd (by unfold wy_sum; (repeat' split) <;> omega) hw0
set_option maxRecDepth 100000 in
set_option maxHeartbeats 4000000 in
theorem mr_days {imt : Int} {tc : Nat} {k f c n kp l : List Int} {p : Nat} {t d : Int} {to re : List Int} {tl : Nat} {tp : List Int} {I : moT} {A0 A1 A2 A3 A4 A5 : List (Option aE)} {h : aH} {N : Nat} (hS : mSt imt tc k f c n kp l p t d to re tl tp I A0 A1 A2 A3 A4 A5 h) {x : Int} (hx : aI x) (hw0 : (wy_days d x) ≠ 0) : aEv mX8_days 7 0 0 N [.inr 192, .inl x] h (fun rv h2 => rv = some (.inl ((wy_days d x))) ∧ mSt imt tc k f c n kp l p t d to (bump re (wy_days d x)) tl tp I A0 A1 A2 A3 A4 A5 h2) := by
  obtain ⟨hp6, hd9, hax, hb, le, la, td, kt, sh, so, had, gr, fi, se, at_, sn, ik, cu, st, hml, him, rfl⟩ := hS
  obtain ⟨htp, rtp, htl9, hto, rto, htc, hre⟩ := id hax
  obtain ⟨hle, hla, htd, hkt, hsh, hso, hha, hgr, hfi, hse⟩ := id hml
  obtain ⟨hp7, hk, hf, hc, hn, hkp, hl, rk, rf, rc, rn, rkp, rl, ht0, ht1, hd0, hd1⟩ := id hb
  obtain ⟨hx1, hx2⟩ := hx
  refine aEv_of okX8_days caX8_days (Nat.le_of_ble_eq_true rfl) ?_
  refine aGo okX8_days 3 (f' := (4, [some (.inr 192), some (.inl x), none, none], [.inl 60, .inl 1, .inl x], _)) rfl ?_
  rcases (show (x < 1) ∨ (60 < x) ∨ (1 ≤ x ∧ x ≤ 60) from by omega) with hc4 | hc4 | hc4
  · refine b_vS (as := [.inl x, .inl 1, .inl 60]) (rest := []) (.inl (-4)) okX8_days rfl lkX8_79 caX8_bound (Nat.le_of_ble_eq_true rfl) rfl (Nat.le_of_ble_eq_true rfl) rfl (c_bound_l ⟨by omega, by omega⟩ ⟨by omega, by omega⟩ ⟨by omega, by omega⟩ hc4) ?_
    refine aGo okX8_days 2 (f' := (9, [some (.inr 192), some (.inl x), some (.inl (-4)), none], [.inl (-4)], _)) rfl ?_
    refine b0_ne (tgt := 27) okX8_days rfl rfl ⟨by omega, by omega⟩ (fun h9 => ?_) (fun h9 => absurd h9 (by omega))
    refine aGo okX8_days 1 (f' := (28, [some (.inr 192), some (.inl x), some (.inl (-4)), none], [.inl (-4)], _)) rfl ?_
    refine b0_eq (tgt := 37) okX8_days rfl rfl ⟨by omega, by omega⟩ (fun h28 => absurd h28 (by omega)) (fun h28 => ?_)
    refine aGo okX8_days 2 (f' := (33, [some (.inr 192), some (.inl x), some (.inl (-4)), none], [.inl (-4), .inr 192], _)) rfl ?_
    refine b_vE (as := [.inl (-4)]) (rest := []) (k := 192) okX8_days rfl lkX8_86 caX8_no (Nat.le_of_ble_eq_true rfl) rfl (Nat.le_of_ble_eq_true rfl) rfl rfl rfl (c_no_4 hre) ?_
    rintro _ _ ⟨rfl, rfl⟩
    have hw : (wy_days d x) = -4 := by unfold wy_days; (repeat' split) <;> omega
    exact b_ret (v := (some (.inl (-4)))) ⟨rfl, Or.inl rfl⟩ ⟨by rw [hw]; first | done | rfl, by rw [hw, bump_4]; exact mSt_of hp6 hd9 ⟨htp, rtp, htl9, hto, rto, htc, by rw [List.length_set]; exact hre⟩ hb hml him⟩ rfl
  · refine b_vS (as := [.inl x, .inl 1, .inl 60]) (rest := []) (.inl (-6)) okX8_days rfl lkX8_79 caX8_bound (Nat.le_of_ble_eq_true rfl) rfl (Nat.le_of_ble_eq_true rfl) rfl (c_bound_h ⟨by omega, by omega⟩ ⟨by omega, by omega⟩ ⟨by omega, by omega⟩ (by omega) hc4) ?_
    refine aGo okX8_days 2 (f' := (9, [some (.inr 192), some (.inl x), some (.inl (-6)), none], [.inl (-6)], _)) rfl ?_
    refine b0_ne (tgt := 27) okX8_days rfl rfl ⟨by omega, by omega⟩ (fun h9 => ?_) (fun h9 => absurd h9 (by omega))
    refine aGo okX8_days 1 (f' := (28, [some (.inr 192), some (.inl x), some (.inl (-6)), none], [.inl (-6)], _)) rfl ?_
    refine b0_eq (tgt := 37) okX8_days rfl rfl ⟨by omega, by omega⟩ (fun h28 => absurd h28 (by omega)) (fun h28 => ?_)
    refine aGo okX8_days 2 (f' := (33, [some (.inr 192), some (.inl x), some (.inl (-6)), none], [.inl (-6), .inr 192], _)) rfl ?_
    refine b_vE (as := [.inl (-6)]) (rest := []) (k := 192) okX8_days rfl lkX8_86 caX8_no (Nat.le_of_ble_eq_true rfl) rfl (Nat.le_of_ble_eq_true rfl) rfl rfl rfl (c_no_6 hre) ?_
    rintro _ _ ⟨rfl, rfl⟩
    have hw : (wy_days d x) = -6 := by unfold wy_days; (repeat' split) <;> omega
    exact b_ret (v := (some (.inl (-6)))) ⟨rfl, Or.inl rfl⟩ ⟨by rw [hw]; first | done | rfl, by rw [hw, bump_6]; exact mSt_of hp6 hd9 ⟨htp, rtp, htl9, hto, rto, htc, by rw [List.length_set]; exact hre⟩ hb hml him⟩ rfl
  · refine b_vS (as := [.inl x, .inl 1, .inl 60]) (rest := []) (.inl 0) okX8_days rfl lkX8_79 caX8_bound (Nat.le_of_ble_eq_true rfl) rfl (Nat.le_of_ble_eq_true rfl) rfl (c_bound_m ⟨by omega, by omega⟩ ⟨by omega, by omega⟩ ⟨by omega, by omega⟩ hc4) ?_
    refine aGo okX8_days 2 (f' := (9, [some (.inr 192), some (.inl x), some (.inl 0), none], [.inl 0], _)) rfl ?_
    refine b0_ne (tgt := 27) okX8_days rfl rfl ⟨by omega, by omega⟩ (fun h9 => absurd h9 (by omega)) (fun h9 => ?_)
    refine aGo okX8_days 5 (f' := (21, [some (.inr 192), some (.inl x), some (.inl 0), none], [.inl 999, .inl (d + x)], _)) rfl ?_
    refine b_le (tgt := 27) okX8_days rfl rfl ⟨by omega, by omega⟩ ⟨by omega, by omega⟩ (fun h21 => ?_) (fun h21 => ?_)
    · refine aGo okX8_days 1 (f' := (28, [some (.inr 192), some (.inl x), some (.inl 0), none], [.inl 0], _)) rfl ?_
      refine b0_eq (tgt := 37) okX8_days rfl rfl ⟨by omega, by omega⟩ (fun h28 => ?_) (fun h28 => absurd h28 (by omega))
      exact absurd (by unfold wy_days; (repeat' split) <;> omega) hw0
    · refine aGo okX8_days 3 (f' := (28, [some (.inr 192), some (.inl x), some (.inl (-6)), none], [.inl (-6)], _)) rfl ?_
      refine b0_eq (tgt := 37) okX8_days rfl rfl ⟨by omega, by omega⟩ (fun h28 => absurd h28 (by omega)) (fun h28 => ?_)
      refine aGo okX8_days 2 (f' := (33, [some (.inr 192), some (.inl x), some (.inl (-6)), none], [.inl (-6), .inr 192], _)) rfl ?_
      refine b_vE (as := [.inl (-6)]) (rest := []) (k := 192) okX8_days rfl lkX8_86 caX8_no (Nat.le_of_ble_eq_true rfl) rfl (Nat.le_of_ble_eq_true rfl) rfl rfl rfl (c_no_6 hre) ?_
      rintro _ _ ⟨rfl, rfl⟩
      have hw : (wy_days d x) = -6 := by unfold wy_days; (repeat' split) <;> omega
      exact b_ret (v := (some (.inl (-6)))) ⟨rfl, Or.inl rfl⟩ ⟨by rw [hw]; first | done | rfl, by rw [hw, bump_6]; exact mSt_of hp6 hd9 ⟨htp, rtp, htl9, hto, rto, htc, by rw [List.length_set]; exact hre⟩ hb hml him⟩ rfl
set_option maxRecDepth 100000 in
set_option maxHeartbeats 4000000 in
theorem mr_behind {imt : Int} {tc : Nat} {k f c n kp l : List Int} {p : Nat} {t d : Int} {to re : List Int} {tl : Nat} {tp : List Int} {I : moT} {A0 A1 A2 A3 A4 A5 : List (Option aE)} {h : aH} {N : Nat} (hS : mSt imt tc k f c n kp l p t d to re tl tp I A0 A1 A2 A3 A4 A5 h) {x : Int} (hx : aI x) {y : Int} (hy : aI y) {z : Int} (hz : aI z) (hw0 : (wy_behind p x y z) ≠ 0) : aEv mX8_behind 7 0 0 N [.inr 192, .inl x, .inl y, .inl z] h (fun rv h2 => rv = some (.inl ((wy_behind p x y z))) ∧ mSt imt tc k f c n kp l p t d to (bump re (wy_behind p x y z)) tl tp I A0 A1 A2 A3 A4 A5 h2) := by
  obtain ⟨hp6, hd9, hax, hb, le, la, td, kt, sh, so, had, gr, fi, se, at_, sn, ik, cu, st, hml, him, rfl⟩ := hS
  obtain ⟨htp, rtp, htl9, hto, rto, htc, hre⟩ := id hax
  obtain ⟨hle, hla, htd, hkt, hsh, hso, hha, hgr, hfi, hse⟩ := id hml
  obtain ⟨hp7, hk, hf, hc, hn, hkp, hl, rk, rf, rc, rn, rkp, rl, ht0, ht1, hd0, hd1⟩ := id hb
  obtain ⟨hx1, hx2⟩ := hx
  obtain ⟨hy1, hy2⟩ := hy
  obtain ⟨hz1, hz2⟩ := hz
  refine aEv_of okX8_behind caX8_behind (Nat.le_of_ble_eq_true rfl) ?_
  refine aGo okX8_behind 2 (f' := (2, [some (.inr 192), some (.inl x), some (.inl y), some (.inl z), none, none], [.inl x, .inr 192], _)) rfl ?_
  by_cases hc2 : 0 ≤ x ∧ x < (p : Int)
  · refine b_vV (as := [.inl x]) (rest := []) (k := 192) (.inl 1) okX8_behind rfl lkX8_75 caX8_isOne (Nat.le_of_ble_eq_true rfl) rfl (Nat.le_of_ble_eq_true rfl) rfl rfl rfl (c_isOne_t hp7 hc2) ?_
    refine b0_ne (tgt := 12) okX8_behind rfl rfl ⟨by omega, by omega⟩ (fun h5 => ?_) (fun h5 => absurd h5 (by omega))
    refine aGo okX8_behind 3 (f' := (16, [some (.inr 192), some (.inl x), some (.inl y), some (.inl z), none, none], [.inl 99, .inl 0, .inl y], _)) rfl ?_
    rcases (show (y < 0) ∨ (99 < y) ∨ (0 ≤ y ∧ y ≤ 99) from by omega) with hc16 | hc16 | hc16
    · refine b_vS (as := [.inl y, .inl 0, .inl 99]) (rest := []) (.inl (-4)) okX8_behind rfl lkX8_79 caX8_bound (Nat.le_of_ble_eq_true rfl) rfl (Nat.le_of_ble_eq_true rfl) rfl (c_bound_l ⟨by omega, by omega⟩ ⟨by omega, by omega⟩ ⟨by omega, by omega⟩ hc16) ?_
      refine aGo okX8_behind 2 (f' := (23, [some (.inr 192), some (.inl x), some (.inl y), some (.inl z), some (.inl (-4)), none], [.inl (-4)], _)) rfl ?_
      refine b0_ne (tgt := 39) okX8_behind rfl rfl ⟨by omega, by omega⟩ (fun h23 => ?_) (fun h23 => absurd h23 (by omega))
      refine aGo okX8_behind 1 (f' := (41, [some (.inr 192), some (.inl x), some (.inl y), some (.inl z), some (.inl (-4)), none], [.inl (-4)], _)) rfl ?_
      refine b0_eq (tgt := 51) okX8_behind rfl rfl ⟨by omega, by omega⟩ (fun h41 => absurd h41 (by omega)) (fun h41 => ?_)
      refine aGo okX8_behind 2 (f' := (47, [some (.inr 192), some (.inl x), some (.inl y), some (.inl z), some (.inl (-4)), none], [.inl (-4), .inr 192], _)) rfl ?_
      refine b_vE (as := [.inl (-4)]) (rest := []) (k := 192) okX8_behind rfl lkX8_86 caX8_no (Nat.le_of_ble_eq_true rfl) rfl (Nat.le_of_ble_eq_true rfl) rfl rfl rfl (c_no_4 hre) ?_
      rintro _ _ ⟨rfl, rfl⟩
      have hw : (wy_behind p x y z) = -4 := by unfold wy_behind; (repeat' split) <;> omega
      exact b_ret (v := (some (.inl (-4)))) ⟨rfl, Or.inl rfl⟩ ⟨by rw [hw]; first | done | rfl, by rw [hw, bump_4]; exact mSt_of hp6 hd9 ⟨htp, rtp, htl9, hto, rto, htc, by rw [List.length_set]; exact hre⟩ hb hml him⟩ rfl
    · refine b_vS (as := [.inl y, .inl 0, .inl 99]) (rest := []) (.inl (-6)) okX8_behind rfl lkX8_79 caX8_bound (Nat.le_of_ble_eq_true rfl) rfl (Nat.le_of_ble_eq_true rfl) rfl (c_bound_h ⟨by omega, by omega⟩ ⟨by omega, by omega⟩ ⟨by omega, by omega⟩ (by omega) hc16) ?_
      refine aGo okX8_behind 2 (f' := (23, [some (.inr 192), some (.inl x), some (.inl y), some (.inl z), some (.inl (-6)), none], [.inl (-6)], _)) rfl ?_
      refine b0_ne (tgt := 39) okX8_behind rfl rfl ⟨by omega, by omega⟩ (fun h23 => ?_) (fun h23 => absurd h23 (by omega))
      refine aGo okX8_behind 1 (f' := (41, [some (.inr 192), some (.inl x), some (.inl y), some (.inl z), some (.inl (-6)), none], [.inl (-6)], _)) rfl ?_
      refine b0_eq (tgt := 51) okX8_behind rfl rfl ⟨by omega, by omega⟩ (fun h41 => absurd h41 (by omega)) (fun h41 => ?_)
      refine aGo okX8_behind 2 (f' := (47, [some (.inr 192), some (.inl x), some (.inl y), some (.inl z), some (.inl (-6)), none], [.inl (-6), .inr 192], _)) rfl ?_
      refine b_vE (as := [.inl (-6)]) (rest := []) (k := 192) okX8_behind rfl lkX8_86 caX8_no (Nat.le_of_ble_eq_true rfl) rfl (Nat.le_of_ble_eq_true rfl) rfl rfl rfl (c_no_6 hre) ?_
      rintro _ _ ⟨rfl, rfl⟩
      have hw : (wy_behind p x y z) = -6 := by unfold wy_behind; (repeat' split) <;> omega
      exact b_ret (v := (some (.inl (-6)))) ⟨rfl, Or.inl rfl⟩ ⟨by rw [hw]; first | done | rfl, by rw [hw, bump_6]; exact mSt_of hp6 hd9 ⟨htp, rtp, htl9, hto, rto, htc, by rw [List.length_set]; exact hre⟩ hb hml him⟩ rfl
    · refine b_vS (as := [.inl y, .inl 0, .inl 99]) (rest := []) (.inl 0) okX8_behind rfl lkX8_79 caX8_bound (Nat.le_of_ble_eq_true rfl) rfl (Nat.le_of_ble_eq_true rfl) rfl (c_bound_m ⟨by omega, by omega⟩ ⟨by omega, by omega⟩ ⟨by omega, by omega⟩ hc16) ?_
      refine aGo okX8_behind 2 (f' := (23, [some (.inr 192), some (.inl x), some (.inl y), some (.inl z), some (.inl 0), none], [.inl 0], _)) rfl ?_
      refine b0_ne (tgt := 39) okX8_behind rfl rfl ⟨by omega, by omega⟩ (fun h23 => absurd h23 (by omega)) (fun h23 => ?_)
      refine aGo okX8_behind 3 (f' := (29, [some (.inr 192), some (.inl x), some (.inl y), some (.inl z), some (.inl 0), none], [.inl 1, .inl 0, .inl z], _)) rfl ?_
      by_cases hc29 : 0 ≤ z ∧ z ≤ 1
      · refine b_vS (as := [.inl z, .inl 0, .inl 1]) (rest := []) (.inl 1) okX8_behind rfl lkX8_97 caX8_isIn (Nat.le_of_ble_eq_true rfl) rfl (Nat.le_of_ble_eq_true rfl) rfl (c_isIn_t ⟨by omega, by omega⟩ ⟨by omega, by omega⟩ ⟨by omega, by omega⟩ hc29) ?_
        refine b0_ne (tgt := 39) okX8_behind rfl rfl ⟨by omega, by omega⟩ (fun h32 => ?_) (fun h32 => absurd h32 (by omega))
        refine aGo okX8_behind 1 (f' := (41, [some (.inr 192), some (.inl x), some (.inl y), some (.inl z), some (.inl 0), none], [.inl 0], _)) rfl ?_
        refine b0_eq (tgt := 51) okX8_behind rfl rfl ⟨by omega, by omega⟩ (fun h41 => ?_) (fun h41 => absurd h41 (by omega))
        exact absurd (by unfold wy_behind; (repeat' split) <;> omega) hw0
      · refine b_vS (as := [.inl z, .inl 0, .inl 1]) (rest := []) (.inl 0) okX8_behind rfl lkX8_97 caX8_isIn (Nat.le_of_ble_eq_true rfl) rfl (Nat.le_of_ble_eq_true rfl) rfl (c_isIn_f ⟨by omega, by omega⟩ ⟨by omega, by omega⟩ ⟨by omega, by omega⟩ hc29) ?_
        refine b0_ne (tgt := 39) okX8_behind rfl rfl ⟨by omega, by omega⟩ (fun h32 => absurd h32 (by omega)) (fun h32 => ?_)
        refine aGo okX8_behind 3 (f' := (41, [some (.inr 192), some (.inl x), some (.inl y), some (.inl z), some (.inl (-2)), none], [.inl (-2)], _)) rfl ?_
        refine b0_eq (tgt := 51) okX8_behind rfl rfl ⟨by omega, by omega⟩ (fun h41 => absurd h41 (by omega)) (fun h41 => ?_)
        refine aGo okX8_behind 2 (f' := (47, [some (.inr 192), some (.inl x), some (.inl y), some (.inl z), some (.inl (-2)), none], [.inl (-2), .inr 192], _)) rfl ?_
        refine b_vE (as := [.inl (-2)]) (rest := []) (k := 192) okX8_behind rfl lkX8_86 caX8_no (Nat.le_of_ble_eq_true rfl) rfl (Nat.le_of_ble_eq_true rfl) rfl rfl rfl (c_no_2 hre) ?_
        rintro _ _ ⟨rfl, rfl⟩
        have hw : (wy_behind p x y z) = -2 := by unfold wy_behind; (repeat' split) <;> omega
        exact b_ret (v := (some (.inl (-2)))) ⟨rfl, Or.inl rfl⟩ ⟨by rw [hw]; first | done | rfl, by rw [hw, bump_2]; exact mSt_of hp6 hd9 ⟨htp, rtp, htl9, hto, rto, htc, by rw [List.length_set]; exact hre⟩ hb hml him⟩ rfl
  · refine b_vV (as := [.inl x]) (rest := []) (k := 192) (.inl 0) okX8_behind rfl lkX8_75 caX8_isOne (Nat.le_of_ble_eq_true rfl) rfl (Nat.le_of_ble_eq_true rfl) rfl rfl rfl (c_isOne_f hp7 ⟨by omega, by omega⟩ hc2) ?_
    refine b0_ne (tgt := 12) okX8_behind rfl rfl ⟨by omega, by omega⟩ (fun h5 => absurd h5 (by omega)) (fun h5 => ?_)
    refine aGo okX8_behind 4 (f' := (23, [some (.inr 192), some (.inl x), some (.inl y), some (.inl z), some (.inl (-1)), none], [.inl (-1)], _)) rfl ?_
    refine b0_ne (tgt := 39) okX8_behind rfl rfl ⟨by omega, by omega⟩ (fun h23 => ?_) (fun h23 => absurd h23 (by omega))
    refine aGo okX8_behind 1 (f' := (41, [some (.inr 192), some (.inl x), some (.inl y), some (.inl z), some (.inl (-1)), none], [.inl (-1)], _)) rfl ?_
    refine b0_eq (tgt := 51) okX8_behind rfl rfl ⟨by omega, by omega⟩ (fun h41 => absurd h41 (by omega)) (fun h41 => ?_)
    refine aGo okX8_behind 2 (f' := (47, [some (.inr 192), some (.inl x), some (.inl y), some (.inl z), some (.inl (-1)), none], [.inl (-1), .inr 192], _)) rfl ?_
    refine b_vE (as := [.inl (-1)]) (rest := []) (k := 192) okX8_behind rfl lkX8_86 caX8_no (Nat.le_of_ble_eq_true rfl) rfl (Nat.le_of_ble_eq_true rfl) rfl rfl rfl (c_no_1 hre) ?_
    rintro _ _ ⟨rfl, rfl⟩
    have hw : (wy_behind p x y z) = -1 := by unfold wy_behind; (repeat' split) <;> omega
    exact b_ret (v := (some (.inl (-1)))) ⟨rfl, Or.inl rfl⟩ ⟨by rw [hw]; first | done | rfl, by rw [hw, bump_1]; exact mSt_of hp6 hd9 ⟨htp, rtp, htl9, hto, rto, htc, by rw [List.length_set]; exact hre⟩ hb hml him⟩ rfl
set_option maxRecDepth 100000 in
set_option maxHeartbeats 4000000 in
theorem mr_firstShort {imt : Int} {tc : Nat} {k f c n kp l : List Int} {p : Nat} {t d : Int} {to re : List Int} {tl : Nat} {tp : List Int} {I : moT} {A0 A1 A2 A3 A4 A5 : List (Option aE)} {h : aH} {N : Nat} (hS : mSt imt tc k f c n kp l p t d to re tl tp I A0 A1 A2 A3 A4 A5 h) {x : Int} (hx : aI x) (hw0 : (wy_firstShort x) ≠ 0) : aEv mX8_firstShort 8 0 0 N [.inr 192, .inl x] h (fun rv h2 => rv = some (.inl ((wy_firstShort x))) ∧ mSt imt tc k f c n kp l p t d to (bump re (wy_firstShort x)) tl tp I A0 A1 A2 A3 A4 A5 h2) := by
  obtain ⟨hp6, hd9, hax, hb, le, la, td, kt, sh, so, had, gr, fi, se, at_, sn, ik, cu, st, hml, him, rfl⟩ := hS
  obtain ⟨htp, rtp, htl9, hto, rto, htc, hre⟩ := id hax
  obtain ⟨hle, hla, htd, hkt, hsh, hso, hha, hgr, hfi, hse⟩ := id hml
  obtain ⟨hp7, hk, hf, hc, hn, hkp, hl, rk, rf, rc, rn, rkp, rl, ht0, ht1, hd0, hd1⟩ := id hb
  obtain ⟨hx1, hx2⟩ := hx
  refine aEv_of okX8_firstShort caX8_firstShort (Nat.le_of_ble_eq_true rfl) ?_
  refine aGo okX8_firstShort 3 (f' := (3, [some (.inr 192), some (.inl x), none, none, none, none], [.inl 1, .inl 0, .inl x], _)) rfl ?_
  by_cases hc3 : 0 ≤ x ∧ x ≤ 1
  · refine b_vS (as := [.inl x, .inl 0, .inl 1]) (rest := []) (.inl 1) okX8_firstShort rfl lkX8_97 caX8_isIn (Nat.le_of_ble_eq_true rfl) rfl (Nat.le_of_ble_eq_true rfl) rfl (c_isIn_t ⟨by omega, by omega⟩ ⟨by omega, by omega⟩ ⟨by omega, by omega⟩ hc3) ?_
    refine b0_ne (tgt := 16) okX8_firstShort rfl rfl ⟨by omega, by omega⟩ (fun h6 => ?_) (fun h6 => absurd h6 (by omega))
    exact absurd (by unfold wy_firstShort; (repeat' split) <;> omega) hw0
  · refine b_vS (as := [.inl x, .inl 0, .inl 1]) (rest := []) (.inl 0) okX8_firstShort rfl lkX8_97 caX8_isIn (Nat.le_of_ble_eq_true rfl) rfl (Nat.le_of_ble_eq_true rfl) rfl (c_isIn_f ⟨by omega, by omega⟩ ⟨by omega, by omega⟩ ⟨by omega, by omega⟩ hc3) ?_
    refine b0_ne (tgt := 16) okX8_firstShort rfl rfl ⟨by omega, by omega⟩ (fun h6 => absurd h6 (by omega)) (fun h6 => ?_)
    refine aGo okX8_firstShort 2 (f' := (12, [some (.inr 192), some (.inl x), none, none, none, none], [.inl (-2), .inr 192], _)) rfl ?_
    refine b_vE (as := [.inl (-2)]) (rest := []) (k := 192) okX8_firstShort rfl lkX8_86 caX8_no (Nat.le_of_ble_eq_true rfl) rfl (Nat.le_of_ble_eq_true rfl) rfl rfl rfl (c_no_2 hre) ?_
    rintro _ _ ⟨rfl, rfl⟩
    have hw : (wy_firstShort x) = -2 := by unfold wy_firstShort; (repeat' split) <;> omega
    exact b_ret (v := (some (.inl (-2)))) ⟨rfl, Or.inl rfl⟩ ⟨by rw [hw]; first | done | rfl, by rw [hw, bump_2]; exact mSt_of hp6 hd9 ⟨htp, rtp, htl9, hto, rto, htc, by rw [List.length_set]; exact hre⟩ hb hml him⟩ rfl
set_option maxRecDepth 100000 in
set_option maxHeartbeats 4000000 in
theorem mr_lasts {imt : Int} {tc : Nat} {k f c n kp l : List Int} {p : Nat} {t d : Int} {to re : List Int} {tl : Nat} {tp : List Int} {I : moT} {A0 A1 A2 A3 A4 A5 : List (Option aE)} {h : aH} {N : Nat} (hS : mSt imt tc k f c n kp l p t d to re tl tp I A0 A1 A2 A3 A4 A5 h) {x : Int} (hx : aI x) (hw0 : (wy_lasts p x) ≠ 0) : aEv mX8_lasts 8 0 0 N [.inr 192, .inl x] h (fun rv h2 => rv = some (.inl ((wy_lasts p x))) ∧ mSt imt tc k f c n kp l p t d to (bump re (wy_lasts p x)) tl tp I A0 A1 A2 A3 A4 A5 h2) := by
  obtain ⟨hp6, hd9, hax, hb, le, la, td, kt, sh, so, had, gr, fi, se, at_, sn, ik, cu, st, hml, him, rfl⟩ := hS
  obtain ⟨htp, rtp, htl9, hto, rto, htc, hre⟩ := id hax
  obtain ⟨hle, hla, htd, hkt, hsh, hso, hha, hgr, hfi, hse⟩ := id hml
  obtain ⟨hp7, hk, hf, hc, hn, hkp, hl, rk, rf, rc, rn, rkp, rl, ht0, ht1, hd0, hd1⟩ := id hb
  obtain ⟨hx1, hx2⟩ := hx
  refine aEv_of okX8_lasts caX8_lasts (Nat.le_of_ble_eq_true rfl) ?_
  refine aGo okX8_lasts 2 (f' := (2, [some (.inr 192), some (.inl x), none], [.inl x, .inr 192], _)) rfl ?_
  by_cases hc2 : 0 ≤ x ∧ x < (p : Int)
  · refine b_vV (as := [.inl x]) (rest := []) (k := 192) (.inl 1) okX8_lasts rfl lkX8_75 caX8_isOne (Nat.le_of_ble_eq_true rfl) rfl (Nat.le_of_ble_eq_true rfl) rfl rfl rfl (c_isOne_t hp7 hc2) ?_
    refine b0_ne (tgt := 14) okX8_lasts rfl rfl ⟨by omega, by omega⟩ (fun h5 => ?_) (fun h5 => absurd h5 (by omega))
    exact absurd (by unfold wy_lasts; (repeat' split) <;> omega) hw0
  · refine b_vV (as := [.inl x]) (rest := []) (k := 192) (.inl 0) okX8_lasts rfl lkX8_75 caX8_isOne (Nat.le_of_ble_eq_true rfl) rfl (Nat.le_of_ble_eq_true rfl) rfl rfl rfl (c_isOne_f hp7 ⟨by omega, by omega⟩ hc2) ?_
    refine b0_ne (tgt := 14) okX8_lasts rfl rfl ⟨by omega, by omega⟩ (fun h5 => absurd h5 (by omega)) (fun h5 => ?_)
    refine aGo okX8_lasts 2 (f' := (10, [some (.inr 192), some (.inl x), none], [.inl (-1), .inr 192], _)) rfl ?_
    refine b_vE (as := [.inl (-1)]) (rest := []) (k := 192) okX8_lasts rfl lkX8_86 caX8_no (Nat.le_of_ble_eq_true rfl) rfl (Nat.le_of_ble_eq_true rfl) rfl rfl rfl (c_no_1 hre) ?_
    rintro _ _ ⟨rfl, rfl⟩
    have hw : (wy_lasts p x) = -1 := by unfold wy_lasts; (repeat' split) <;> omega
    exact b_ret (v := (some (.inl (-1)))) ⟨rfl, Or.inl rfl⟩ ⟨by rw [hw]; first | done | rfl, by rw [hw, bump_1]; exact mSt_of hp6 hd9 ⟨htp, rtp, htl9, hto, rto, htc, by rw [List.length_set]; exact hre⟩ hb hml him⟩ rfl
set_option maxRecDepth 100000 in
set_option maxHeartbeats 4000000 in
theorem mr_bestCell {imt : Int} {tc : Nat} {k f c n kp l : List Int} {p : Nat} {t d : Int} {to re : List Int} {tl : Nat} {tp : List Int} {I : moT} {A0 A1 A2 A3 A4 A5 : List (Option aE)} {h : aH} {N : Nat} (hS : mSt imt tc k f c n kp l p t d to re tl tp I A0 A1 A2 A3 A4 A5 h) {x : Int} (hx : aI x) {y : Int} (hy : aI y) (hw0 : (wy_bestCell p x y) ≠ 0) : aEv mX8_bestCell 6 0 0 N [.inr 192, .inl x, .inl y] h (fun rv h2 => rv = some (.inl ((wy_bestCell p x y))) ∧ mSt imt tc k f c n kp l p t d to (bump re (wy_bestCell p x y)) tl tp I A0 A1 A2 A3 A4 A5 h2) := by
  obtain ⟨hp6, hd9, hax, hb, le, la, td, kt, sh, so, had, gr, fi, se, at_, sn, ik, cu, st, hml, him, rfl⟩ := hS
  obtain ⟨htp, rtp, htl9, hto, rto, htc, hre⟩ := id hax
  obtain ⟨hle, hla, htd, hkt, hsh, hso, hha, hgr, hfi, hse⟩ := id hml
  obtain ⟨hp7, hk, hf, hc, hn, hkp, hl, rk, rf, rc, rn, rkp, rl, ht0, ht1, hd0, hd1⟩ := id hb
  obtain ⟨hx1, hx2⟩ := hx
  obtain ⟨hy1, hy2⟩ := hy
  refine aEv_of okX8_bestCell caX8_bestCell (Nat.le_of_ble_eq_true rfl) ?_
  refine aGo okX8_bestCell 2 (f' := (2, [some (.inr 192), some (.inl x), some (.inl y), none, none, none, none, none, none], [.inl x, .inr 192], _)) rfl ?_
  by_cases hc2 : 0 ≤ x ∧ x < (p : Int)
  · refine b_vV (as := [.inl x]) (rest := []) (k := 192) (.inl 1) okX8_bestCell rfl lkX8_75 caX8_isOne (Nat.le_of_ble_eq_true rfl) rfl (Nat.le_of_ble_eq_true rfl) rfl rfl rfl (c_isOne_t hp7 hc2) ?_
    refine b0_ne (tgt := 12) okX8_bestCell rfl rfl ⟨by omega, by omega⟩ (fun h5 => ?_) (fun h5 => absurd h5 (by omega))
    refine aGo okX8_bestCell 3 (f' := (15, [some (.inr 192), some (.inl x), some (.inl y), none, none, none, none, none, none], [.inl 2, .inl 0, .inl y], _)) rfl ?_
    by_cases hc15 : 0 ≤ y ∧ y ≤ 2
    · refine b_vS (as := [.inl y, .inl 0, .inl 2]) (rest := []) (.inl 1) okX8_bestCell rfl lkX8_97 caX8_isIn (Nat.le_of_ble_eq_true rfl) rfl (Nat.le_of_ble_eq_true rfl) rfl (c_isIn_t ⟨by omega, by omega⟩ ⟨by omega, by omega⟩ ⟨by omega, by omega⟩ hc15) ?_
      refine b0_ne (tgt := 26) okX8_bestCell rfl rfl ⟨by omega, by omega⟩ (fun h18 => ?_) (fun h18 => absurd h18 (by omega))
      refine aGo okX8_bestCell 3 (f' := (29, [some (.inr 192), some (.inl x), some (.inl y), some (.inl 0), none, none, none, none, none], [.inl 0], _)) rfl ?_
      refine b0_eq (tgt := 38) okX8_bestCell rfl rfl ⟨by omega, by omega⟩ (fun h29 => ?_) (fun h29 => absurd h29 (by omega))
      exact absurd (by unfold wy_bestCell; (repeat' split) <;> omega) hw0
    · refine b_vS (as := [.inl y, .inl 0, .inl 2]) (rest := []) (.inl 0) okX8_bestCell rfl lkX8_97 caX8_isIn (Nat.le_of_ble_eq_true rfl) rfl (Nat.le_of_ble_eq_true rfl) rfl (c_isIn_f ⟨by omega, by omega⟩ ⟨by omega, by omega⟩ ⟨by omega, by omega⟩ hc15) ?_
      refine b0_ne (tgt := 26) okX8_bestCell rfl rfl ⟨by omega, by omega⟩ (fun h18 => absurd h18 (by omega)) (fun h18 => ?_)
      refine aGo okX8_bestCell 4 (f' := (29, [some (.inr 192), some (.inl x), some (.inl y), some (.inl (-2)), none, none, none, none, none], [.inl (-2)], _)) rfl ?_
      refine b0_eq (tgt := 38) okX8_bestCell rfl rfl ⟨by omega, by omega⟩ (fun h29 => absurd h29 (by omega)) (fun h29 => ?_)
      refine aGo okX8_bestCell 2 (f' := (34, [some (.inr 192), some (.inl x), some (.inl y), some (.inl (-2)), none, none, none, none, none], [.inl (-2), .inr 192], _)) rfl ?_
      refine b_vE (as := [.inl (-2)]) (rest := []) (k := 192) okX8_bestCell rfl lkX8_86 caX8_no (Nat.le_of_ble_eq_true rfl) rfl (Nat.le_of_ble_eq_true rfl) rfl rfl rfl (c_no_2 hre) ?_
      rintro _ _ ⟨rfl, rfl⟩
      have hw : (wy_bestCell p x y) = -2 := by unfold wy_bestCell; (repeat' split) <;> omega
      exact b_ret (v := (some (.inl (-2)))) ⟨rfl, Or.inl rfl⟩ ⟨by rw [hw]; first | done | rfl, by rw [hw, bump_2]; exact mSt_of hp6 hd9 ⟨htp, rtp, htl9, hto, rto, htc, by rw [List.length_set]; exact hre⟩ hb hml him⟩ rfl
  · refine b_vV (as := [.inl x]) (rest := []) (k := 192) (.inl 0) okX8_bestCell rfl lkX8_75 caX8_isOne (Nat.le_of_ble_eq_true rfl) rfl (Nat.le_of_ble_eq_true rfl) rfl rfl rfl (c_isOne_f hp7 ⟨by omega, by omega⟩ hc2) ?_
    refine b0_ne (tgt := 12) okX8_bestCell rfl rfl ⟨by omega, by omega⟩ (fun h5 => absurd h5 (by omega)) (fun h5 => ?_)
    refine aGo okX8_bestCell 4 (f' := (29, [some (.inr 192), some (.inl x), some (.inl y), some (.inl (-1)), none, none, none, none, none], [.inl (-1)], _)) rfl ?_
    refine b0_eq (tgt := 38) okX8_bestCell rfl rfl ⟨by omega, by omega⟩ (fun h29 => absurd h29 (by omega)) (fun h29 => ?_)
    refine aGo okX8_bestCell 2 (f' := (34, [some (.inr 192), some (.inl x), some (.inl y), some (.inl (-1)), none, none, none, none, none], [.inl (-1), .inr 192], _)) rfl ?_
    refine b_vE (as := [.inl (-1)]) (rest := []) (k := 192) okX8_bestCell rfl lkX8_86 caX8_no (Nat.le_of_ble_eq_true rfl) rfl (Nat.le_of_ble_eq_true rfl) rfl rfl rfl (c_no_1 hre) ?_
    rintro _ _ ⟨rfl, rfl⟩
    have hw : (wy_bestCell p x y) = -1 := by unfold wy_bestCell; (repeat' split) <;> omega
    exact b_ret (v := (some (.inl (-1)))) ⟨rfl, Or.inl rfl⟩ ⟨by rw [hw]; first | done | rfl, by rw [hw, bump_1]; exact mSt_of hp6 hd9 ⟨htp, rtp, htl9, hto, rto, htc, by rw [List.length_set]; exact hre⟩ hb hml him⟩ rfl
set_option maxRecDepth 100000 in
set_option maxHeartbeats 4000000 in
theorem mr_takes {imt : Int} {tc : Nat} {k f c n kp l : List Int} {p : Nat} {t d : Int} {to re : List Int} {tl : Nat} {tp : List Int} {I : moT} {A0 A1 A2 A3 A4 A5 : List (Option aE)} {h : aH} {N : Nat} (hS : mSt imt tc k f c n kp l p t d to re tl tp I A0 A1 A2 A3 A4 A5 h) {x : Int} (hx : aI x) {y : Int} (hy : aI y) (hw0 : (wy_takes p x y) ≠ 0) : aEv mX8_takes 7 0 0 N [.inr 192, .inl x, .inl y] h (fun rv h2 => rv = some (.inl (1000000000 - (wy_takes p x y))) ∧ mSt imt tc k f c n kp l p t d to (bump re (wy_takes p x y)) tl tp I A0 A1 A2 A3 A4 A5 h2) := by
  obtain ⟨hp6, hd9, hax, hb, le, la, td, kt, sh, so, had, gr, fi, se, at_, sn, ik, cu, st, hml, him, rfl⟩ := hS
  obtain ⟨htp, rtp, htl9, hto, rto, htc, hre⟩ := id hax
  obtain ⟨hle, hla, htd, hkt, hsh, hso, hha, hgr, hfi, hse⟩ := id hml
  obtain ⟨hp7, hk, hf, hc, hn, hkp, hl, rk, rf, rc, rn, rkp, rl, ht0, ht1, hd0, hd1⟩ := id hb
  obtain ⟨hx1, hx2⟩ := hx
  obtain ⟨hy1, hy2⟩ := hy
  refine aEv_of okX8_takes caX8_takes (Nat.le_of_ble_eq_true rfl) ?_
  refine aGo okX8_takes 3 (f' := (3, [some (.inr 192), some (.inl x), some (.inl y)], [.inl y, .inl x, .inr 192], _)) rfl ?_
  by_cases hc3 : 0 ≤ x ∧ x < (p : Int) ∧ 0 ≤ y ∧ y < (p : Int) ∧ x ≠ y
  · refine b_vV (as := [.inl x, .inl y]) (rest := []) (k := 192) (.inl 1) okX8_takes rfl lkX8_134 caX8_areTwo (Nat.le_of_ble_eq_true rfl) rfl (Nat.le_of_ble_eq_true rfl) rfl rfl rfl (c_mTwo_t hp7 ⟨by omega, by omega⟩ ⟨by omega, by omega⟩ (by omega)) ?_
    refine b0_eq (tgt := 18) okX8_takes rfl rfl ⟨by omega, by omega⟩ (fun h6 => absurd h6 (by omega)) (fun h6 => ?_)
    refine aGo okX8_takes 3 (f' := (12, [some (.inr 192), some (.inl x), some (.inl y)], [.inl y, .inl x, .inr 192], _)) rfl ?_
    exact absurd (by unfold wy_takes; (repeat' split) <;> omega) hw0
  · refine b_vV (as := [.inl x, .inl y]) (rest := []) (k := 192) (.inl 0) okX8_takes rfl lkX8_134 caX8_areTwo (Nat.le_of_ble_eq_true rfl) rfl (Nat.le_of_ble_eq_true rfl) rfl rfl rfl (c_mTwo_f hp7 ⟨by omega, by omega⟩ ⟨by omega, by omega⟩ hc3) ?_
    refine b0_eq (tgt := 18) okX8_takes rfl rfl ⟨by omega, by omega⟩ (fun h6 => ?_) (fun h6 => absurd h6 (by omega))
    refine aGo okX8_takes 2 (f' := (20, [some (.inr 192), some (.inl x), some (.inl y)], [.inl (-1), .inr 192], _)) rfl ?_
    refine b_vE (as := [.inl (-1)]) (rest := []) (k := 192) okX8_takes rfl lkX8_211 caX8_lower (Nat.le_of_ble_eq_true rfl) rfl (Nat.le_of_ble_eq_true rfl) rfl rfl rfl (c_lower_1 hre) ?_
    rintro _ _ ⟨rfl, rfl⟩
    have hw : (wy_takes p x y) = -1 := by unfold wy_takes; (repeat' split) <;> omega
    exact b_ret (v := (some (.inl 1000000001))) ⟨rfl, Or.inl rfl⟩ ⟨by rw [hw]; first | done | rfl, by rw [hw, bump_1]; exact mSt_of hp6 hd9 ⟨htp, rtp, htl9, hto, rto, htc, by rw [List.length_set]; exact hre⟩ hb hml him⟩ rfl
set_option maxRecDepth 100000 in
set_option maxHeartbeats 4000000 in
theorem mr_worst {imt : Int} {tc : Nat} {k f c n kp l : List Int} {p : Nat} {t d : Int} {to re : List Int} {tl : Nat} {tp : List Int} {I : moT} {A0 A1 A2 A3 A4 A5 : List (Option aE)} {h : aH} {N : Nat} (hS : mSt imt tc k f c n kp l p t d to re tl tp I A0 A1 A2 A3 A4 A5 h) {x : Int} (hx : aI x) (hw0 : (wy_worst p x) ≠ 0) : aEv mX8_worst 7 0 0 N [.inr 192, .inl x] h (fun rv h2 => rv = some (.inl ((wy_worst p x))) ∧ mSt imt tc k f c n kp l p t d to (bump re (wy_worst p x)) tl tp I A0 A1 A2 A3 A4 A5 h2) := by
  obtain ⟨hp6, hd9, hax, hb, le, la, td, kt, sh, so, had, gr, fi, se, at_, sn, ik, cu, st, hml, him, rfl⟩ := hS
  obtain ⟨htp, rtp, htl9, hto, rto, htc, hre⟩ := id hax
  obtain ⟨hle, hla, htd, hkt, hsh, hso, hha, hgr, hfi, hse⟩ := id hml
  obtain ⟨hp7, hk, hf, hc, hn, hkp, hl, rk, rf, rc, rn, rkp, rl, ht0, ht1, hd0, hd1⟩ := id hb
  obtain ⟨hx1, hx2⟩ := hx
  refine aEv_of okX8_worst caX8_worst (Nat.le_of_ble_eq_true rfl) ?_
  refine aGo okX8_worst 2 (f' := (2, [some (.inr 192), some (.inl x), none, none, none, none], [.inl x, .inr 192], _)) rfl ?_
  by_cases hc2 : 0 ≤ x ∧ x < (p : Int)
  · refine b_vV (as := [.inl x]) (rest := []) (k := 192) (.inl 1) okX8_worst rfl lkX8_75 caX8_isOne (Nat.le_of_ble_eq_true rfl) rfl (Nat.le_of_ble_eq_true rfl) rfl rfl rfl (c_isOne_t hp7 hc2) ?_
    refine b0_ne (tgt := 14) okX8_worst rfl rfl ⟨by omega, by omega⟩ (fun h5 => ?_) (fun h5 => absurd h5 (by omega))
    exact absurd (by unfold wy_worst; (repeat' split) <;> omega) hw0
  · refine b_vV (as := [.inl x]) (rest := []) (k := 192) (.inl 0) okX8_worst rfl lkX8_75 caX8_isOne (Nat.le_of_ble_eq_true rfl) rfl (Nat.le_of_ble_eq_true rfl) rfl rfl rfl (c_isOne_f hp7 ⟨by omega, by omega⟩ hc2) ?_
    refine b0_ne (tgt := 14) okX8_worst rfl rfl ⟨by omega, by omega⟩ (fun h5 => absurd h5 (by omega)) (fun h5 => ?_)
    refine aGo okX8_worst 2 (f' := (10, [some (.inr 192), some (.inl x), none, none, none, none], [.inl (-1), .inr 192], _)) rfl ?_
    refine b_vE (as := [.inl (-1)]) (rest := []) (k := 192) okX8_worst rfl lkX8_86 caX8_no (Nat.le_of_ble_eq_true rfl) rfl (Nat.le_of_ble_eq_true rfl) rfl rfl rfl (c_no_1 hre) ?_
    rintro _ _ ⟨rfl, rfl⟩
    have hw : (wy_worst p x) = -1 := by unfold wy_worst; (repeat' split) <;> omega
    exact b_ret (v := (some (.inl (-1)))) ⟨rfl, Or.inl rfl⟩ ⟨by rw [hw]; first | done | rfl, by rw [hw, bump_1]; exact mSt_of hp6 hd9 ⟨htp, rtp, htl9, hto, rto, htc, by rw [List.length_set]; exact hre⟩ hb hml him⟩ rfl
set_option maxRecDepth 100000 in
set_option maxHeartbeats 4000000 in
theorem mr_newcomer {imt : Int} {tc : Nat} {k f c n kp l : List Int} {p : Nat} {t d : Int} {to re : List Int} {tl : Nat} {tp : List Int} {I : moT} {A0 A1 A2 A3 A4 A5 : List (Option aE)} {h : aH} {N : Nat} (hS : mSt imt tc k f c n kp l p t d to re tl tp I A0 A1 A2 A3 A4 A5 h) {x : Int} (hx : aI x) {y : Int} (hy : aI y) (hw0 : (wy_newcomer x y) ≠ 0) : aEv mX8_newcomer 6 0 0 N [.inr 192, .inl x, .inl y] h (fun rv h2 => rv = some (.inl (1000000000 - (wy_newcomer x y))) ∧ mSt imt tc k f c n kp l p t d to (bump re (wy_newcomer x y)) tl tp I A0 A1 A2 A3 A4 A5 h2) := by
  obtain ⟨hp6, hd9, hax, hb, le, la, td, kt, sh, so, had, gr, fi, se, at_, sn, ik, cu, st, hml, him, rfl⟩ := hS
  obtain ⟨htp, rtp, htl9, hto, rto, htc, hre⟩ := id hax
  obtain ⟨hle, hla, htd, hkt, hsh, hso, hha, hgr, hfi, hse⟩ := id hml
  obtain ⟨hp7, hk, hf, hc, hn, hkp, hl, rk, rf, rc, rn, rkp, rl, ht0, ht1, hd0, hd1⟩ := id hb
  obtain ⟨hx1, hx2⟩ := hx
  obtain ⟨hy1, hy2⟩ := hy
  refine aEv_of okX8_newcomer caX8_newcomer (Nat.le_of_ble_eq_true rfl) ?_
  refine aGo okX8_newcomer 1 (f' := (1, [some (.inr 192), some (.inl x), some (.inl y), none, none, none, none], [.inl x], _)) rfl ?_
  by_cases hc1 : 0 ≤ x ∧ x ≤ 35
  · refine b_vS (as := [.inl x]) (rest := []) (.inl 1) okX8_newcomer rfl lkX8_117 caX8_isCell (Nat.le_of_ble_eq_true rfl) rfl (Nat.le_of_ble_eq_true rfl) rfl (c_mCell_t hc1) ?_
    refine b0_ne (tgt := 11) okX8_newcomer rfl rfl ⟨by omega, by omega⟩ (fun h4 => ?_) (fun h4 => absurd h4 (by omega))
    refine aGo okX8_newcomer 3 (f' := (14, [some (.inr 192), some (.inl x), some (.inl y), none, none, none, none], [.inl 1, .inl 0, .inl y], _)) rfl ?_
    by_cases hc14 : 0 ≤ y ∧ y ≤ 1
    · refine b_vS (as := [.inl y, .inl 0, .inl 1]) (rest := []) (.inl 1) okX8_newcomer rfl lkX8_97 caX8_isIn (Nat.le_of_ble_eq_true rfl) rfl (Nat.le_of_ble_eq_true rfl) rfl (c_isIn_t ⟨by omega, by omega⟩ ⟨by omega, by omega⟩ ⟨by omega, by omega⟩ hc14) ?_
      refine b0_ne (tgt := 25) okX8_newcomer rfl rfl ⟨by omega, by omega⟩ (fun h17 => ?_) (fun h17 => absurd h17 (by omega))
      refine aGo okX8_newcomer 3 (f' := (28, [some (.inr 192), some (.inl x), some (.inl y), some (.inl 0), none, none, none], [.inl 0], _)) rfl ?_
      refine b0_eq (tgt := 37) okX8_newcomer rfl rfl ⟨by omega, by omega⟩ (fun h28 => ?_) (fun h28 => absurd h28 (by omega))
      exact absurd (by unfold wy_newcomer; (repeat' split) <;> omega) hw0
    · refine b_vS (as := [.inl y, .inl 0, .inl 1]) (rest := []) (.inl 0) okX8_newcomer rfl lkX8_97 caX8_isIn (Nat.le_of_ble_eq_true rfl) rfl (Nat.le_of_ble_eq_true rfl) rfl (c_isIn_f ⟨by omega, by omega⟩ ⟨by omega, by omega⟩ ⟨by omega, by omega⟩ hc14) ?_
      refine b0_ne (tgt := 25) okX8_newcomer rfl rfl ⟨by omega, by omega⟩ (fun h17 => absurd h17 (by omega)) (fun h17 => ?_)
      refine aGo okX8_newcomer 4 (f' := (28, [some (.inr 192), some (.inl x), some (.inl y), some (.inl (-2)), none, none, none], [.inl (-2)], _)) rfl ?_
      refine b0_eq (tgt := 37) okX8_newcomer rfl rfl ⟨by omega, by omega⟩ (fun h28 => absurd h28 (by omega)) (fun h28 => ?_)
      refine aGo okX8_newcomer 2 (f' := (33, [some (.inr 192), some (.inl x), some (.inl y), some (.inl (-2)), none, none, none], [.inl (-2), .inr 192], _)) rfl ?_
      refine b_vE (as := [.inl (-2)]) (rest := []) (k := 192) okX8_newcomer rfl lkX8_211 caX8_lower (Nat.le_of_ble_eq_true rfl) rfl (Nat.le_of_ble_eq_true rfl) rfl rfl rfl (c_lower_2 hre) ?_
      rintro _ _ ⟨rfl, rfl⟩
      have hw : (wy_newcomer x y) = -2 := by unfold wy_newcomer; (repeat' split) <;> omega
      exact b_ret (v := (some (.inl 1000000002))) ⟨rfl, Or.inl rfl⟩ ⟨by rw [hw]; first | done | rfl, by rw [hw, bump_2]; exact mSt_of hp6 hd9 ⟨htp, rtp, htl9, hto, rto, htc, by rw [List.length_set]; exact hre⟩ hb hml him⟩ rfl
  · refine b_vS (as := [.inl x]) (rest := []) (.inl 0) okX8_newcomer rfl lkX8_117 caX8_isCell (Nat.le_of_ble_eq_true rfl) rfl (Nat.le_of_ble_eq_true rfl) rfl (c_mCell_f ⟨by omega, by omega⟩ hc1) ?_
    refine b0_ne (tgt := 11) okX8_newcomer rfl rfl ⟨by omega, by omega⟩ (fun h4 => absurd h4 (by omega)) (fun h4 => ?_)
    refine aGo okX8_newcomer 4 (f' := (28, [some (.inr 192), some (.inl x), some (.inl y), some (.inl (-1)), none, none, none], [.inl (-1)], _)) rfl ?_
    refine b0_eq (tgt := 37) okX8_newcomer rfl rfl ⟨by omega, by omega⟩ (fun h28 => absurd h28 (by omega)) (fun h28 => ?_)
    refine aGo okX8_newcomer 2 (f' := (33, [some (.inr 192), some (.inl x), some (.inl y), some (.inl (-1)), none, none, none], [.inl (-1), .inr 192], _)) rfl ?_
    refine b_vE (as := [.inl (-1)]) (rest := []) (k := 192) okX8_newcomer rfl lkX8_211 caX8_lower (Nat.le_of_ble_eq_true rfl) rfl (Nat.le_of_ble_eq_true rfl) rfl rfl rfl (c_lower_1 hre) ?_
    rintro _ _ ⟨rfl, rfl⟩
    have hw : (wy_newcomer x y) = -1 := by unfold wy_newcomer; (repeat' split) <;> omega
    exact b_ret (v := (some (.inl 1000000001))) ⟨rfl, Or.inl rfl⟩ ⟨by rw [hw]; first | done | rfl, by rw [hw, bump_1]; exact mSt_of hp6 hd9 ⟨htp, rtp, htl9, hto, rto, htc, by rw [List.length_set]; exact hre⟩ hb hml him⟩ rfl
set_option maxRecDepth 100000 in
set_option maxHeartbeats 4000000 in
theorem mr_leaves {imt : Int} {tc : Nat} {k f c n kp l : List Int} {p : Nat} {t d : Int} {to re : List Int} {tl : Nat} {tp : List Int} {I : moT} {A0 A1 A2 A3 A4 A5 : List (Option aE)} {h : aH} {N : Nat} (hS : mSt imt tc k f c n kp l p t d to re tl tp I A0 A1 A2 A3 A4 A5 h) {x : Int} (hx : aI x) (hw0 : (wy_leaves x) ≠ 0) : aEv mX8_leaves 7 0 0 N [.inr 192, .inl x] h (fun rv h2 => rv = some (.inl ((wy_leaves x))) ∧ mSt imt tc k f c n kp l p t d to (bump re (wy_leaves x)) tl tp I A0 A1 A2 A3 A4 A5 h2) := by
  obtain ⟨hp6, hd9, hax, hb, le, la, td, kt, sh, so, had, gr, fi, se, at_, sn, ik, cu, st, hml, him, rfl⟩ := hS
  obtain ⟨htp, rtp, htl9, hto, rto, htc, hre⟩ := id hax
  obtain ⟨hle, hla, htd, hkt, hsh, hso, hha, hgr, hfi, hse⟩ := id hml
  obtain ⟨hp7, hk, hf, hc, hn, hkp, hl, rk, rf, rc, rn, rkp, rl, ht0, ht1, hd0, hd1⟩ := id hb
  obtain ⟨hx1, hx2⟩ := hx
  refine aEv_of okX8_leaves caX8_leaves (Nat.le_of_ble_eq_true rfl) ?_
  refine aGo okX8_leaves 3 (f' := (3, [some (.inr 192), some (.inl x), none, none, none, none], [.inl 1, .inl 0, .inl x], _)) rfl ?_
  by_cases hc3 : 0 ≤ x ∧ x ≤ 1
  · refine b_vS (as := [.inl x, .inl 0, .inl 1]) (rest := []) (.inl 1) okX8_leaves rfl lkX8_97 caX8_isIn (Nat.le_of_ble_eq_true rfl) rfl (Nat.le_of_ble_eq_true rfl) rfl (c_isIn_t ⟨by omega, by omega⟩ ⟨by omega, by omega⟩ ⟨by omega, by omega⟩ hc3) ?_
    refine b0_ne (tgt := 16) okX8_leaves rfl rfl ⟨by omega, by omega⟩ (fun h6 => ?_) (fun h6 => absurd h6 (by omega))
    exact absurd (by unfold wy_leaves; (repeat' split) <;> omega) hw0
  · refine b_vS (as := [.inl x, .inl 0, .inl 1]) (rest := []) (.inl 0) okX8_leaves rfl lkX8_97 caX8_isIn (Nat.le_of_ble_eq_true rfl) rfl (Nat.le_of_ble_eq_true rfl) rfl (c_isIn_f ⟨by omega, by omega⟩ ⟨by omega, by omega⟩ ⟨by omega, by omega⟩ hc3) ?_
    refine b0_ne (tgt := 16) okX8_leaves rfl rfl ⟨by omega, by omega⟩ (fun h6 => absurd h6 (by omega)) (fun h6 => ?_)
    refine aGo okX8_leaves 2 (f' := (12, [some (.inr 192), some (.inl x), none, none, none, none], [.inl (-2), .inr 192], _)) rfl ?_
    refine b_vE (as := [.inl (-2)]) (rest := []) (k := 192) okX8_leaves rfl lkX8_86 caX8_no (Nat.le_of_ble_eq_true rfl) rfl (Nat.le_of_ble_eq_true rfl) rfl rfl rfl (c_no_2 hre) ?_
    rintro _ _ ⟨rfl, rfl⟩
    have hw : (wy_leaves x) = -2 := by unfold wy_leaves; (repeat' split) <;> omega
    exact b_ret (v := (some (.inl (-2)))) ⟨rfl, Or.inl rfl⟩ ⟨by rw [hw]; first | done | rfl, by rw [hw, bump_2]; exact mSt_of hp6 hd9 ⟨htp, rtp, htl9, hto, rto, htc, by rw [List.length_set]; exact hre⟩ hb hml him⟩ rfl
set_option maxRecDepth 100000 in
set_option maxHeartbeats 4000000 in
theorem mr_help {imt : Int} {tc : Nat} {k f c n kp l : List Int} {p : Nat} {t d : Int} {to re : List Int} {tl : Nat} {tp : List Int} {I : moT} {A0 A1 A2 A3 A4 A5 : List (Option aE)} {h : aH} {N : Nat} (hS : mSt imt tc k f c n kp l p t d to re tl tp I A0 A1 A2 A3 A4 A5 h) {x : Int} (hx : aI x) {y : Int} (hy : aI y) (hw0 : (wy_help x y) ≠ 0) : aEv mX8_help 7 0 0 N [.inr 192, .inl x, .inl y] h (fun rv h2 => rv = some (.inl ((wy_help x y))) ∧ mSt imt tc k f c n kp l p t d to (bump re (wy_help x y)) tl tp I A0 A1 A2 A3 A4 A5 h2) := by
  obtain ⟨hp6, hd9, hax, hb, le, la, td, kt, sh, so, had, gr, fi, se, at_, sn, ik, cu, st, hml, him, rfl⟩ := hS
  obtain ⟨htp, rtp, htl9, hto, rto, htc, hre⟩ := id hax
  obtain ⟨hle, hla, htd, hkt, hsh, hso, hha, hgr, hfi, hse⟩ := id hml
  obtain ⟨hp7, hk, hf, hc, hn, hkp, hl, rk, rf, rc, rn, rkp, rl, ht0, ht1, hd0, hd1⟩ := id hb
  obtain ⟨hx1, hx2⟩ := hx
  obtain ⟨hy1, hy2⟩ := hy
  refine aEv_of okX8_help caX8_help (Nat.le_of_ble_eq_true rfl) ?_
  refine aGo okX8_help 3 (f' := (4, [some (.inr 192), some (.inl x), some (.inl y), none, none, none, none, none], [.inl 10, .inl 0, .inl x], _)) rfl ?_
  rcases (show (x < 0) ∨ (10 < x) ∨ (0 ≤ x ∧ x ≤ 10) from by omega) with hc4 | hc4 | hc4
  · refine b_vS (as := [.inl x, .inl 0, .inl 10]) (rest := []) (.inl (-4)) okX8_help rfl lkX8_79 caX8_bound (Nat.le_of_ble_eq_true rfl) rfl (Nat.le_of_ble_eq_true rfl) rfl (c_bound_l ⟨by omega, by omega⟩ ⟨by omega, by omega⟩ ⟨by omega, by omega⟩ hc4) ?_
    refine aGo okX8_help 2 (f' := (9, [some (.inr 192), some (.inl x), some (.inl y), some (.inl (-4)), none, none, none, none], [.inl (-4)], _)) rfl ?_
    refine b0_ne (tgt := 24) okX8_help rfl rfl ⟨by omega, by omega⟩ (fun h9 => ?_) (fun h9 => absurd h9 (by omega))
    refine aGo okX8_help 1 (f' := (25, [some (.inr 192), some (.inl x), some (.inl y), some (.inl (-4)), none, none, none, none], [.inl (-4)], _)) rfl ?_
    refine b0_eq (tgt := 34) okX8_help rfl rfl ⟨by omega, by omega⟩ (fun h25 => absurd h25 (by omega)) (fun h25 => ?_)
    refine aGo okX8_help 2 (f' := (30, [some (.inr 192), some (.inl x), some (.inl y), some (.inl (-4)), none, none, none, none], [.inl (-4), .inr 192], _)) rfl ?_
    refine b_vE (as := [.inl (-4)]) (rest := []) (k := 192) okX8_help rfl lkX8_86 caX8_no (Nat.le_of_ble_eq_true rfl) rfl (Nat.le_of_ble_eq_true rfl) rfl rfl rfl (c_no_4 hre) ?_
    rintro _ _ ⟨rfl, rfl⟩
    have hw : (wy_help x y) = -4 := by unfold wy_help; (repeat' split) <;> omega
    exact b_ret (v := (some (.inl (-4)))) ⟨rfl, Or.inl rfl⟩ ⟨by rw [hw]; first | done | rfl, by rw [hw, bump_4]; exact mSt_of hp6 hd9 ⟨htp, rtp, htl9, hto, rto, htc, by rw [List.length_set]; exact hre⟩ hb hml him⟩ rfl
  · refine b_vS (as := [.inl x, .inl 0, .inl 10]) (rest := []) (.inl (-6)) okX8_help rfl lkX8_79 caX8_bound (Nat.le_of_ble_eq_true rfl) rfl (Nat.le_of_ble_eq_true rfl) rfl (c_bound_h ⟨by omega, by omega⟩ ⟨by omega, by omega⟩ ⟨by omega, by omega⟩ (by omega) hc4) ?_
    refine aGo okX8_help 2 (f' := (9, [some (.inr 192), some (.inl x), some (.inl y), some (.inl (-6)), none, none, none, none], [.inl (-6)], _)) rfl ?_
    refine b0_ne (tgt := 24) okX8_help rfl rfl ⟨by omega, by omega⟩ (fun h9 => ?_) (fun h9 => absurd h9 (by omega))
    refine aGo okX8_help 1 (f' := (25, [some (.inr 192), some (.inl x), some (.inl y), some (.inl (-6)), none, none, none, none], [.inl (-6)], _)) rfl ?_
    refine b0_eq (tgt := 34) okX8_help rfl rfl ⟨by omega, by omega⟩ (fun h25 => absurd h25 (by omega)) (fun h25 => ?_)
    refine aGo okX8_help 2 (f' := (30, [some (.inr 192), some (.inl x), some (.inl y), some (.inl (-6)), none, none, none, none], [.inl (-6), .inr 192], _)) rfl ?_
    refine b_vE (as := [.inl (-6)]) (rest := []) (k := 192) okX8_help rfl lkX8_86 caX8_no (Nat.le_of_ble_eq_true rfl) rfl (Nat.le_of_ble_eq_true rfl) rfl rfl rfl (c_no_6 hre) ?_
    rintro _ _ ⟨rfl, rfl⟩
    have hw : (wy_help x y) = -6 := by unfold wy_help; (repeat' split) <;> omega
    exact b_ret (v := (some (.inl (-6)))) ⟨rfl, Or.inl rfl⟩ ⟨by rw [hw]; first | done | rfl, by rw [hw, bump_6]; exact mSt_of hp6 hd9 ⟨htp, rtp, htl9, hto, rto, htc, by rw [List.length_set]; exact hre⟩ hb hml him⟩ rfl
  · refine b_vS (as := [.inl x, .inl 0, .inl 10]) (rest := []) (.inl 0) okX8_help rfl lkX8_79 caX8_bound (Nat.le_of_ble_eq_true rfl) rfl (Nat.le_of_ble_eq_true rfl) rfl (c_bound_m ⟨by omega, by omega⟩ ⟨by omega, by omega⟩ ⟨by omega, by omega⟩ hc4) ?_
    refine aGo okX8_help 2 (f' := (9, [some (.inr 192), some (.inl x), some (.inl y), some (.inl 0), none, none, none, none], [.inl 0], _)) rfl ?_
    refine b0_ne (tgt := 24) okX8_help rfl rfl ⟨by omega, by omega⟩ (fun h9 => absurd h9 (by omega)) (fun h9 => ?_)
    refine aGo okX8_help 3 (f' := (15, [some (.inr 192), some (.inl x), some (.inl y), some (.inl 0), none, none, none, none], [.inl 1, .inl 0, .inl y], _)) rfl ?_
    by_cases hc15 : 0 ≤ y ∧ y ≤ 1
    · refine b_vS (as := [.inl y, .inl 0, .inl 1]) (rest := []) (.inl 1) okX8_help rfl lkX8_97 caX8_isIn (Nat.le_of_ble_eq_true rfl) rfl (Nat.le_of_ble_eq_true rfl) rfl (c_isIn_t ⟨by omega, by omega⟩ ⟨by omega, by omega⟩ ⟨by omega, by omega⟩ hc15) ?_
      refine b0_ne (tgt := 24) okX8_help rfl rfl ⟨by omega, by omega⟩ (fun h18 => ?_) (fun h18 => absurd h18 (by omega))
      refine aGo okX8_help 1 (f' := (25, [some (.inr 192), some (.inl x), some (.inl y), some (.inl 0), none, none, none, none], [.inl 0], _)) rfl ?_
      refine b0_eq (tgt := 34) okX8_help rfl rfl ⟨by omega, by omega⟩ (fun h25 => ?_) (fun h25 => absurd h25 (by omega))
      exact absurd (by unfold wy_help; (repeat' split) <;> omega) hw0
    · refine b_vS (as := [.inl y, .inl 0, .inl 1]) (rest := []) (.inl 0) okX8_help rfl lkX8_97 caX8_isIn (Nat.le_of_ble_eq_true rfl) rfl (Nat.le_of_ble_eq_true rfl) rfl (c_isIn_f ⟨by omega, by omega⟩ ⟨by omega, by omega⟩ ⟨by omega, by omega⟩ hc15) ?_
      refine b0_ne (tgt := 24) okX8_help rfl rfl ⟨by omega, by omega⟩ (fun h18 => absurd h18 (by omega)) (fun h18 => ?_)
      refine aGo okX8_help 3 (f' := (25, [some (.inr 192), some (.inl x), some (.inl y), some (.inl (-2)), none, none, none, none], [.inl (-2)], _)) rfl ?_
      refine b0_eq (tgt := 34) okX8_help rfl rfl ⟨by omega, by omega⟩ (fun h25 => absurd h25 (by omega)) (fun h25 => ?_)
      refine aGo okX8_help 2 (f' := (30, [some (.inr 192), some (.inl x), some (.inl y), some (.inl (-2)), none, none, none, none], [.inl (-2), .inr 192], _)) rfl ?_
      refine b_vE (as := [.inl (-2)]) (rest := []) (k := 192) okX8_help rfl lkX8_86 caX8_no (Nat.le_of_ble_eq_true rfl) rfl (Nat.le_of_ble_eq_true rfl) rfl rfl rfl (c_no_2 hre) ?_
      rintro _ _ ⟨rfl, rfl⟩
      have hw : (wy_help x y) = -2 := by unfold wy_help; (repeat' split) <;> omega
      exact b_ret (v := (some (.inl (-2)))) ⟨rfl, Or.inl rfl⟩ ⟨by rw [hw]; first | done | rfl, by rw [hw, bump_2]; exact mSt_of hp6 hd9 ⟨htp, rtp, htl9, hto, rto, htc, by rw [List.length_set]; exact hre⟩ hb hml him⟩ rfl
set_option maxRecDepth 100000 in
set_option maxHeartbeats 4000000 in
theorem mr_net {imt : Int} {tc : Nat} {k f c n kp l : List Int} {p : Nat} {t d : Int} {to re : List Int} {tl : Nat} {tp : List Int} {I : moT} {A0 A1 A2 A3 A4 A5 : List (Option aE)} {h : aH} {N : Nat} (hS : mSt imt tc k f c n kp l p t d to re tl tp I A0 A1 A2 A3 A4 A5 h) {x : Int} (hx : aI x) (hw0 : (wy_net p x) ≠ 0) : aEv mX8_net 3 0 0 N [.inr 192, .inl x] h (fun rv h2 => rv = some (.inl (1000000000 - (wy_net p x))) ∧ mSt imt tc k f c n kp l p t d to (bump re (wy_net p x)) tl tp I A0 A1 A2 A3 A4 A5 h2) := by
  obtain ⟨hp6, hd9, hax, hb, le, la, td, kt, sh, so, had, gr, fi, se, at_, sn, ik, cu, st, hml, him, rfl⟩ := hS
  obtain ⟨htp, rtp, htl9, hto, rto, htc, hre⟩ := id hax
  obtain ⟨hle, hla, htd, hkt, hsh, hso, hha, hgr, hfi, hse⟩ := id hml
  obtain ⟨hp7, hk, hf, hc, hn, hkp, hl, rk, rf, rc, rn, rkp, rl, ht0, ht1, hd0, hd1⟩ := id hb
  obtain ⟨hx1, hx2⟩ := hx
  refine aEv_of okX8_net caX8_net (Nat.le_of_ble_eq_true rfl) ?_
  refine aGo okX8_net 2 (f' := (2, [some (.inr 192), some (.inl x)], [.inl x, .inr 192], _)) rfl ?_
  by_cases hc2 : 0 ≤ x ∧ x < (p : Int)
  · refine b_vV (as := [.inl x]) (rest := []) (k := 192) (.inl 1) okX8_net rfl lkX8_75 caX8_isOne (Nat.le_of_ble_eq_true rfl) rfl (Nat.le_of_ble_eq_true rfl) rfl rfl rfl (c_isOne_t hp7 hc2) ?_
    refine b0_eq (tgt := 16) okX8_net rfl rfl ⟨by omega, by omega⟩ (fun h5 => absurd h5 (by omega)) (fun h5 => ?_)
    refine aGo okX8_net 2 (f' := (10, [some (.inr 192), some (.inl x)], [.inl x, .inr 192], _)) rfl ?_
    exact absurd (by unfold wy_net; (repeat' split) <;> omega) hw0
  · refine b_vV (as := [.inl x]) (rest := []) (k := 192) (.inl 0) okX8_net rfl lkX8_75 caX8_isOne (Nat.le_of_ble_eq_true rfl) rfl (Nat.le_of_ble_eq_true rfl) rfl rfl rfl (c_isOne_f hp7 ⟨by omega, by omega⟩ hc2) ?_
    refine b0_eq (tgt := 16) okX8_net rfl rfl ⟨by omega, by omega⟩ (fun h5 => ?_) (fun h5 => absurd h5 (by omega))
    refine aGo okX8_net 2 (f' := (18, [some (.inr 192), some (.inl x)], [.inl (-1), .inr 192], _)) rfl ?_
    refine b_vE (as := [.inl (-1)]) (rest := []) (k := 192) okX8_net rfl lkX8_211 caX8_lower (Nat.le_of_ble_eq_true rfl) rfl (Nat.le_of_ble_eq_true rfl) rfl rfl rfl (c_lower_1 hre) ?_
    rintro _ _ ⟨rfl, rfl⟩
    have hw : (wy_net p x) = -1 := by unfold wy_net; (repeat' split) <;> omega
    exact b_ret (v := (some (.inl 1000000001))) ⟨rfl, Or.inl rfl⟩ ⟨by rw [hw]; first | done | rfl, by rw [hw, bump_1]; exact mSt_of hp6 hd9 ⟨htp, rtp, htl9, hto, rto, htc, by rw [List.length_set]; exact hre⟩ hb hml him⟩ rfl
set_option maxRecDepth 100000 in
set_option maxHeartbeats 4000000 in
theorem mr_loans {imt : Int} {tc : Nat} {k f c n kp l : List Int} {p : Nat} {t d : Int} {to re : List Int} {tl : Nat} {tp : List Int} {I : moT} {A0 A1 A2 A3 A4 A5 : List (Option aE)} {h : aH} {N : Nat} (hS : mSt imt tc k f c n kp l p t d to re tl tp I A0 A1 A2 A3 A4 A5 h) {x : Int} (hx : aI x) (hw0 : (wy_loans x) ≠ 0) : aEv mX8_loans 5 0 0 N [.inr 192, .inl x] h (fun rv h2 => rv = some (.inl ((wy_loans x))) ∧ mSt imt tc k f c n kp l p t d to (bump re (wy_loans x)) tl tp I A0 A1 A2 A3 A4 A5 h2) := by
  obtain ⟨hp6, hd9, hax, hb, le, la, td, kt, sh, so, had, gr, fi, se, at_, sn, ik, cu, st, hml, him, rfl⟩ := hS
  obtain ⟨htp, rtp, htl9, hto, rto, htc, hre⟩ := id hax
  obtain ⟨hle, hla, htd, hkt, hsh, hso, hha, hgr, hfi, hse⟩ := id hml
  obtain ⟨hp7, hk, hf, hc, hn, hkp, hl, rk, rf, rc, rn, rkp, rl, ht0, ht1, hd0, hd1⟩ := id hb
  obtain ⟨hx1, hx2⟩ := hx
  refine aEv_of okX8_loans caX8_loans (Nat.le_of_ble_eq_true rfl) ?_
  refine aGo okX8_loans 3 (f' := (3, [some (.inr 192), some (.inl x), none, none], [.inl 1, .inl 0, .inl x], _)) rfl ?_
  by_cases hc3 : 0 ≤ x ∧ x ≤ 1
  · refine b_vS (as := [.inl x, .inl 0, .inl 1]) (rest := []) (.inl 1) okX8_loans rfl lkX8_97 caX8_isIn (Nat.le_of_ble_eq_true rfl) rfl (Nat.le_of_ble_eq_true rfl) rfl (c_isIn_t ⟨by omega, by omega⟩ ⟨by omega, by omega⟩ ⟨by omega, by omega⟩ hc3) ?_
    refine b0_ne (tgt := 16) okX8_loans rfl rfl ⟨by omega, by omega⟩ (fun h6 => ?_) (fun h6 => absurd h6 (by omega))
    exact absurd (by unfold wy_loans; (repeat' split) <;> omega) hw0
  · refine b_vS (as := [.inl x, .inl 0, .inl 1]) (rest := []) (.inl 0) okX8_loans rfl lkX8_97 caX8_isIn (Nat.le_of_ble_eq_true rfl) rfl (Nat.le_of_ble_eq_true rfl) rfl (c_isIn_f ⟨by omega, by omega⟩ ⟨by omega, by omega⟩ ⟨by omega, by omega⟩ hc3) ?_
    refine b0_ne (tgt := 16) okX8_loans rfl rfl ⟨by omega, by omega⟩ (fun h6 => absurd h6 (by omega)) (fun h6 => ?_)
    refine aGo okX8_loans 2 (f' := (12, [some (.inr 192), some (.inl x), none, none], [.inl (-2), .inr 192], _)) rfl ?_
    refine b_vE (as := [.inl (-2)]) (rest := []) (k := 192) okX8_loans rfl lkX8_86 caX8_no (Nat.le_of_ble_eq_true rfl) rfl (Nat.le_of_ble_eq_true rfl) rfl rfl rfl (c_no_2 hre) ?_
    rintro _ _ ⟨rfl, rfl⟩
    have hw : (wy_loans x) = -2 := by unfold wy_loans; (repeat' split) <;> omega
    exact b_ret (v := (some (.inl (-2)))) ⟨rfl, Or.inl rfl⟩ ⟨by rw [hw]; first | done | rfl, by rw [hw, bump_2]; exact mSt_of hp6 hd9 ⟨htp, rtp, htl9, hto, rto, htc, by rw [List.length_set]; exact hre⟩ hb hml him⟩ rfl
set_option maxRecDepth 100000 in
set_option maxHeartbeats 4000000 in
theorem mr_survey {imt : Int} {tc : Nat} {k f c n kp l : List Int} {p : Nat} {t d : Int} {to re : List Int} {tl : Nat} {tp : List Int} {I : moT} {A0 A1 A2 A3 A4 A5 : List (Option aE)} {h : aH} {N : Nat} (hS : mSt imt tc k f c n kp l p t d to re tl tp I A0 A1 A2 A3 A4 A5 h) {x : Int} (hx : aI x) (hw0 : (wy_survey x) ≠ 0) : aEv mX8_survey 7 0 0 N [.inr 192, .inl x] h (fun rv h2 => rv = some (.inl ((wy_survey x))) ∧ mSt imt tc k f c n kp l p t d to (bump re (wy_survey x)) tl tp I A0 A1 A2 A3 A4 A5 h2) := by
  obtain ⟨hp6, hd9, hax, hb, le, la, td, kt, sh, so, had, gr, fi, se, at_, sn, ik, cu, st, hml, him, rfl⟩ := hS
  obtain ⟨htp, rtp, htl9, hto, rto, htc, hre⟩ := id hax
  obtain ⟨hle, hla, htd, hkt, hsh, hso, hha, hgr, hfi, hse⟩ := id hml
  obtain ⟨hp7, hk, hf, hc, hn, hkp, hl, rk, rf, rc, rn, rkp, rl, ht0, ht1, hd0, hd1⟩ := id hb
  obtain ⟨hx1, hx2⟩ := hx
  refine aEv_of okX8_survey caX8_survey (Nat.le_of_ble_eq_true rfl) ?_
  refine aGo okX8_survey 1 (f' := (1, [some (.inr 192), some (.inl x)], [.inl x], _)) rfl ?_
  by_cases hc1 : 0 ≤ x ∧ x ≤ 35
  · refine b_vS (as := [.inl x]) (rest := []) (.inl 1) okX8_survey rfl lkX8_117 caX8_isCell (Nat.le_of_ble_eq_true rfl) rfl (Nat.le_of_ble_eq_true rfl) rfl (c_mCell_t hc1) ?_
    refine b0_eq (tgt := 15) okX8_survey rfl rfl ⟨by omega, by omega⟩ (fun h4 => absurd h4 (by omega)) (fun h4 => ?_)
    refine aGo okX8_survey 2 (f' := (9, [some (.inr 192), some (.inl x)], [.inl x, .inr 192], _)) rfl ?_
    exact absurd (by unfold wy_survey; (repeat' split) <;> omega) hw0
  · refine b_vS (as := [.inl x]) (rest := []) (.inl 0) okX8_survey rfl lkX8_117 caX8_isCell (Nat.le_of_ble_eq_true rfl) rfl (Nat.le_of_ble_eq_true rfl) rfl (c_mCell_f ⟨by omega, by omega⟩ hc1) ?_
    refine b0_eq (tgt := 15) okX8_survey rfl rfl ⟨by omega, by omega⟩ (fun h4 => ?_) (fun h4 => absurd h4 (by omega))
    refine aGo okX8_survey 2 (f' := (17, [some (.inr 192), some (.inl x)], [.inl (-1), .inr 192], _)) rfl ?_
    refine b_vE (as := [.inl (-1)]) (rest := []) (k := 192) okX8_survey rfl lkX8_86 caX8_no (Nat.le_of_ble_eq_true rfl) rfl (Nat.le_of_ble_eq_true rfl) rfl rfl rfl (c_no_1 hre) ?_
    rintro _ _ ⟨rfl, rfl⟩
    have hw : (wy_survey x) = -1 := by unfold wy_survey; (repeat' split) <;> omega
    exact b_ret (v := (some (.inl (-1)))) ⟨rfl, Or.inl rfl⟩ ⟨by rw [hw]; first | done | rfl, by rw [hw, bump_1]; exact mSt_of hp6 hd9 ⟨htp, rtp, htl9, hto, rto, htc, by rw [List.length_set]; exact hre⟩ hb hml him⟩ rfl
set_option maxRecDepth 100000 in
set_option maxHeartbeats 4000000 in
theorem mr_quarrel {imt : Int} {tc : Nat} {k f c n kp l : List Int} {p : Nat} {t d : Int} {to re : List Int} {tl : Nat} {tp : List Int} {I : moT} {A0 A1 A2 A3 A4 A5 : List (Option aE)} {h : aH} {N : Nat} (hS : mSt imt tc k f c n kp l p t d to re tl tp I A0 A1 A2 A3 A4 A5 h) {x : Int} (hx : aI x) {y : Int} (hy : aI y) {z : Int} (hz : aI z) {u : Int} (hu : aI u) (hw0 : (wy_quarrel p x y z u) ≠ 0) : aEv mX8_quarrel 7 0 0 N [.inr 192, .inl x, .inl y, .inl z, .inl u] h (fun rv h2 => rv = some (.inl (1000000000 - (wy_quarrel p x y z u))) ∧ mSt imt tc k f c n kp l p t d to (bump re (wy_quarrel p x y z u)) tl tp I A0 A1 A2 A3 A4 A5 h2) := by
  obtain ⟨hp6, hd9, hax, hb, le, la, td, kt, sh, so, had, gr, fi, se, at_, sn, ik, cu, st, hml, him, rfl⟩ := hS
  obtain ⟨htp, rtp, htl9, hto, rto, htc, hre⟩ := id hax
  obtain ⟨hle, hla, htd, hkt, hsh, hso, hha, hgr, hfi, hse⟩ := id hml
  obtain ⟨hp7, hk, hf, hc, hn, hkp, hl, rk, rf, rc, rn, rkp, rl, ht0, ht1, hd0, hd1⟩ := id hb
  obtain ⟨hx1, hx2⟩ := hx
  obtain ⟨hy1, hy2⟩ := hy
  obtain ⟨hz1, hz2⟩ := hz
  obtain ⟨hu1, hu2⟩ := hu
  refine aEv_of okX8_quarrel caX8_quarrel (Nat.le_of_ble_eq_true rfl) ?_
  refine aGo okX8_quarrel 3 (f' := (3, [some (.inr 192), some (.inl x), some (.inl y), some (.inl z), some (.inl u), none, none, none], [.inl y, .inl x, .inr 192], _)) rfl ?_
  by_cases hc3 : 0 ≤ x ∧ x < (p : Int) ∧ 0 ≤ y ∧ y < (p : Int) ∧ x ≠ y
  · refine b_vV (as := [.inl x, .inl y]) (rest := []) (k := 192) (.inl 1) okX8_quarrel rfl lkX8_134 caX8_areTwo (Nat.le_of_ble_eq_true rfl) rfl (Nat.le_of_ble_eq_true rfl) rfl rfl rfl (c_mTwo_t hp7 ⟨by omega, by omega⟩ ⟨by omega, by omega⟩ (by omega)) ?_
    refine b0_ne (tgt := 13) okX8_quarrel rfl rfl ⟨by omega, by omega⟩ (fun h6 => ?_) (fun h6 => absurd h6 (by omega))
    refine aGo okX8_quarrel 3 (f' := (17, [some (.inr 192), some (.inl x), some (.inl y), some (.inl z), some (.inl u), none, none, none], [.inl 10, .inl 1, .inl z], _)) rfl ?_
    rcases (show (z < 1) ∨ (10 < z) ∨ (1 ≤ z ∧ z ≤ 10) from by omega) with hc17 | hc17 | hc17
    · refine b_vS (as := [.inl z, .inl 1, .inl 10]) (rest := []) (.inl (-4)) okX8_quarrel rfl lkX8_79 caX8_bound (Nat.le_of_ble_eq_true rfl) rfl (Nat.le_of_ble_eq_true rfl) rfl (c_bound_l ⟨by omega, by omega⟩ ⟨by omega, by omega⟩ ⟨by omega, by omega⟩ hc17) ?_
      refine aGo okX8_quarrel 2 (f' := (24, [some (.inr 192), some (.inl x), some (.inl y), some (.inl z), some (.inl u), some (.inl (-4)), none, none], [.inl (-4)], _)) rfl ?_
      refine b0_ne (tgt := 41) okX8_quarrel rfl rfl ⟨by omega, by omega⟩ (fun h24 => ?_) (fun h24 => absurd h24 (by omega))
      refine aGo okX8_quarrel 1 (f' := (43, [some (.inr 192), some (.inl x), some (.inl y), some (.inl z), some (.inl u), some (.inl (-4)), none, none], [.inl (-4)], _)) rfl ?_
      refine b0_eq (tgt := 53) okX8_quarrel rfl rfl ⟨by omega, by omega⟩ (fun h43 => absurd h43 (by omega)) (fun h43 => ?_)
      refine aGo okX8_quarrel 2 (f' := (49, [some (.inr 192), some (.inl x), some (.inl y), some (.inl z), some (.inl u), some (.inl (-4)), none, none], [.inl (-4), .inr 192], _)) rfl ?_
      refine b_vE (as := [.inl (-4)]) (rest := []) (k := 192) okX8_quarrel rfl lkX8_211 caX8_lower (Nat.le_of_ble_eq_true rfl) rfl (Nat.le_of_ble_eq_true rfl) rfl rfl rfl (c_lower_4 hre) ?_
      rintro _ _ ⟨rfl, rfl⟩
      have hw : (wy_quarrel p x y z u) = -4 := by unfold wy_quarrel; (repeat' split) <;> omega
      exact b_ret (v := (some (.inl 1000000004))) ⟨rfl, Or.inl rfl⟩ ⟨by rw [hw]; first | done | rfl, by rw [hw, bump_4]; exact mSt_of hp6 hd9 ⟨htp, rtp, htl9, hto, rto, htc, by rw [List.length_set]; exact hre⟩ hb hml him⟩ rfl
    · refine b_vS (as := [.inl z, .inl 1, .inl 10]) (rest := []) (.inl (-6)) okX8_quarrel rfl lkX8_79 caX8_bound (Nat.le_of_ble_eq_true rfl) rfl (Nat.le_of_ble_eq_true rfl) rfl (c_bound_h ⟨by omega, by omega⟩ ⟨by omega, by omega⟩ ⟨by omega, by omega⟩ (by omega) hc17) ?_
      refine aGo okX8_quarrel 2 (f' := (24, [some (.inr 192), some (.inl x), some (.inl y), some (.inl z), some (.inl u), some (.inl (-6)), none, none], [.inl (-6)], _)) rfl ?_
      refine b0_ne (tgt := 41) okX8_quarrel rfl rfl ⟨by omega, by omega⟩ (fun h24 => ?_) (fun h24 => absurd h24 (by omega))
      refine aGo okX8_quarrel 1 (f' := (43, [some (.inr 192), some (.inl x), some (.inl y), some (.inl z), some (.inl u), some (.inl (-6)), none, none], [.inl (-6)], _)) rfl ?_
      refine b0_eq (tgt := 53) okX8_quarrel rfl rfl ⟨by omega, by omega⟩ (fun h43 => absurd h43 (by omega)) (fun h43 => ?_)
      refine aGo okX8_quarrel 2 (f' := (49, [some (.inr 192), some (.inl x), some (.inl y), some (.inl z), some (.inl u), some (.inl (-6)), none, none], [.inl (-6), .inr 192], _)) rfl ?_
      refine b_vE (as := [.inl (-6)]) (rest := []) (k := 192) okX8_quarrel rfl lkX8_211 caX8_lower (Nat.le_of_ble_eq_true rfl) rfl (Nat.le_of_ble_eq_true rfl) rfl rfl rfl (c_lower_6 hre) ?_
      rintro _ _ ⟨rfl, rfl⟩
      have hw : (wy_quarrel p x y z u) = -6 := by unfold wy_quarrel; (repeat' split) <;> omega
      exact b_ret (v := (some (.inl 1000000006))) ⟨rfl, Or.inl rfl⟩ ⟨by rw [hw]; first | done | rfl, by rw [hw, bump_6]; exact mSt_of hp6 hd9 ⟨htp, rtp, htl9, hto, rto, htc, by rw [List.length_set]; exact hre⟩ hb hml him⟩ rfl
    · refine b_vS (as := [.inl z, .inl 1, .inl 10]) (rest := []) (.inl 0) okX8_quarrel rfl lkX8_79 caX8_bound (Nat.le_of_ble_eq_true rfl) rfl (Nat.le_of_ble_eq_true rfl) rfl (c_bound_m ⟨by omega, by omega⟩ ⟨by omega, by omega⟩ ⟨by omega, by omega⟩ hc17) ?_
      refine aGo okX8_quarrel 2 (f' := (24, [some (.inr 192), some (.inl x), some (.inl y), some (.inl z), some (.inl u), some (.inl 0), none, none], [.inl 0], _)) rfl ?_
      refine b0_ne (tgt := 41) okX8_quarrel rfl rfl ⟨by omega, by omega⟩ (fun h24 => absurd h24 (by omega)) (fun h24 => ?_)
      refine aGo okX8_quarrel 3 (f' := (31, [some (.inr 192), some (.inl x), some (.inl y), some (.inl z), some (.inl u), some (.inl 0), none, none], [.inl 1, .inl 0, .inl u], _)) rfl ?_
      by_cases hc31 : 0 ≤ u ∧ u ≤ 1
      · refine b_vS (as := [.inl u, .inl 0, .inl 1]) (rest := []) (.inl 1) okX8_quarrel rfl lkX8_97 caX8_isIn (Nat.le_of_ble_eq_true rfl) rfl (Nat.le_of_ble_eq_true rfl) rfl (c_isIn_t ⟨by omega, by omega⟩ ⟨by omega, by omega⟩ ⟨by omega, by omega⟩ hc31) ?_
        refine b0_ne (tgt := 41) okX8_quarrel rfl rfl ⟨by omega, by omega⟩ (fun h34 => ?_) (fun h34 => absurd h34 (by omega))
        refine aGo okX8_quarrel 1 (f' := (43, [some (.inr 192), some (.inl x), some (.inl y), some (.inl z), some (.inl u), some (.inl 0), none, none], [.inl 0], _)) rfl ?_
        refine b0_eq (tgt := 53) okX8_quarrel rfl rfl ⟨by omega, by omega⟩ (fun h43 => ?_) (fun h43 => absurd h43 (by omega))
        exact absurd (by unfold wy_quarrel; (repeat' split) <;> omega) hw0
      · refine b_vS (as := [.inl u, .inl 0, .inl 1]) (rest := []) (.inl 0) okX8_quarrel rfl lkX8_97 caX8_isIn (Nat.le_of_ble_eq_true rfl) rfl (Nat.le_of_ble_eq_true rfl) rfl (c_isIn_f ⟨by omega, by omega⟩ ⟨by omega, by omega⟩ ⟨by omega, by omega⟩ hc31) ?_
        refine b0_ne (tgt := 41) okX8_quarrel rfl rfl ⟨by omega, by omega⟩ (fun h34 => absurd h34 (by omega)) (fun h34 => ?_)
        refine aGo okX8_quarrel 3 (f' := (43, [some (.inr 192), some (.inl x), some (.inl y), some (.inl z), some (.inl u), some (.inl (-2)), none, none], [.inl (-2)], _)) rfl ?_
        refine b0_eq (tgt := 53) okX8_quarrel rfl rfl ⟨by omega, by omega⟩ (fun h43 => absurd h43 (by omega)) (fun h43 => ?_)
        refine aGo okX8_quarrel 2 (f' := (49, [some (.inr 192), some (.inl x), some (.inl y), some (.inl z), some (.inl u), some (.inl (-2)), none, none], [.inl (-2), .inr 192], _)) rfl ?_
        refine b_vE (as := [.inl (-2)]) (rest := []) (k := 192) okX8_quarrel rfl lkX8_211 caX8_lower (Nat.le_of_ble_eq_true rfl) rfl (Nat.le_of_ble_eq_true rfl) rfl rfl rfl (c_lower_2 hre) ?_
        rintro _ _ ⟨rfl, rfl⟩
        have hw : (wy_quarrel p x y z u) = -2 := by unfold wy_quarrel; (repeat' split) <;> omega
        exact b_ret (v := (some (.inl 1000000002))) ⟨rfl, Or.inl rfl⟩ ⟨by rw [hw]; first | done | rfl, by rw [hw, bump_2]; exact mSt_of hp6 hd9 ⟨htp, rtp, htl9, hto, rto, htc, by rw [List.length_set]; exact hre⟩ hb hml him⟩ rfl
  · refine b_vV (as := [.inl x, .inl y]) (rest := []) (k := 192) (.inl 0) okX8_quarrel rfl lkX8_134 caX8_areTwo (Nat.le_of_ble_eq_true rfl) rfl (Nat.le_of_ble_eq_true rfl) rfl rfl rfl (c_mTwo_f hp7 ⟨by omega, by omega⟩ ⟨by omega, by omega⟩ hc3) ?_
    refine b0_ne (tgt := 13) okX8_quarrel rfl rfl ⟨by omega, by omega⟩ (fun h6 => absurd h6 (by omega)) (fun h6 => ?_)
    refine aGo okX8_quarrel 4 (f' := (24, [some (.inr 192), some (.inl x), some (.inl y), some (.inl z), some (.inl u), some (.inl (-1)), none, none], [.inl (-1)], _)) rfl ?_
    refine b0_ne (tgt := 41) okX8_quarrel rfl rfl ⟨by omega, by omega⟩ (fun h24 => ?_) (fun h24 => absurd h24 (by omega))
    refine aGo okX8_quarrel 1 (f' := (43, [some (.inr 192), some (.inl x), some (.inl y), some (.inl z), some (.inl u), some (.inl (-1)), none, none], [.inl (-1)], _)) rfl ?_
    refine b0_eq (tgt := 53) okX8_quarrel rfl rfl ⟨by omega, by omega⟩ (fun h43 => absurd h43 (by omega)) (fun h43 => ?_)
    refine aGo okX8_quarrel 2 (f' := (49, [some (.inr 192), some (.inl x), some (.inl y), some (.inl z), some (.inl u), some (.inl (-1)), none, none], [.inl (-1), .inr 192], _)) rfl ?_
    refine b_vE (as := [.inl (-1)]) (rest := []) (k := 192) okX8_quarrel rfl lkX8_211 caX8_lower (Nat.le_of_ble_eq_true rfl) rfl (Nat.le_of_ble_eq_true rfl) rfl rfl rfl (c_lower_1 hre) ?_
    rintro _ _ ⟨rfl, rfl⟩
    have hw : (wy_quarrel p x y z u) = -1 := by unfold wy_quarrel; (repeat' split) <;> omega
    exact b_ret (v := (some (.inl 1000000001))) ⟨rfl, Or.inl rfl⟩ ⟨by rw [hw]; first | done | rfl, by rw [hw, bump_1]; exact mSt_of hp6 hd9 ⟨htp, rtp, htl9, hto, rto, htc, by rw [List.length_set]; exact hre⟩ hb hml him⟩ rfl
set_option maxRecDepth 100000 in
set_option maxHeartbeats 4000000 in
theorem mr_two {imt : Int} {tc : Nat} {k f c n kp l : List Int} {p : Nat} {t d : Int} {to re : List Int} {tl : Nat} {tp : List Int} {I : moT} {A0 A1 A2 A3 A4 A5 : List (Option aE)} {h : aH} {N : Nat} (hS : mSt imt tc k f c n kp l p t d to re tl tp I A0 A1 A2 A3 A4 A5 h) {x : Int} (hx : aI x) {y : Int} (hy : aI y) (hw0 : (wy_two p x y) ≠ 0) : aEv mX8_two 7 0 0 N [.inr 192, .inl x, .inl y] h (fun rv h2 => rv = some (.inl ((wy_two p x y))) ∧ mSt imt tc k f c n kp l p t d to (bump re (wy_two p x y)) tl tp I A0 A1 A2 A3 A4 A5 h2) := by
  obtain ⟨hp6, hd9, hax, hb, le, la, td, kt, sh, so, had, gr, fi, se, at_, sn, ik, cu, st, hml, him, rfl⟩ := hS
  obtain ⟨htp, rtp, htl9, hto, rto, htc, hre⟩ := id hax
  obtain ⟨hle, hla, htd, hkt, hsh, hso, hha, hgr, hfi, hse⟩ := id hml
  obtain ⟨hp7, hk, hf, hc, hn, hkp, hl, rk, rf, rc, rn, rkp, rl, ht0, ht1, hd0, hd1⟩ := id hb
  obtain ⟨hx1, hx2⟩ := hx
  obtain ⟨hy1, hy2⟩ := hy
  refine aEv_of okX8_two caX8_two (Nat.le_of_ble_eq_true rfl) ?_
  refine aGo okX8_two 3 (f' := (3, [some (.inr 192), some (.inl x), some (.inl y), none], [.inl y, .inl x, .inr 192], _)) rfl ?_
  by_cases hc3 : 0 ≤ x ∧ x < (p : Int) ∧ 0 ≤ y ∧ y < (p : Int) ∧ x ≠ y
  · refine b_vV (as := [.inl x, .inl y]) (rest := []) (k := 192) (.inl 1) okX8_two rfl lkX8_134 caX8_areTwo (Nat.le_of_ble_eq_true rfl) rfl (Nat.le_of_ble_eq_true rfl) rfl rfl rfl (c_mTwo_t hp7 ⟨by omega, by omega⟩ ⟨by omega, by omega⟩ (by omega)) ?_
    refine b0_ne (tgt := 15) okX8_two rfl rfl ⟨by omega, by omega⟩ (fun h6 => ?_) (fun h6 => absurd h6 (by omega))
    exact absurd (by unfold wy_two; (repeat' split) <;> omega) hw0
  · refine b_vV (as := [.inl x, .inl y]) (rest := []) (k := 192) (.inl 0) okX8_two rfl lkX8_134 caX8_areTwo (Nat.le_of_ble_eq_true rfl) rfl (Nat.le_of_ble_eq_true rfl) rfl rfl rfl (c_mTwo_f hp7 ⟨by omega, by omega⟩ ⟨by omega, by omega⟩ hc3) ?_
    refine b0_ne (tgt := 15) okX8_two rfl rfl ⟨by omega, by omega⟩ (fun h6 => absurd h6 (by omega)) (fun h6 => ?_)
    refine aGo okX8_two 2 (f' := (11, [some (.inr 192), some (.inl x), some (.inl y), none], [.inl (-1), .inr 192], _)) rfl ?_
    refine b_vE (as := [.inl (-1)]) (rest := []) (k := 192) okX8_two rfl lkX8_86 caX8_no (Nat.le_of_ble_eq_true rfl) rfl (Nat.le_of_ble_eq_true rfl) rfl rfl rfl (c_no_1 hre) ?_
    rintro _ _ ⟨rfl, rfl⟩
    have hw : (wy_two p x y) = -1 := by unfold wy_two; (repeat' split) <;> omega
    exact b_ret (v := (some (.inl (-1)))) ⟨rfl, Or.inl rfl⟩ ⟨by rw [hw]; first | done | rfl, by rw [hw, bump_1]; exact mSt_of hp6 hd9 ⟨htp, rtp, htl9, hto, rto, htc, by rw [List.length_set]; exact hre⟩ hb hml him⟩ rfl
set_option maxRecDepth 100000 in
set_option maxHeartbeats 4000000 in
theorem mr_crowd {imt : Int} {tc : Nat} {k f c n kp l : List Int} {p : Nat} {t d : Int} {to re : List Int} {tl : Nat} {tp : List Int} {I : moT} {A0 A1 A2 A3 A4 A5 : List (Option aE)} {h : aH} {N : Nat} (hS : mSt imt tc k f c n kp l p t d to re tl tp I A0 A1 A2 A3 A4 A5 h) {x : Int} (hx : aI x) (hw0 : (wy_crowd x) ≠ 0) : aEv mX8_crowd 2 0 0 N [.inr 192, .inl x] h (fun rv h2 => rv = some (.inl ((wy_crowd x))) ∧ mSt imt tc k f c n kp l p t d to (bump re (wy_crowd x)) tl tp I A0 A1 A2 A3 A4 A5 h2) := by
  obtain ⟨hp6, hd9, hax, hb, le, la, td, kt, sh, so, had, gr, fi, se, at_, sn, ik, cu, st, hml, him, rfl⟩ := hS
  obtain ⟨htp, rtp, htl9, hto, rto, htc, hre⟩ := id hax
  obtain ⟨hle, hla, htd, hkt, hsh, hso, hha, hgr, hfi, hse⟩ := id hml
  obtain ⟨hp7, hk, hf, hc, hn, hkp, hl, rk, rf, rc, rn, rkp, rl, ht0, ht1, hd0, hd1⟩ := id hb
  obtain ⟨hx1, hx2⟩ := hx
  refine aEv_of okX8_crowd caX8_crowd (Nat.le_of_ble_eq_true rfl) ?_
  refine aGo okX8_crowd 3 (f' := (3, [some (.inr 192), some (.inl x), none, none, none, none, none, none], [.inl 2, .inl 0, .inl x], _)) rfl ?_
  by_cases hc3 : 0 ≤ x ∧ x ≤ 2
  · refine b_vS (as := [.inl x, .inl 0, .inl 2]) (rest := []) (.inl 1) okX8_crowd rfl lkX8_97 caX8_isIn (Nat.le_of_ble_eq_true rfl) rfl (Nat.le_of_ble_eq_true rfl) rfl (c_isIn_t ⟨by omega, by omega⟩ ⟨by omega, by omega⟩ ⟨by omega, by omega⟩ hc3) ?_
    refine b0_ne (tgt := 16) okX8_crowd rfl rfl ⟨by omega, by omega⟩ (fun h6 => ?_) (fun h6 => absurd h6 (by omega))
    exact absurd (by unfold wy_crowd; (repeat' split) <;> omega) hw0
  · refine b_vS (as := [.inl x, .inl 0, .inl 2]) (rest := []) (.inl 0) okX8_crowd rfl lkX8_97 caX8_isIn (Nat.le_of_ble_eq_true rfl) rfl (Nat.le_of_ble_eq_true rfl) rfl (c_isIn_f ⟨by omega, by omega⟩ ⟨by omega, by omega⟩ ⟨by omega, by omega⟩ hc3) ?_
    refine b0_ne (tgt := 16) okX8_crowd rfl rfl ⟨by omega, by omega⟩ (fun h6 => absurd h6 (by omega)) (fun h6 => ?_)
    refine aGo okX8_crowd 2 (f' := (12, [some (.inr 192), some (.inl x), none, none, none, none, none, none], [.inl (-2), .inr 192], _)) rfl ?_
    refine b_vE (as := [.inl (-2)]) (rest := []) (k := 192) okX8_crowd rfl lkX8_86 caX8_no (Nat.le_of_ble_eq_true rfl) rfl (Nat.le_of_ble_eq_true rfl) rfl rfl rfl (c_no_2 hre) ?_
    rintro _ _ ⟨rfl, rfl⟩
    have hw : (wy_crowd x) = -2 := by unfold wy_crowd; (repeat' split) <;> omega
    exact b_ret (v := (some (.inl (-2)))) ⟨rfl, Or.inl rfl⟩ ⟨by rw [hw]; first | done | rfl, by rw [hw, bump_2]; exact mSt_of hp6 hd9 ⟨htp, rtp, htl9, hto, rto, htc, by rw [List.length_set]; exact hre⟩ hb hml him⟩ rfl
set_option maxRecDepth 100000 in
set_option maxHeartbeats 4000000 in
theorem mr_easter {imt : Int} {tc : Nat} {k f c n kp l : List Int} {p : Nat} {t d : Int} {to re : List Int} {tl : Nat} {tp : List Int} {I : moT} {A0 A1 A2 A3 A4 A5 : List (Option aE)} {h : aH} {N : Nat} (hS : mSt imt tc k f c n kp l p t d to re tl tp I A0 A1 A2 A3 A4 A5 h) {x : Int} (hx : aI x) {y : Int} (hy : aI y) {z : Int} (hz : aI z) (hw0 : (wy_easter p x y z) ≠ 0) : aEv mX8_easter 7 0 0 N [.inr 192, .inl x, .inl y, .inl z] h (fun rv h2 => rv = some (.inl ((wy_easter p x y z))) ∧ mSt imt tc k f c n kp l p t d to (bump re (wy_easter p x y z)) tl tp I A0 A1 A2 A3 A4 A5 h2) := by
  obtain ⟨hp6, hd9, hax, hb, le, la, td, kt, sh, so, had, gr, fi, se, at_, sn, ik, cu, st, hml, him, rfl⟩ := hS
  obtain ⟨htp, rtp, htl9, hto, rto, htc, hre⟩ := id hax
  obtain ⟨hle, hla, htd, hkt, hsh, hso, hha, hgr, hfi, hse⟩ := id hml
  obtain ⟨hp7, hk, hf, hc, hn, hkp, hl, rk, rf, rc, rn, rkp, rl, ht0, ht1, hd0, hd1⟩ := id hb
  obtain ⟨hx1, hx2⟩ := hx
  obtain ⟨hy1, hy2⟩ := hy
  obtain ⟨hz1, hz2⟩ := hz
  refine aEv_of okX8_easter caX8_easter (Nat.le_of_ble_eq_true rfl) ?_
  refine aGo okX8_easter 3 (f' := (3, [some (.inr 192), some (.inl x), some (.inl y), some (.inl z), none, none], [.inl y, .inl x, .inr 192], _)) rfl ?_
  by_cases hc3 : 0 ≤ x ∧ x < (p : Int) ∧ 0 ≤ y ∧ y < (p : Int) ∧ x ≠ y
  · refine b_vV (as := [.inl x, .inl y]) (rest := []) (k := 192) (.inl 1) okX8_easter rfl lkX8_134 caX8_areTwo (Nat.le_of_ble_eq_true rfl) rfl (Nat.le_of_ble_eq_true rfl) rfl rfl rfl (c_mTwo_t hp7 ⟨by omega, by omega⟩ ⟨by omega, by omega⟩ (by omega)) ?_
    refine b0_ne (tgt := 13) okX8_easter rfl rfl ⟨by omega, by omega⟩ (fun h6 => ?_) (fun h6 => absurd h6 (by omega))
    refine aGo okX8_easter 3 (f' := (17, [some (.inr 192), some (.inl x), some (.inl y), some (.inl z), none, none], [.inl 99, .inl 0, .inl z], _)) rfl ?_
    rcases (show (z < 0) ∨ (99 < z) ∨ (0 ≤ z ∧ z ≤ 99) from by omega) with hc17 | hc17 | hc17
    · refine b_vS (as := [.inl z, .inl 0, .inl 99]) (rest := []) (.inl (-4)) okX8_easter rfl lkX8_79 caX8_bound (Nat.le_of_ble_eq_true rfl) rfl (Nat.le_of_ble_eq_true rfl) rfl (c_bound_l ⟨by omega, by omega⟩ ⟨by omega, by omega⟩ ⟨by omega, by omega⟩ hc17) ?_
      refine aGo okX8_easter 2 (f' := (24, [some (.inr 192), some (.inl x), some (.inl y), some (.inl z), some (.inl (-4)), none], [.inl (-4)], _)) rfl ?_
      refine b0_eq (tgt := 34) okX8_easter rfl rfl ⟨by omega, by omega⟩ (fun h24 => absurd h24 (by omega)) (fun h24 => ?_)
      refine aGo okX8_easter 2 (f' := (30, [some (.inr 192), some (.inl x), some (.inl y), some (.inl z), some (.inl (-4)), none], [.inl (-4), .inr 192], _)) rfl ?_
      refine b_vE (as := [.inl (-4)]) (rest := []) (k := 192) okX8_easter rfl lkX8_86 caX8_no (Nat.le_of_ble_eq_true rfl) rfl (Nat.le_of_ble_eq_true rfl) rfl rfl rfl (c_no_4 hre) ?_
      rintro _ _ ⟨rfl, rfl⟩
      have hw : (wy_easter p x y z) = -4 := by unfold wy_easter; (repeat' split) <;> omega
      exact b_ret (v := (some (.inl (-4)))) ⟨rfl, Or.inl rfl⟩ ⟨by rw [hw]; first | done | rfl, by rw [hw, bump_4]; exact mSt_of hp6 hd9 ⟨htp, rtp, htl9, hto, rto, htc, by rw [List.length_set]; exact hre⟩ hb hml him⟩ rfl
    · refine b_vS (as := [.inl z, .inl 0, .inl 99]) (rest := []) (.inl (-6)) okX8_easter rfl lkX8_79 caX8_bound (Nat.le_of_ble_eq_true rfl) rfl (Nat.le_of_ble_eq_true rfl) rfl (c_bound_h ⟨by omega, by omega⟩ ⟨by omega, by omega⟩ ⟨by omega, by omega⟩ (by omega) hc17) ?_
      refine aGo okX8_easter 2 (f' := (24, [some (.inr 192), some (.inl x), some (.inl y), some (.inl z), some (.inl (-6)), none], [.inl (-6)], _)) rfl ?_
      refine b0_eq (tgt := 34) okX8_easter rfl rfl ⟨by omega, by omega⟩ (fun h24 => absurd h24 (by omega)) (fun h24 => ?_)
      refine aGo okX8_easter 2 (f' := (30, [some (.inr 192), some (.inl x), some (.inl y), some (.inl z), some (.inl (-6)), none], [.inl (-6), .inr 192], _)) rfl ?_
      refine b_vE (as := [.inl (-6)]) (rest := []) (k := 192) okX8_easter rfl lkX8_86 caX8_no (Nat.le_of_ble_eq_true rfl) rfl (Nat.le_of_ble_eq_true rfl) rfl rfl rfl (c_no_6 hre) ?_
      rintro _ _ ⟨rfl, rfl⟩
      have hw : (wy_easter p x y z) = -6 := by unfold wy_easter; (repeat' split) <;> omega
      exact b_ret (v := (some (.inl (-6)))) ⟨rfl, Or.inl rfl⟩ ⟨by rw [hw]; first | done | rfl, by rw [hw, bump_6]; exact mSt_of hp6 hd9 ⟨htp, rtp, htl9, hto, rto, htc, by rw [List.length_set]; exact hre⟩ hb hml him⟩ rfl
    · refine b_vS (as := [.inl z, .inl 0, .inl 99]) (rest := []) (.inl 0) okX8_easter rfl lkX8_79 caX8_bound (Nat.le_of_ble_eq_true rfl) rfl (Nat.le_of_ble_eq_true rfl) rfl (c_bound_m ⟨by omega, by omega⟩ ⟨by omega, by omega⟩ ⟨by omega, by omega⟩ hc17) ?_
      refine aGo okX8_easter 2 (f' := (24, [some (.inr 192), some (.inl x), some (.inl y), some (.inl z), some (.inl 0), none], [.inl 0], _)) rfl ?_
      refine b0_eq (tgt := 34) okX8_easter rfl rfl ⟨by omega, by omega⟩ (fun h24 => ?_) (fun h24 => absurd h24 (by omega))
      exact absurd (by unfold wy_easter; (repeat' split) <;> omega) hw0
  · refine b_vV (as := [.inl x, .inl y]) (rest := []) (k := 192) (.inl 0) okX8_easter rfl lkX8_134 caX8_areTwo (Nat.le_of_ble_eq_true rfl) rfl (Nat.le_of_ble_eq_true rfl) rfl rfl rfl (c_mTwo_f hp7 ⟨by omega, by omega⟩ ⟨by omega, by omega⟩ hc3) ?_
    refine b0_ne (tgt := 13) okX8_easter rfl rfl ⟨by omega, by omega⟩ (fun h6 => absurd h6 (by omega)) (fun h6 => ?_)
    refine aGo okX8_easter 4 (f' := (24, [some (.inr 192), some (.inl x), some (.inl y), some (.inl z), some (.inl (-1)), none], [.inl (-1)], _)) rfl ?_
    refine b0_eq (tgt := 34) okX8_easter rfl rfl ⟨by omega, by omega⟩ (fun h24 => absurd h24 (by omega)) (fun h24 => ?_)
    refine aGo okX8_easter 2 (f' := (30, [some (.inr 192), some (.inl x), some (.inl y), some (.inl z), some (.inl (-1)), none], [.inl (-1), .inr 192], _)) rfl ?_
    refine b_vE (as := [.inl (-1)]) (rest := []) (k := 192) okX8_easter rfl lkX8_86 caX8_no (Nat.le_of_ble_eq_true rfl) rfl (Nat.le_of_ble_eq_true rfl) rfl rfl rfl (c_no_1 hre) ?_
    rintro _ _ ⟨rfl, rfl⟩
    have hw : (wy_easter p x y z) = -1 := by unfold wy_easter; (repeat' split) <;> omega
    exact b_ret (v := (some (.inl (-1)))) ⟨rfl, Or.inl rfl⟩ ⟨by rw [hw]; first | done | rfl, by rw [hw, bump_1]; exact mSt_of hp6 hd9 ⟨htp, rtp, htl9, hto, rto, htc, by rw [List.length_set]; exact hre⟩ hb hml him⟩ rfl
set_option maxRecDepth 100000 in
set_option maxHeartbeats 4000000 in
theorem mr_whatIs {imt : Int} {tc : Nat} {k f c n kp l : List Int} {p : Nat} {t d : Int} {to re : List Int} {tl : Nat} {tp : List Int} {I : moT} {A0 A1 A2 A3 A4 A5 : List (Option aE)} {h : aH} {N : Nat} (hS : mSt imt tc k f c n kp l p t d to re tl tp I A0 A1 A2 A3 A4 A5 h) {x : Int} (hx : aI x) {y : Int} (hy : aI y) (hw0 : (wy_whatIs tc p x y) ≠ 0) : aEv mX8_whatIs 8 0 0 N [.inr 192, .inl x, .inl y] h (fun rv h2 => rv = some (.inl ((wy_whatIs tc p x y))) ∧ mSt imt tc k f c n kp l p t d to (bump re (wy_whatIs tc p x y)) tl tp I A0 A1 A2 A3 A4 A5 h2) := by
  obtain ⟨hp6, hd9, hax, hb, le, la, td, kt, sh, so, had, gr, fi, se, at_, sn, ik, cu, st, hml, him, rfl⟩ := hS
  obtain ⟨htp, rtp, htl9, hto, rto, htc, hre⟩ := id hax
  obtain ⟨hle, hla, htd, hkt, hsh, hso, hha, hgr, hfi, hse⟩ := id hml
  obtain ⟨hp7, hk, hf, hc, hn, hkp, hl, rk, rf, rc, rn, rkp, rl, ht0, ht1, hd0, hd1⟩ := id hb
  obtain ⟨hx1, hx2⟩ := hx
  obtain ⟨hy1, hy2⟩ := hy
  refine aEv_of okX8_whatIs caX8_whatIs (Nat.le_of_ble_eq_true rfl) ?_
  refine aGo okX8_whatIs 2 (f' := (2, [some (.inr 192), some (.inl x), some (.inl y), none], [.inl x, .inr 192], _)) rfl ?_
  by_cases hc2 : 0 ≤ x ∧ x < (p : Int)
  · refine b_vV (as := [.inl x]) (rest := []) (k := 192) (.inl 1) okX8_whatIs rfl lkX8_75 caX8_isOne (Nat.le_of_ble_eq_true rfl) rfl (Nat.le_of_ble_eq_true rfl) rfl rfl rfl (c_isOne_t hp7 hc2) ?_
    refine b0_ne (tgt := 12) okX8_whatIs rfl rfl ⟨by omega, by omega⟩ (fun h5 => ?_) (fun h5 => absurd h5 (by omega))
    refine aGo okX8_whatIs 3 (f' := (15, [some (.inr 192), some (.inl x), some (.inl y), none], [.inl 1, .inl 0, .inl y], _)) rfl ?_
    by_cases hc15 : 0 ≤ y ∧ y ≤ 1
    · refine b_vS (as := [.inl y, .inl 0, .inl 1]) (rest := []) (.inl 1) okX8_whatIs rfl lkX8_97 caX8_isIn (Nat.le_of_ble_eq_true rfl) rfl (Nat.le_of_ble_eq_true rfl) rfl (c_isIn_t ⟨by omega, by omega⟩ ⟨by omega, by omega⟩ ⟨by omega, by omega⟩ hc15) ?_
      refine b0_ne (tgt := 26) okX8_whatIs rfl rfl ⟨by omega, by omega⟩ (fun h18 => ?_) (fun h18 => absurd h18 (by omega))
      refine aGo okX8_whatIs 4 (f' := (34, [some (.inr 192), some (.inl x), some (.inl y), none], [.inl (p : Int), .inl (tc : Int)], _)) rfl ?_
      refine b_eq (tgt := 42) okX8_whatIs rfl rfl ⟨by omega, by omega⟩ ⟨by omega, by omega⟩ (fun h34 => ?_) (fun h34 => ?_)
      · refine aGo okX8_whatIs 3 (f' := (45, [some (.inr 192), some (.inl x), some (.inl y), some (.inl 0)], [.inl 0], _)) rfl ?_
        refine b0_eq (tgt := 54) okX8_whatIs rfl rfl ⟨by omega, by omega⟩ (fun h45 => ?_) (fun h45 => absurd h45 (by omega))
        exact absurd (by unfold wy_whatIs; (repeat' split) <;> omega) hw0
      · refine aGo okX8_whatIs 4 (f' := (45, [some (.inr 192), some (.inl x), some (.inl y), some (.inl (-3))], [.inl (-3)], _)) rfl ?_
        refine b0_eq (tgt := 54) okX8_whatIs rfl rfl ⟨by omega, by omega⟩ (fun h45 => absurd h45 (by omega)) (fun h45 => ?_)
        refine aGo okX8_whatIs 2 (f' := (50, [some (.inr 192), some (.inl x), some (.inl y), some (.inl (-3))], [.inl (-3), .inr 192], _)) rfl ?_
        refine b_vE (as := [.inl (-3)]) (rest := []) (k := 192) okX8_whatIs rfl lkX8_86 caX8_no (Nat.le_of_ble_eq_true rfl) rfl (Nat.le_of_ble_eq_true rfl) rfl rfl rfl (c_no_3 hre) ?_
        rintro _ _ ⟨rfl, rfl⟩
        have hw : (wy_whatIs tc p x y) = -3 := by unfold wy_whatIs; (repeat' split) <;> omega
        exact b_ret (v := (some (.inl (-3)))) ⟨rfl, Or.inl rfl⟩ ⟨by rw [hw]; first | done | rfl, by rw [hw, bump_3]; exact mSt_of hp6 hd9 ⟨htp, rtp, htl9, hto, rto, htc, by rw [List.length_set]; exact hre⟩ hb hml him⟩ rfl
    · refine b_vS (as := [.inl y, .inl 0, .inl 1]) (rest := []) (.inl 0) okX8_whatIs rfl lkX8_97 caX8_isIn (Nat.le_of_ble_eq_true rfl) rfl (Nat.le_of_ble_eq_true rfl) rfl (c_isIn_f ⟨by omega, by omega⟩ ⟨by omega, by omega⟩ ⟨by omega, by omega⟩ hc15) ?_
      refine b0_ne (tgt := 26) okX8_whatIs rfl rfl ⟨by omega, by omega⟩ (fun h18 => absurd h18 (by omega)) (fun h18 => ?_)
      refine aGo okX8_whatIs 4 (f' := (45, [some (.inr 192), some (.inl x), some (.inl y), some (.inl (-2))], [.inl (-2)], _)) rfl ?_
      refine b0_eq (tgt := 54) okX8_whatIs rfl rfl ⟨by omega, by omega⟩ (fun h45 => absurd h45 (by omega)) (fun h45 => ?_)
      refine aGo okX8_whatIs 2 (f' := (50, [some (.inr 192), some (.inl x), some (.inl y), some (.inl (-2))], [.inl (-2), .inr 192], _)) rfl ?_
      refine b_vE (as := [.inl (-2)]) (rest := []) (k := 192) okX8_whatIs rfl lkX8_86 caX8_no (Nat.le_of_ble_eq_true rfl) rfl (Nat.le_of_ble_eq_true rfl) rfl rfl rfl (c_no_2 hre) ?_
      rintro _ _ ⟨rfl, rfl⟩
      have hw : (wy_whatIs tc p x y) = -2 := by unfold wy_whatIs; (repeat' split) <;> omega
      exact b_ret (v := (some (.inl (-2)))) ⟨rfl, Or.inl rfl⟩ ⟨by rw [hw]; first | done | rfl, by rw [hw, bump_2]; exact mSt_of hp6 hd9 ⟨htp, rtp, htl9, hto, rto, htc, by rw [List.length_set]; exact hre⟩ hb hml him⟩ rfl
  · refine b_vV (as := [.inl x]) (rest := []) (k := 192) (.inl 0) okX8_whatIs rfl lkX8_75 caX8_isOne (Nat.le_of_ble_eq_true rfl) rfl (Nat.le_of_ble_eq_true rfl) rfl rfl rfl (c_isOne_f hp7 ⟨by omega, by omega⟩ hc2) ?_
    refine b0_ne (tgt := 12) okX8_whatIs rfl rfl ⟨by omega, by omega⟩ (fun h5 => absurd h5 (by omega)) (fun h5 => ?_)
    refine aGo okX8_whatIs 4 (f' := (45, [some (.inr 192), some (.inl x), some (.inl y), some (.inl (-1))], [.inl (-1)], _)) rfl ?_
    refine b0_eq (tgt := 54) okX8_whatIs rfl rfl ⟨by omega, by omega⟩ (fun h45 => absurd h45 (by omega)) (fun h45 => ?_)
    refine aGo okX8_whatIs 2 (f' := (50, [some (.inr 192), some (.inl x), some (.inl y), some (.inl (-1))], [.inl (-1), .inr 192], _)) rfl ?_
    refine b_vE (as := [.inl (-1)]) (rest := []) (k := 192) okX8_whatIs rfl lkX8_86 caX8_no (Nat.le_of_ble_eq_true rfl) rfl (Nat.le_of_ble_eq_true rfl) rfl rfl rfl (c_no_1 hre) ?_
    rintro _ _ ⟨rfl, rfl⟩
    have hw : (wy_whatIs tc p x y) = -1 := by unfold wy_whatIs; (repeat' split) <;> omega
    exact b_ret (v := (some (.inl (-1)))) ⟨rfl, Or.inl rfl⟩ ⟨by rw [hw]; first | done | rfl, by rw [hw, bump_1]; exact mSt_of hp6 hd9 ⟨htp, rtp, htl9, hto, rto, htc, by rw [List.length_set]; exact hre⟩ hb hml him⟩ rfl
set_option maxRecDepth 100000 in
set_option maxHeartbeats 4000000 in
theorem mr_row {imt : Int} {tc : Nat} {k f c n kp l : List Int} {p : Nat} {t d : Int} {to re : List Int} {tl : Nat} {tp : List Int} {I : moT} {A0 A1 A2 A3 A4 A5 : List (Option aE)} {h : aH} {N : Nat} (hS : mSt imt tc k f c n kp l p t d to re tl tp I A0 A1 A2 A3 A4 A5 h) {x : Int} (hx : aI x) (hw0 : (wy_row tc x) ≠ 0) : aEv mX8_row 1 0 0 N [.inr 192, .inl x] h (fun rv h2 => rv = some (.inl ((wy_row tc x))) ∧ mSt imt tc k f c n kp l p t d to (bump re (wy_row tc x)) tl tp I A0 A1 A2 A3 A4 A5 h2) := by
  obtain ⟨hp6, hd9, hax, hb, le, la, td, kt, sh, so, had, gr, fi, se, at_, sn, ik, cu, st, hml, him, rfl⟩ := hS
  obtain ⟨htp, rtp, htl9, hto, rto, htc, hre⟩ := id hax
  obtain ⟨hle, hla, htd, hkt, hsh, hso, hha, hgr, hfi, hse⟩ := id hml
  obtain ⟨hp7, hk, hf, hc, hn, hkp, hl, rk, rf, rc, rn, rkp, rl, ht0, ht1, hd0, hd1⟩ := id hb
  obtain ⟨hx1, hx2⟩ := hx
  refine aEv_of okX8_row caX8_row (Nat.le_of_ble_eq_true rfl) ?_
  refine aGo okX8_row 3 (f' := (4, [some (.inr 192), some (.inl x), none], [.inl 99, .inl 0, .inl x], _)) rfl ?_
  rcases (show (x < 0) ∨ (99 < x) ∨ (0 ≤ x ∧ x ≤ 99) from by omega) with hc4 | hc4 | hc4
  · refine b_vS (as := [.inl x, .inl 0, .inl 99]) (rest := []) (.inl (-4)) okX8_row rfl lkX8_79 caX8_bound (Nat.le_of_ble_eq_true rfl) rfl (Nat.le_of_ble_eq_true rfl) rfl (c_bound_l ⟨by omega, by omega⟩ ⟨by omega, by omega⟩ ⟨by omega, by omega⟩ hc4) ?_
    refine aGo okX8_row 2 (f' := (9, [some (.inr 192), some (.inl x), some (.inl (-4))], [.inl (-4)], _)) rfl ?_
    refine b0_ne (tgt := 24) okX8_row rfl rfl ⟨by omega, by omega⟩ (fun h9 => ?_) (fun h9 => absurd h9 (by omega))
    refine aGo okX8_row 1 (f' := (25, [some (.inr 192), some (.inl x), some (.inl (-4))], [.inl (-4)], _)) rfl ?_
    refine b0_eq (tgt := 34) okX8_row rfl rfl ⟨by omega, by omega⟩ (fun h25 => absurd h25 (by omega)) (fun h25 => ?_)
    refine aGo okX8_row 2 (f' := (30, [some (.inr 192), some (.inl x), some (.inl (-4))], [.inl (-4), .inr 192], _)) rfl ?_
    refine b_vE (as := [.inl (-4)]) (rest := []) (k := 192) okX8_row rfl lkX8_86 caX8_no (Nat.le_of_ble_eq_true rfl) rfl (Nat.le_of_ble_eq_true rfl) rfl rfl rfl (c_no_4 hre) ?_
    rintro _ _ ⟨rfl, rfl⟩
    have hw : (wy_row tc x) = -4 := by unfold wy_row; (repeat' split) <;> omega
    exact b_ret (v := (some (.inl (-4)))) ⟨rfl, Or.inl rfl⟩ ⟨by rw [hw]; first | done | rfl, by rw [hw, bump_4]; exact mSt_of hp6 hd9 ⟨htp, rtp, htl9, hto, rto, htc, by rw [List.length_set]; exact hre⟩ hb hml him⟩ rfl
  · refine b_vS (as := [.inl x, .inl 0, .inl 99]) (rest := []) (.inl (-6)) okX8_row rfl lkX8_79 caX8_bound (Nat.le_of_ble_eq_true rfl) rfl (Nat.le_of_ble_eq_true rfl) rfl (c_bound_h ⟨by omega, by omega⟩ ⟨by omega, by omega⟩ ⟨by omega, by omega⟩ (by omega) hc4) ?_
    refine aGo okX8_row 2 (f' := (9, [some (.inr 192), some (.inl x), some (.inl (-6))], [.inl (-6)], _)) rfl ?_
    refine b0_ne (tgt := 24) okX8_row rfl rfl ⟨by omega, by omega⟩ (fun h9 => ?_) (fun h9 => absurd h9 (by omega))
    refine aGo okX8_row 1 (f' := (25, [some (.inr 192), some (.inl x), some (.inl (-6))], [.inl (-6)], _)) rfl ?_
    refine b0_eq (tgt := 34) okX8_row rfl rfl ⟨by omega, by omega⟩ (fun h25 => absurd h25 (by omega)) (fun h25 => ?_)
    refine aGo okX8_row 2 (f' := (30, [some (.inr 192), some (.inl x), some (.inl (-6))], [.inl (-6), .inr 192], _)) rfl ?_
    refine b_vE (as := [.inl (-6)]) (rest := []) (k := 192) okX8_row rfl lkX8_86 caX8_no (Nat.le_of_ble_eq_true rfl) rfl (Nat.le_of_ble_eq_true rfl) rfl rfl rfl (c_no_6 hre) ?_
    rintro _ _ ⟨rfl, rfl⟩
    have hw : (wy_row tc x) = -6 := by unfold wy_row; (repeat' split) <;> omega
    exact b_ret (v := (some (.inl (-6)))) ⟨rfl, Or.inl rfl⟩ ⟨by rw [hw]; first | done | rfl, by rw [hw, bump_6]; exact mSt_of hp6 hd9 ⟨htp, rtp, htl9, hto, rto, htc, by rw [List.length_set]; exact hre⟩ hb hml him⟩ rfl
  · refine b_vS (as := [.inl x, .inl 0, .inl 99]) (rest := []) (.inl 0) okX8_row rfl lkX8_79 caX8_bound (Nat.le_of_ble_eq_true rfl) rfl (Nat.le_of_ble_eq_true rfl) rfl (c_bound_m ⟨by omega, by omega⟩ ⟨by omega, by omega⟩ ⟨by omega, by omega⟩ hc4) ?_
    refine aGo okX8_row 2 (f' := (9, [some (.inr 192), some (.inl x), some (.inl 0)], [.inl 0], _)) rfl ?_
    refine b0_ne (tgt := 24) okX8_row rfl rfl ⟨by omega, by omega⟩ (fun h9 => absurd h9 (by omega)) (fun h9 => ?_)
    refine aGo okX8_row 3 (f' := (18, [some (.inr 192), some (.inl x), some (.inl 0)], [.inl 12, .inl (tc : Int)], _)) rfl ?_
    refine b_ne (tgt := 24) okX8_row rfl rfl ⟨by omega, by omega⟩ ⟨by omega, by omega⟩ (fun h18 => ?_) (fun h18 => ?_)
    · refine aGo okX8_row 1 (f' := (25, [some (.inr 192), some (.inl x), some (.inl 0)], [.inl 0], _)) rfl ?_
      refine b0_eq (tgt := 34) okX8_row rfl rfl ⟨by omega, by omega⟩ (fun h25 => ?_) (fun h25 => absurd h25 (by omega))
      exact absurd (by unfold wy_row; (repeat' split) <;> omega) hw0
    · refine aGo okX8_row 3 (f' := (25, [some (.inr 192), some (.inl x), some (.inl (-6))], [.inl (-6)], _)) rfl ?_
      refine b0_eq (tgt := 34) okX8_row rfl rfl ⟨by omega, by omega⟩ (fun h25 => absurd h25 (by omega)) (fun h25 => ?_)
      refine aGo okX8_row 2 (f' := (30, [some (.inr 192), some (.inl x), some (.inl (-6))], [.inl (-6), .inr 192], _)) rfl ?_
      refine b_vE (as := [.inl (-6)]) (rest := []) (k := 192) okX8_row rfl lkX8_86 caX8_no (Nat.le_of_ble_eq_true rfl) rfl (Nat.le_of_ble_eq_true rfl) rfl rfl rfl (c_no_6 hre) ?_
      rintro _ _ ⟨rfl, rfl⟩
      have hw : (wy_row tc x) = -6 := by unfold wy_row; (repeat' split) <;> omega
      exact b_ret (v := (some (.inl (-6)))) ⟨rfl, Or.inl rfl⟩ ⟨by rw [hw]; first | done | rfl, by rw [hw, bump_6]; exact mSt_of hp6 hd9 ⟨htp, rtp, htl9, hto, rto, htc, by rw [List.length_set]; exact hre⟩ hb hml him⟩ rfl
set_option maxRecDepth 100000 in
set_option maxHeartbeats 4000000 in
theorem mr_judge {imt : Int} {tc : Nat} {k f c n kp l : List Int} {p : Nat} {t d : Int} {to re : List Int} {tl : Nat} {tp : List Int} {I : moT} {A0 A1 A2 A3 A4 A5 : List (Option aE)} {h : aH} {N : Nat} (hS : mSt imt tc k f c n kp l p t d to re tl tp I A0 A1 A2 A3 A4 A5 h) {x : Int} (hx : aI x) (hw0 : (wy_judge p x) ≠ 0) : aEv mX8_judge 7 0 0 N [.inr 192, .inl x] h (fun rv h2 => rv = some (.inl ((wy_judge p x))) ∧ mSt imt tc k f c n kp l p t d to (bump re (wy_judge p x)) tl tp I A0 A1 A2 A3 A4 A5 h2) := by
  obtain ⟨hp6, hd9, hax, hb, le, la, td, kt, sh, so, had, gr, fi, se, at_, sn, ik, cu, st, hml, him, rfl⟩ := hS
  obtain ⟨htp, rtp, htl9, hto, rto, htc, hre⟩ := id hax
  obtain ⟨hle, hla, htd, hkt, hsh, hso, hha, hgr, hfi, hse⟩ := id hml
  obtain ⟨hp7, hk, hf, hc, hn, hkp, hl, rk, rf, rc, rn, rkp, rl, ht0, ht1, hd0, hd1⟩ := id hb
  obtain ⟨hx1, hx2⟩ := hx
  refine aEv_of okX8_judge caX8_judge (Nat.le_of_ble_eq_true rfl) ?_
  refine aGo okX8_judge 2 (f' := (2, [some (.inr 192), some (.inl x), none, none, none], [.inl x, .inr 192], _)) rfl ?_
  by_cases hc2 : 0 ≤ x ∧ x < (p : Int)
  · refine b_vV (as := [.inl x]) (rest := []) (k := 192) (.inl 1) okX8_judge rfl lkX8_75 caX8_isOne (Nat.le_of_ble_eq_true rfl) rfl (Nat.le_of_ble_eq_true rfl) rfl rfl rfl (c_isOne_t hp7 hc2) ?_
    refine b0_ne (tgt := 14) okX8_judge rfl rfl ⟨by omega, by omega⟩ (fun h5 => ?_) (fun h5 => absurd h5 (by omega))
    exact absurd (by unfold wy_judge; (repeat' split) <;> omega) hw0
  · refine b_vV (as := [.inl x]) (rest := []) (k := 192) (.inl 0) okX8_judge rfl lkX8_75 caX8_isOne (Nat.le_of_ble_eq_true rfl) rfl (Nat.le_of_ble_eq_true rfl) rfl rfl rfl (c_isOne_f hp7 ⟨by omega, by omega⟩ hc2) ?_
    refine b0_ne (tgt := 14) okX8_judge rfl rfl ⟨by omega, by omega⟩ (fun h5 => absurd h5 (by omega)) (fun h5 => ?_)
    refine aGo okX8_judge 2 (f' := (10, [some (.inr 192), some (.inl x), none, none, none], [.inl (-1), .inr 192], _)) rfl ?_
    refine b_vE (as := [.inl (-1)]) (rest := []) (k := 192) okX8_judge rfl lkX8_86 caX8_no (Nat.le_of_ble_eq_true rfl) rfl (Nat.le_of_ble_eq_true rfl) rfl rfl rfl (c_no_1 hre) ?_
    rintro _ _ ⟨rfl, rfl⟩
    have hw : (wy_judge p x) = -1 := by unfold wy_judge; (repeat' split) <;> omega
    exact b_ret (v := (some (.inl (-1)))) ⟨rfl, Or.inl rfl⟩ ⟨by rw [hw]; first | done | rfl, by rw [hw, bump_1]; exact mSt_of hp6 hd9 ⟨htp, rtp, htl9, hto, rto, htc, by rw [List.length_set]; exact hre⟩ hb hml him⟩ rfl
set_option maxRecDepth 100000 in
set_option maxHeartbeats 4000000 in
theorem mr_lots {imt : Int} {tc : Nat} {k f c n kp l : List Int} {p : Nat} {t d : Int} {to re : List Int} {tl : Nat} {tp : List Int} {I : moT} {A0 A1 A2 A3 A4 A5 : List (Option aE)} {h : aH} {N : Nat} (hS : mSt imt tc k f c n kp l p t d to re tl tp I A0 A1 A2 A3 A4 A5 h) {x : Int} (hx : aI x) {y : Int} (hy : aI y) {z : Int} (hz : aI z) (hw0 : (wy_lots p x y z) ≠ 0) : aEv mX8_lots 6 0 0 N [.inr 192, .inl x, .inl y, .inl z] h (fun rv h2 => rv = some (.inl ((wy_lots p x y z))) ∧ mSt imt tc k f c n kp l p t d to (bump re (wy_lots p x y z)) tl tp I A0 A1 A2 A3 A4 A5 h2) := by
  obtain ⟨hp6, hd9, hax, hb, le, la, td, kt, sh, so, had, gr, fi, se, at_, sn, ik, cu, st, hml, him, rfl⟩ := hS
  obtain ⟨htp, rtp, htl9, hto, rto, htc, hre⟩ := id hax
  obtain ⟨hle, hla, htd, hkt, hsh, hso, hha, hgr, hfi, hse⟩ := id hml
  obtain ⟨hp7, hk, hf, hc, hn, hkp, hl, rk, rf, rc, rn, rkp, rl, ht0, ht1, hd0, hd1⟩ := id hb
  obtain ⟨hx1, hx2⟩ := hx
  obtain ⟨hy1, hy2⟩ := hy
  obtain ⟨hz1, hz2⟩ := hz
  refine aEv_of okX8_lots caX8_lots (Nat.le_of_ble_eq_true rfl) ?_
  refine aGo okX8_lots 3 (f' := (4, [some (.inr 192), some (.inl x), some (.inl y), some (.inl z), none, none, none, none, none, none], [.inl 20, .inl 1, .inl x], _)) rfl ?_
  rcases (show (x < 1) ∨ (20 < x) ∨ (1 ≤ x ∧ x ≤ 20) from by omega) with hc4 | hc4 | hc4
  · refine b_vS (as := [.inl x, .inl 1, .inl 20]) (rest := []) (.inl (-4)) okX8_lots rfl lkX8_79 caX8_bound (Nat.le_of_ble_eq_true rfl) rfl (Nat.le_of_ble_eq_true rfl) rfl (c_bound_l ⟨by omega, by omega⟩ ⟨by omega, by omega⟩ ⟨by omega, by omega⟩ hc4) ?_
    refine aGo okX8_lots 2 (f' := (11, [some (.inr 192), some (.inl x), some (.inl y), some (.inl z), some (.inl (-4)), none, none, none, none, none], [.inl (-4)], _)) rfl ?_
    refine b0_ne (tgt := 43) okX8_lots rfl rfl ⟨by omega, by omega⟩ (fun h11 => ?_) (fun h11 => absurd h11 (by omega))
    refine aGo okX8_lots 1 (f' := (45, [some (.inr 192), some (.inl x), some (.inl y), some (.inl z), some (.inl (-4)), none, none, none, none, none], [.inl (-4)], _)) rfl ?_
    refine b0_eq (tgt := 55) okX8_lots rfl rfl ⟨by omega, by omega⟩ (fun h45 => absurd h45 (by omega)) (fun h45 => ?_)
    refine aGo okX8_lots 2 (f' := (51, [some (.inr 192), some (.inl x), some (.inl y), some (.inl z), some (.inl (-4)), none, none, none, none, none], [.inl (-4), .inr 192], _)) rfl ?_
    refine b_vE (as := [.inl (-4)]) (rest := []) (k := 192) okX8_lots rfl lkX8_86 caX8_no (Nat.le_of_ble_eq_true rfl) rfl (Nat.le_of_ble_eq_true rfl) rfl rfl rfl (c_no_4 hre) ?_
    rintro _ _ ⟨rfl, rfl⟩
    have hw : (wy_lots p x y z) = -4 := by unfold wy_lots; (repeat' split) <;> omega
    exact b_ret (v := (some (.inl (-4)))) ⟨rfl, Or.inl rfl⟩ ⟨by rw [hw]; first | done | rfl, by rw [hw, bump_4]; exact mSt_of hp6 hd9 ⟨htp, rtp, htl9, hto, rto, htc, by rw [List.length_set]; exact hre⟩ hb hml him⟩ rfl
  · refine b_vS (as := [.inl x, .inl 1, .inl 20]) (rest := []) (.inl (-6)) okX8_lots rfl lkX8_79 caX8_bound (Nat.le_of_ble_eq_true rfl) rfl (Nat.le_of_ble_eq_true rfl) rfl (c_bound_h ⟨by omega, by omega⟩ ⟨by omega, by omega⟩ ⟨by omega, by omega⟩ (by omega) hc4) ?_
    refine aGo okX8_lots 2 (f' := (11, [some (.inr 192), some (.inl x), some (.inl y), some (.inl z), some (.inl (-6)), none, none, none, none, none], [.inl (-6)], _)) rfl ?_
    refine b0_ne (tgt := 43) okX8_lots rfl rfl ⟨by omega, by omega⟩ (fun h11 => ?_) (fun h11 => absurd h11 (by omega))
    refine aGo okX8_lots 1 (f' := (45, [some (.inr 192), some (.inl x), some (.inl y), some (.inl z), some (.inl (-6)), none, none, none, none, none], [.inl (-6)], _)) rfl ?_
    refine b0_eq (tgt := 55) okX8_lots rfl rfl ⟨by omega, by omega⟩ (fun h45 => absurd h45 (by omega)) (fun h45 => ?_)
    refine aGo okX8_lots 2 (f' := (51, [some (.inr 192), some (.inl x), some (.inl y), some (.inl z), some (.inl (-6)), none, none, none, none, none], [.inl (-6), .inr 192], _)) rfl ?_
    refine b_vE (as := [.inl (-6)]) (rest := []) (k := 192) okX8_lots rfl lkX8_86 caX8_no (Nat.le_of_ble_eq_true rfl) rfl (Nat.le_of_ble_eq_true rfl) rfl rfl rfl (c_no_6 hre) ?_
    rintro _ _ ⟨rfl, rfl⟩
    have hw : (wy_lots p x y z) = -6 := by unfold wy_lots; (repeat' split) <;> omega
    exact b_ret (v := (some (.inl (-6)))) ⟨rfl, Or.inl rfl⟩ ⟨by rw [hw]; first | done | rfl, by rw [hw, bump_6]; exact mSt_of hp6 hd9 ⟨htp, rtp, htl9, hto, rto, htc, by rw [List.length_set]; exact hre⟩ hb hml him⟩ rfl
  · refine b_vS (as := [.inl x, .inl 1, .inl 20]) (rest := []) (.inl 0) okX8_lots rfl lkX8_79 caX8_bound (Nat.le_of_ble_eq_true rfl) rfl (Nat.le_of_ble_eq_true rfl) rfl (c_bound_m ⟨by omega, by omega⟩ ⟨by omega, by omega⟩ ⟨by omega, by omega⟩ hc4) ?_
    refine aGo okX8_lots 2 (f' := (11, [some (.inr 192), some (.inl x), some (.inl y), some (.inl z), some (.inl 0), none, none, none, none, none], [.inl 0], _)) rfl ?_
    refine b0_ne (tgt := 43) okX8_lots rfl rfl ⟨by omega, by omega⟩ (fun h11 => absurd h11 (by omega)) (fun h11 => ?_)
    refine aGo okX8_lots 3 (f' := (17, [some (.inr 192), some (.inl x), some (.inl y), some (.inl z), some (.inl 0), none, none, none, none, none], [.inl 1, .inl 0, .inl z], _)) rfl ?_
    by_cases hc17 : 0 ≤ z ∧ z ≤ 1
    · refine b_vS (as := [.inl z, .inl 0, .inl 1]) (rest := []) (.inl 1) okX8_lots rfl lkX8_97 caX8_isIn (Nat.le_of_ble_eq_true rfl) rfl (Nat.le_of_ble_eq_true rfl) rfl (c_isIn_t ⟨by omega, by omega⟩ ⟨by omega, by omega⟩ ⟨by omega, by omega⟩ hc17) ?_
      refine b0_ne (tgt := 28) okX8_lots rfl rfl ⟨by omega, by omega⟩ (fun h20 => ?_) (fun h20 => absurd h20 (by omega))
      refine aGo okX8_lots 2 (f' := (32, [some (.inr 192), some (.inl x), some (.inl y), some (.inl z), some (.inl 0), none, none, none, none, none], [.inl (p : Int)], _)) rfl ?_
      refine b0_ne (tgt := 40) okX8_lots rfl rfl ⟨by omega, by omega⟩ (fun h32 => ?_) (fun h32 => ?_)
      · refine aGo okX8_lots 3 (f' := (45, [some (.inr 192), some (.inl x), some (.inl y), some (.inl z), some (.inl 0), none, none, none, none, none], [.inl 0], _)) rfl ?_
        refine b0_eq (tgt := 55) okX8_lots rfl rfl ⟨by omega, by omega⟩ (fun h45 => ?_) (fun h45 => absurd h45 (by omega))
        exact absurd (by unfold wy_lots; (repeat' split) <;> omega) hw0
      · refine aGo okX8_lots 4 (f' := (45, [some (.inr 192), some (.inl x), some (.inl y), some (.inl z), some (.inl (-3)), none, none, none, none, none], [.inl (-3)], _)) rfl ?_
        refine b0_eq (tgt := 55) okX8_lots rfl rfl ⟨by omega, by omega⟩ (fun h45 => absurd h45 (by omega)) (fun h45 => ?_)
        refine aGo okX8_lots 2 (f' := (51, [some (.inr 192), some (.inl x), some (.inl y), some (.inl z), some (.inl (-3)), none, none, none, none, none], [.inl (-3), .inr 192], _)) rfl ?_
        refine b_vE (as := [.inl (-3)]) (rest := []) (k := 192) okX8_lots rfl lkX8_86 caX8_no (Nat.le_of_ble_eq_true rfl) rfl (Nat.le_of_ble_eq_true rfl) rfl rfl rfl (c_no_3 hre) ?_
        rintro _ _ ⟨rfl, rfl⟩
        have hw : (wy_lots p x y z) = -3 := by unfold wy_lots; (repeat' split) <;> omega
        exact b_ret (v := (some (.inl (-3)))) ⟨rfl, Or.inl rfl⟩ ⟨by rw [hw]; first | done | rfl, by rw [hw, bump_3]; exact mSt_of hp6 hd9 ⟨htp, rtp, htl9, hto, rto, htc, by rw [List.length_set]; exact hre⟩ hb hml him⟩ rfl
    · refine b_vS (as := [.inl z, .inl 0, .inl 1]) (rest := []) (.inl 0) okX8_lots rfl lkX8_97 caX8_isIn (Nat.le_of_ble_eq_true rfl) rfl (Nat.le_of_ble_eq_true rfl) rfl (c_isIn_f ⟨by omega, by omega⟩ ⟨by omega, by omega⟩ ⟨by omega, by omega⟩ hc17) ?_
      refine b0_ne (tgt := 28) okX8_lots rfl rfl ⟨by omega, by omega⟩ (fun h20 => absurd h20 (by omega)) (fun h20 => ?_)
      refine aGo okX8_lots 4 (f' := (45, [some (.inr 192), some (.inl x), some (.inl y), some (.inl z), some (.inl (-2)), none, none, none, none, none], [.inl (-2)], _)) rfl ?_
      refine b0_eq (tgt := 55) okX8_lots rfl rfl ⟨by omega, by omega⟩ (fun h45 => absurd h45 (by omega)) (fun h45 => ?_)
      refine aGo okX8_lots 2 (f' := (51, [some (.inr 192), some (.inl x), some (.inl y), some (.inl z), some (.inl (-2)), none, none, none, none, none], [.inl (-2), .inr 192], _)) rfl ?_
      refine b_vE (as := [.inl (-2)]) (rest := []) (k := 192) okX8_lots rfl lkX8_86 caX8_no (Nat.le_of_ble_eq_true rfl) rfl (Nat.le_of_ble_eq_true rfl) rfl rfl rfl (c_no_2 hre) ?_
      rintro _ _ ⟨rfl, rfl⟩
      have hw : (wy_lots p x y z) = -2 := by unfold wy_lots; (repeat' split) <;> omega
      exact b_ret (v := (some (.inl (-2)))) ⟨rfl, Or.inl rfl⟩ ⟨by rw [hw]; first | done | rfl, by rw [hw, bump_2]; exact mSt_of hp6 hd9 ⟨htp, rtp, htl9, hto, rto, htc, by rw [List.length_set]; exact hre⟩ hb hml him⟩ rfl
set_option maxRecDepth 100000 in
set_option maxHeartbeats 4000000 in
theorem mr_on {imt : Int} {tc : Nat} {k f c n kp l : List Int} {p : Nat} {t d : Int} {to re : List Int} {tl : Nat} {tp : List Int} {I : moT} {A0 A1 A2 A3 A4 A5 : List (Option aE)} {h : aH} {N : Nat} (hS : mSt imt tc k f c n kp l p t d to re tl tp I A0 A1 A2 A3 A4 A5 h) (hw0 : (wy_on imt) ≠ 0) : aEv mX8_on 2 0 0 N [.inr 192] h (fun rv h2 => rv = some (.inl ((wy_on imt))) ∧ mSt imt tc k f c n kp l p t d to (bump re (wy_on imt)) tl tp I A0 A1 A2 A3 A4 A5 h2) := by
  obtain ⟨hp6, hd9, hax, hb, le, la, td, kt, sh, so, had, gr, fi, se, at_, sn, ik, cu, st, hml, him, rfl⟩ := hS
  obtain ⟨htp, rtp, htl9, hto, rto, htc, hre⟩ := id hax
  obtain ⟨hle, hla, htd, hkt, hsh, hso, hha, hgr, hfi, hse⟩ := id hml
  obtain ⟨hp7, hk, hf, hc, hn, hkp, hl, rk, rf, rc, rn, rkp, rl, ht0, ht1, hd0, hd1⟩ := id hb
  refine aEv_of okX8_on caX8_on (Nat.le_of_ble_eq_true rfl) ?_
  refine aGo okX8_on 2 (f' := (4, [some (.inr 192)], [.inl imt], _)) rfl ?_
  refine b0_ne (tgt := 14) okX8_on rfl rfl ⟨by omega, by omega⟩ (fun h4 => ?_) (fun h4 => ?_)
  · exact absurd (by unfold wy_on; (repeat' split) <;> omega) hw0
  · refine aGo okX8_on 2 (f' := (10, [some (.inr 192)], [.inl (-3), .inr 192], _)) rfl ?_
    refine b_vE (as := [.inl (-3)]) (rest := []) (k := 192) okX8_on rfl lkX8_86 caX8_no (Nat.le_of_ble_eq_true rfl) rfl (Nat.le_of_ble_eq_true rfl) rfl rfl rfl (c_no_3 hre) ?_
    rintro _ _ ⟨rfl, rfl⟩
    have hw : (wy_on imt) = -3 := by unfold wy_on; (repeat' split) <;> omega
    exact b_ret (v := (some (.inl (-3)))) ⟨rfl, Or.inl rfl⟩ ⟨by rw [hw]; first | done | rfl, by rw [hw, bump_3]; exact mSt_of hp6 hd9 ⟨htp, rtp, htl9, hto, rto, htc, by rw [List.length_set]; exact hre⟩ hb hml him⟩ rfl
