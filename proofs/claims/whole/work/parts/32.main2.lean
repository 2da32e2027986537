/-! The answers of the public methods; laid by gen_main2.py -/
theorem amy_nat9 {F : Nat → Int} (hF : ∀ x, 0 ≤ F x) : ∀ x, ∃ y : Nat, (amy F (-9, -1) (x + 1)).1 = (y : Int) ∧ y < x + 1 ∧ (amy F (-9, -1) (x + 1)).2 = F y := by
  intro x
  induction x with
  | zero => exact ⟨0, by rw [amy_t (by have := hF 0; show (-1 : Int) < _; omega)]; first | done | rfl, by omega, by rw [amy_t (by have := hF 0; show (-1 : Int) < _; omega)]⟩
  | succ x ih =>
    obtain ⟨y, h1, h2, h3⟩ := ih
    by_cases h : (amy F (-9, -1) (x + 1)).2 < F (x + 1)
    · exact ⟨x + 1, by rw [amy_t h], by omega, by rw [amy_t h]⟩
    · exact ⟨y, by rw [amy_f (by omega)]; exact h1, by omega, by rw [amy_f (by omega)]; exact h3⟩
theorem qcN_in (c : List Int) (i g : Nat) (K : Int) : ∀ v, v ≤ 36 → (qcN c i g K v).1 = -9 ∨ (0 ≤ (qcN c i g K v).1 ∧ (qcN c i g K v).1 ≤ 35) := by
  intro v
  induction v with
  | zero => intro _; exact Or.inl rfl
  | succ v ih =>
    intro hv
    have h1 := ih (by omega)
    simp only [qcN]
    split
    · right; simp only; omega
    · exact h1
section AMB
variable {A0 A3 B B2 B4 A5 C6 : List (Option aE)} {k f c n kp l nt w sh : List Int} {p : Nat} {t d wa : Int} {N : Nat} {z tl : Int} {fs ss sp la gr tp : List Int}
set_option maxRecDepth 100000 in
set_option maxHeartbeats 4000000 in
theorem c_allShares_t (hp : p ≤ 7) (h : 0 < p) : aEv mX3_allShares 0 0 0 N [.inr 32] [A0, (moSeg 32 k f c n kp l nt w sh (p : Int) t d wa), B, (miscSeg z fs ss sp la gr tl tp), B4, A5, C6] (aQx (some (.inl t)) [A0, (moSeg 32 k f c n kp l nt w sh (p : Int) t d wa), B, (miscSeg z fs ss sp la gr tl tp), B4, A5, C6]) := by
  refine aEv_of okX3_allShares caX3_allShares (Nat.le_of_ble_eq_true rfl) ?_
  refine aGo okX3_allShares 2 (f' := (4, [some (.inr 32)], [.inl (p : Int)], _)) rfl ?_
  refine b0_le (tgt := 14) okX3_allShares rfl rfl ⟨by omega, by omega⟩ (fun h4 => absurd h4 (by omega)) (fun h4 => ?_)
  refine aGo okX3_allShares 3 (f' := (15, [some (.inr 32)], [.inl t], _)) rfl ?_
  exact b_ret (v := (some (.inl t))) ⟨rfl, Or.inl rfl⟩ ⟨rfl, rfl⟩ rfl
set_option maxRecDepth 100000 in
set_option maxHeartbeats 4000000 in
theorem c_allShares_f (hp : p ≤ 7) (h : ¬ 0 < p) : aEv mX3_allShares 0 0 0 N [.inr 32] [A0, (moSeg 32 k f c n kp l nt w sh (p : Int) t d wa), B, (miscSeg z fs ss sp la gr tl tp), B4, A5, C6] (aQx (some (.inl 0)) [A0, (moSeg 32 k f c n kp l nt w sh (p : Int) t d wa), B, (miscSeg z fs ss sp la gr tl tp), B4, A5, C6]) := by
  refine aEv_of okX3_allShares caX3_allShares (Nat.le_of_ble_eq_true rfl) ?_
  refine aGo okX3_allShares 2 (f' := (4, [some (.inr 32)], [.inl (p : Int)], _)) rfl ?_
  refine b0_le (tgt := 14) okX3_allShares rfl rfl ⟨by omega, by omega⟩ (fun h4 => ?_) (fun h4 => absurd h4 (by omega))
  refine aGo okX3_allShares 1 (f' := (15, [some (.inr 32)], [.inl 0], _)) rfl ?_
  exact b_ret (v := (some (.inl 0))) ⟨rfl, Or.inl rfl⟩ ⟨rfl, rfl⟩ rfl
end AMB
set_option maxRecDepth 100000 in
set_option maxHeartbeats 4000000 in
theorem k_letter {imt : Int} {tc : Nat} {k f c n kp l : List Int} {p : Nat} {t d : Int} {to re : List Int} {tl : Nat} {tp : List Int} {I : moT} {C6 : List (Option aE)} {h : aH} {N : Nat} (hS : cSt imt tc k f c n kp l p t d to re tl tp I C6 h) {x : Int} (hx : 0 ≤ x ∧ x ≤ 255) (htl : tl < 96) : aEv mX7_letter 2 0 0 N [.inr 0, .inl x] h (fun rv h2 => rv = some (.inl (((tl : Int) + 1))) ∧ cSt imt tc k f c n kp l p t d to re (tl + 1) (tp.set tl x) I C6 h2) := by
  obtain ⟨hp6, hd9, hax, nt, w, sh, wa, B, z0, fs, ss, sp, la, gr, B4, hm, hB, hms, hI, hi01, rfl⟩ := hS
  obtain ⟨htp, rtp, htl9, hto, rto, htc, hre⟩ := id hax
  obtain ⟨hfs, hss, hsp, hla, hgr⟩ := id hms
  obtain ⟨⟨hp7, hk, hf, hc, hn, hkp, hl, rk, rf, rc, rn, rkp, rl, ht0, ht1, hd0, hd1⟩, ⟨hnt, znt⟩, ⟨hw, zw, zwa⟩, ⟨hsh, zsh⟩⟩ := id hm
  refine aEv_of okX7_letter caX7_letter (Nat.le_of_ble_eq_true rfl) ?_
  refine aGo okX7_letter 1 (f' := (1, [some (.inr 0), some (.inl x)], [.inl x], _)) rfl ?_
  refine b0_ge (tgt := 11) okX7_letter rfl rfl ⟨by omega, by omega⟩ (fun h1 => ?_) (fun h1 => ?_)
  · refine aGo okX7_letter 2 (f' := (15, [some (.inr 0), some (.inl x)], [.inl 255, .inl x], _)) rfl ?_
    refine b_gt (tgt := 28) okX7_letter rfl rfl ⟨by omega, by omega⟩ ⟨by omega, by omega⟩ (fun h15 => ?_) (fun h15 => ?_)
    · refine aGo okX7_letter 2 (f' := (31, [some (.inr 0), some (.inl x)], [.inl (-6), .inr 0], _)) rfl ?_
      exfalso; omega
    · refine aGo okX7_letter 2 (f' := (22, [some (.inr 0), some (.inl x)], [.inr 110], _)) rfl ?_
      refine b_vV (as := []) (rest := []) (k := 110) (.inl 1) okX7_letter rfl lkX7_78 caX6_hasRoom (Nat.le_of_ble_eq_true rfl) rfl (Nat.le_of_ble_eq_true rfl) rfl rfl rfl (c_hasRoom_t htl) ?_
      refine b0_ne (tgt := 35) okX7_letter rfl rfl ⟨by omega, by omega⟩ (fun h25 => ?_) (fun h25 => absurd h25 (by omega))
      refine aGo okX7_letter 3 (f' := (40, [some (.inr 0), some (.inl x)], [.inl x, .inr 110], _)) rfl ?_
      refine b_vE (as := [.inl x]) (rest := []) (k := 110) okX7_letter rfl lkX7_82 caX6_append (Nat.le_of_ble_eq_true rfl) rfl (Nat.le_of_ble_eq_true rfl) rfl rfl rfl (c_append (x := tl) htl htp) ?_
      rintro _ _ ⟨rfl, rfl⟩
      exact b_ret (v := (some (.inl ((tl : Int) + 1)))) ⟨rfl, Or.inl rfl⟩ ⟨congrArg (fun q : Int => (some (.inl q) : Option aV)) (rfl), by exact cSt_of hp6 hd9 ⟨by rw [List.length_set]; exact htp, rng_set rtp (by omega) (by omega), by omega, hto, rto, htc, hre⟩ (hm) hB (hms) (hI) (hi01)⟩ rfl
  · refine aGo okX7_letter 2 (f' := (7, [some (.inr 0), some (.inl x)], [.inl (-4), .inr 0], _)) rfl ?_
    exfalso; omega
set_option maxRecDepth 100000 in
set_option maxHeartbeats 4000000 in
theorem k_person {imt : Int} {tc : Nat} {k f c n kp l : List Int} {p : Nat} {t d : Int} {to re : List Int} {tl : Nat} {tp : List Int} {I : moT} {C6 : List (Option aE)} {h : aH} {N : Nat} (hS : cSt imt tc k f c n kp l p t d to re tl tp I C6 h) {i : Nat} {y : Int} (hi : i < p) (hy : 0 ≤ y ∧ y ≤ 6) : aEv mX7_person 2 0 0 N [.inr 0, .inl (i : Int), .inl y] h (fun rv h2 => rv = some (.inl (([k.getD i 0, f.getD i 0, c.getD i 0, n.getD i 0, kp.getD i 0, wt p k f c i, shr p k f c t i].getD y.toNat 0))) ∧ cSt imt tc k f c n kp l p t d to re tl tp I C6 h2) := by
  obtain ⟨hp6, hd9, hax, nt, w, sh, wa, B, z0, fs, ss, sp, la, gr, B4, hm, hB, hms, hI, hi01, rfl⟩ := hS
  obtain ⟨htp, rtp, htl9, hto, rto, htc, hre⟩ := id hax
  obtain ⟨hfs, hss, hsp, hla, hgr⟩ := id hms
  obtain ⟨⟨hp7, hk, hf, hc, hn, hkp, hl, rk, rf, rc, rn, rkp, rl, ht0, ht1, hd0, hd1⟩, ⟨hnt, znt⟩, ⟨hw, zw, zwa⟩, ⟨hsh, zsh⟩⟩ := id hm
  refine aEv_of okX7_person caX7_person (Nat.le_of_ble_eq_true rfl) ?_
  refine aGo okX7_person 3 (f' := (5, [some (.inr 0), some (.inl (i : Int)), some (.inl y)], [.inl (i : Int), .inr 32], _)) rfl ?_
  refine b_vV (as := [.inl (i : Int)]) (rest := []) (k := 32) (.inl 1) okX7_person rfl lkX7_95 caX3_isThere (Nat.le_of_ble_eq_true rfl) rfl (Nat.le_of_ble_eq_true rfl) rfl rfl rfl (c_isThere_1_t (x := (i : Int)) hp7 (by omega) (by omega)) ?_
  refine b0_ne (tgt := 17) okX7_person rfl rfl ⟨by omega, by omega⟩ (fun h8 => ?_) (fun h8 => absurd h8 (by omega))
  refine aGo okX7_person 1 (f' := (18, [some (.inr 0), some (.inl (i : Int)), some (.inl y)], [.inl y], _)) rfl ?_
  by_cases hs18 : 0 ≤ y ∧ y ≤ 6
  · have hsx := (show y = 0 ∨ y = 1 ∨ y = 2 ∨ y = 3 ∨ y = 4 ∨ y = 5 ∨ y = 6 from by omega)
    rcases hsx with hsw | hsw | hsw | hsw | hsw | hsw | hsw
    · refine b_cast (f' := (18, [some (.inr 0), some (.inl (i : Int)), some (.inl y)], [.inl 0], [(mainSeg imt (tc : Int)), (moSeg 32 k f c n kp l nt w sh (p : Int) t d wa), B, (miscSeg z0 fs ss sp la gr (tl : Int) tp), B4, (auxSeg to re), C6])) (congrArg (fun zz : Int => ((18, [some (.inr 0), some (.inl (i : Int)), some (.inl y)], .inl zz :: [], [(mainSeg imt (tc : Int)), (moSeg 32 k f c n kp l nt w sh (p : Int) t d wa), B, (miscSeg z0 fs ss sp la gr (tl : Int) tp), B4, (auxSeg to re), C6]) : aF)) hsw) ?_
      refine b_swIn (tgt := 60) okX7_person rfl ⟨by decide, by decide⟩ (by decide) (by decide) rfl rfl ?_
      refine aGo okX7_person 3 (f' := (65, [some (.inr 0), some (.inl (i : Int)), some (.inl y)], [.inl (i : Int), .inr 32], _)) rfl ?_
      refine b_vV (as := [.inl (i : Int)]) (rest := []) (k := 32) (.inl (k.getD i 0)) okX7_person rfl lkX7_99 caX3_kindOf (Nat.le_of_ble_eq_true rfl) rfl (Nat.le_of_ble_eq_true rfl) rfl rfl rfl (c_kindOf_1 (i := i) (by first | omega | (simp only [List.length_set]; omega)) (by omega)) ?_
      exact b_ret (v := (some (.inl (k.getD i 0)))) ⟨rfl, Or.inl rfl⟩ ⟨congrArg (fun q : Int => (some (.inl q) : Option aV)) (by rw [hsw]; exact rfl), by exact cSt_of hp6 hd9 hax (hm) hB (hms) (hI) (hi01)⟩ rfl
    · refine b_cast (f' := (18, [some (.inr 0), some (.inl (i : Int)), some (.inl y)], [.inl 1], [(mainSeg imt (tc : Int)), (moSeg 32 k f c n kp l nt w sh (p : Int) t d wa), B, (miscSeg z0 fs ss sp la gr (tl : Int) tp), B4, (auxSeg to re), C6])) (congrArg (fun zz : Int => ((18, [some (.inr 0), some (.inl (i : Int)), some (.inl y)], .inl zz :: [], [(mainSeg imt (tc : Int)), (moSeg 32 k f c n kp l nt w sh (p : Int) t d wa), B, (miscSeg z0 fs ss sp la gr (tl : Int) tp), B4, (auxSeg to re), C6]) : aF)) hsw) ?_
      refine b_swIn (tgt := 69) okX7_person rfl ⟨by decide, by decide⟩ (by decide) (by decide) rfl rfl ?_
      refine aGo okX7_person 3 (f' := (74, [some (.inr 0), some (.inl (i : Int)), some (.inl y)], [.inl (i : Int), .inr 32], _)) rfl ?_
      refine b_vV (as := [.inl (i : Int)]) (rest := []) (k := 32) (.inl (f.getD i 0)) okX7_person rfl lkX7_102 caX3_figureOf (Nat.le_of_ble_eq_true rfl) rfl (Nat.le_of_ble_eq_true rfl) rfl rfl rfl (c_figureOf_1 (i := i) (by first | omega | (simp only [List.length_set]; omega)) (by omega)) ?_
      exact b_ret (v := (some (.inl (f.getD i 0)))) ⟨rfl, Or.inl rfl⟩ ⟨congrArg (fun q : Int => (some (.inl q) : Option aV)) (by rw [hsw]; exact rfl), by exact cSt_of hp6 hd9 hax (hm) hB (hms) (hI) (hi01)⟩ rfl
    · refine b_cast (f' := (18, [some (.inr 0), some (.inl (i : Int)), some (.inl y)], [.inl 2], [(mainSeg imt (tc : Int)), (moSeg 32 k f c n kp l nt w sh (p : Int) t d wa), B, (miscSeg z0 fs ss sp la gr (tl : Int) tp), B4, (auxSeg to re), C6])) (congrArg (fun zz : Int => ((18, [some (.inr 0), some (.inl (i : Int)), some (.inl y)], .inl zz :: [], [(mainSeg imt (tc : Int)), (moSeg 32 k f c n kp l nt w sh (p : Int) t d wa), B, (miscSeg z0 fs ss sp la gr (tl : Int) tp), B4, (auxSeg to re), C6]) : aF)) hsw) ?_
      refine b_swIn (tgt := 78) okX7_person rfl ⟨by decide, by decide⟩ (by decide) (by decide) rfl rfl ?_
      refine aGo okX7_person 3 (f' := (83, [some (.inr 0), some (.inl (i : Int)), some (.inl y)], [.inl (i : Int), .inr 32], _)) rfl ?_
      refine b_vV (as := [.inl (i : Int)]) (rest := []) (k := 32) (.inl (c.getD i 0)) okX7_person rfl lkX7_105 caX3_cellOf (Nat.le_of_ble_eq_true rfl) rfl (Nat.le_of_ble_eq_true rfl) rfl rfl rfl (c_cellOf_1 (i := i) (by first | omega | (simp only [List.length_set]; omega)) (by omega)) ?_
      exact b_ret (v := (some (.inl (c.getD i 0)))) ⟨rfl, Or.inl rfl⟩ ⟨congrArg (fun q : Int => (some (.inl q) : Option aV)) (by rw [hsw]; exact rfl), by exact cSt_of hp6 hd9 hax (hm) hB (hms) (hI) (hi01)⟩ rfl
    · refine b_cast (f' := (18, [some (.inr 0), some (.inl (i : Int)), some (.inl y)], [.inl 3], [(mainSeg imt (tc : Int)), (moSeg 32 k f c n kp l nt w sh (p : Int) t d wa), B, (miscSeg z0 fs ss sp la gr (tl : Int) tp), B4, (auxSeg to re), C6])) (congrArg (fun zz : Int => ((18, [some (.inr 0), some (.inl (i : Int)), some (.inl y)], .inl zz :: [], [(mainSeg imt (tc : Int)), (moSeg 32 k f c n kp l nt w sh (p : Int) t d wa), B, (miscSeg z0 fs ss sp la gr (tl : Int) tp), B4, (auxSeg to re), C6]) : aF)) hsw) ?_
      refine b_swIn (tgt := 87) okX7_person rfl ⟨by decide, by decide⟩ (by decide) (by decide) rfl rfl ?_
      refine aGo okX7_person 3 (f' := (92, [some (.inr 0), some (.inl (i : Int)), some (.inl y)], [.inl (i : Int), .inr 32], _)) rfl ?_
      refine b_vV (as := [.inl (i : Int)]) (rest := []) (k := 32) (.inl (n.getD i 0)) okX7_person rfl lkX7_108 caX3_needOf (Nat.le_of_ble_eq_true rfl) rfl (Nat.le_of_ble_eq_true rfl) rfl rfl rfl (c_needOf_1 (i := i) (by first | omega | (simp only [List.length_set]; omega)) (by omega)) ?_
      exact b_ret (v := (some (.inl (n.getD i 0)))) ⟨rfl, Or.inl rfl⟩ ⟨congrArg (fun q : Int => (some (.inl q) : Option aV)) (by rw [hsw]; exact rfl), by exact cSt_of hp6 hd9 hax (hm) hB (hms) (hI) (hi01)⟩ rfl
    · refine b_cast (f' := (18, [some (.inr 0), some (.inl (i : Int)), some (.inl y)], [.inl 4], [(mainSeg imt (tc : Int)), (moSeg 32 k f c n kp l nt w sh (p : Int) t d wa), B, (miscSeg z0 fs ss sp la gr (tl : Int) tp), B4, (auxSeg to re), C6])) (congrArg (fun zz : Int => ((18, [some (.inr 0), some (.inl (i : Int)), some (.inl y)], .inl zz :: [], [(mainSeg imt (tc : Int)), (moSeg 32 k f c n kp l nt w sh (p : Int) t d wa), B, (miscSeg z0 fs ss sp la gr (tl : Int) tp), B4, (auxSeg to re), C6]) : aF)) hsw) ?_
      refine b_swIn (tgt := 96) okX7_person rfl ⟨by decide, by decide⟩ (by decide) (by decide) rfl rfl ?_
      refine aGo okX7_person 3 (f' := (101, [some (.inr 0), some (.inl (i : Int)), some (.inl y)], [.inl (i : Int), .inr 32], _)) rfl ?_
      refine b_vV (as := [.inl (i : Int)]) (rest := []) (k := 32) (.inl (kp.getD i 0)) okX7_person rfl lkX7_111 caX3_keptOf (Nat.le_of_ble_eq_true rfl) rfl (Nat.le_of_ble_eq_true rfl) rfl rfl rfl (c_keptOf_1 (i := i) (by first | omega | (simp only [List.length_set]; omega)) (by omega)) ?_
      exact b_ret (v := (some (.inl (kp.getD i 0)))) ⟨rfl, Or.inl rfl⟩ ⟨congrArg (fun q : Int => (some (.inl q) : Option aV)) (by rw [hsw]; exact rfl), by exact cSt_of hp6 hd9 hax (hm) hB (hms) (hI) (hi01)⟩ rfl
    · refine b_cast (f' := (18, [some (.inr 0), some (.inl (i : Int)), some (.inl y)], [.inl 5], [(mainSeg imt (tc : Int)), (moSeg 32 k f c n kp l nt w sh (p : Int) t d wa), B, (miscSeg z0 fs ss sp la gr (tl : Int) tp), B4, (auxSeg to re), C6])) (congrArg (fun zz : Int => ((18, [some (.inr 0), some (.inl (i : Int)), some (.inl y)], .inl zz :: [], [(mainSeg imt (tc : Int)), (moSeg 32 k f c n kp l nt w sh (p : Int) t d wa), B, (miscSeg z0 fs ss sp la gr (tl : Int) tp), B4, (auxSeg to re), C6]) : aF)) hsw) ?_
      refine b_swIn (tgt := 105) okX7_person rfl ⟨by decide, by decide⟩ (by decide) (by decide) rfl rfl ?_
      refine aGo okX7_person 3 (f' := (110, [some (.inr 0), some (.inl (i : Int)), some (.inl y)], [.inl (i : Int), .inr 32], _)) rfl ?_
      refine b_vV (as := [.inl (i : Int)]) (rest := []) (k := 32) (.inl (w.getD i 0)) okX7_person rfl lkX7_114 caX3_weightOf (Nat.le_of_ble_eq_true rfl) rfl (Nat.le_of_ble_eq_true rfl) rfl rfl rfl (c_weightOf_1 (i := i) (by first | omega | (simp only [List.length_set]; omega)) (by omega)) ?_
      exact b_ret (v := (some (.inl (w.getD i 0)))) ⟨rfl, Or.inl rfl⟩ ⟨congrArg (fun q : Int => (some (.inl q) : Option aV)) (by rw [hsw]; exact zw i hi), by exact cSt_of hp6 hd9 hax (hm) hB (hms) (hI) (hi01)⟩ rfl
    · refine b_cast (f' := (18, [some (.inr 0), some (.inl (i : Int)), some (.inl y)], [.inl 6], [(mainSeg imt (tc : Int)), (moSeg 32 k f c n kp l nt w sh (p : Int) t d wa), B, (miscSeg z0 fs ss sp la gr (tl : Int) tp), B4, (auxSeg to re), C6])) (congrArg (fun zz : Int => ((18, [some (.inr 0), some (.inl (i : Int)), some (.inl y)], .inl zz :: [], [(mainSeg imt (tc : Int)), (moSeg 32 k f c n kp l nt w sh (p : Int) t d wa), B, (miscSeg z0 fs ss sp la gr (tl : Int) tp), B4, (auxSeg to re), C6]) : aF)) hsw) ?_
      refine b_swIn (tgt := 114) okX7_person rfl ⟨by decide, by decide⟩ (by decide) (by decide) rfl rfl ?_
      refine aGo okX7_person 3 (f' := (119, [some (.inr 0), some (.inl (i : Int)), some (.inl y)], [.inl (i : Int), .inr 32], _)) rfl ?_
      refine b_vV (as := [.inl (i : Int)]) (rest := []) (k := 32) (.inl (sh.getD i 0)) okX7_person rfl lkX7_117 caX3_shareOf (Nat.le_of_ble_eq_true rfl) rfl (Nat.le_of_ble_eq_true rfl) rfl rfl rfl (c_shareOf_1 (i := i) (by first | omega | (simp only [List.length_set]; omega)) (by omega)) ?_
      exact b_ret (v := (some (.inl (sh.getD i 0)))) ⟨rfl, Or.inl rfl⟩ ⟨congrArg (fun q : Int => (some (.inl q) : Option aV)) (by rw [hsw]; exact zsh i hi), by exact cSt_of hp6 hd9 hax (hm) hB (hms) (hI) (hi01)⟩ rfl
  · refine b_swOut (tgt := 123) okX7_person rfl ⟨by omega, by omega⟩ (by omega) rfl ?_
    refine aGo okX7_person 2 (f' := (126, [some (.inr 0), some (.inl (i : Int)), some (.inl y)], [.inl (-2), .inr 0], _)) rfl ?_
    exfalso; omega
set_option maxRecDepth 100000 in
set_option maxHeartbeats 4000000 in
theorem k_owns {imt : Int} {tc : Nat} {k f c n kp l : List Int} {p : Nat} {t d : Int} {to re : List Int} {tl : Nat} {tp : List Int} {I : moT} {C6 : List (Option aE)} {h : aH} {N : Nat} (hS : cSt imt tc k f c n kp l p t d to re tl tp I C6 h) {i : Nat} (hi : i < p) : aEv mX7_owns 3 0 0 N [.inr 0, .inl (i : Int)] h (fun rv h2 => rv = some (.inl (hasM p k f c l t i)) ∧ cSt imt tc k f c n kp l p t d to re tl tp I C6 h2) := by
  obtain ⟨hp6, hd9, hax, nt, w, sh, wa, B, z0, fs, ss, sp, la, gr, B4, hm, hB, hms, hI, hi01, rfl⟩ := hS
  obtain ⟨htp, rtp, htl9, hto, rto, htc, hre⟩ := id hax
  obtain ⟨hfs, hss, hsp, hla, hgr⟩ := id hms
  obtain ⟨⟨hp7, hk, hf, hc, hn, hkp, hl, rk, rf, rc, rn, rkp, rl, ht0, ht1, hd0, hd1⟩, ⟨hnt, znt⟩, ⟨hw, zw, zwa⟩, ⟨hsh, zsh⟩⟩ := id hm
  refine aEv_of okX7_owns caX7_owns (Nat.le_of_ble_eq_true rfl) ?_
  refine aGo okX7_owns 3 (f' := (5, [some (.inr 0), some (.inl (i : Int))], [.inl (i : Int), .inr 32], _)) rfl ?_
  refine b_vV (as := [.inl (i : Int)]) (rest := []) (k := 32) (.inl 1) okX7_owns rfl lkX7_95 caX3_isThere (Nat.le_of_ble_eq_true rfl) rfl (Nat.le_of_ble_eq_true rfl) rfl rfl rfl (c_isThere_1_t (x := (i : Int)) hp7 (by omega) (by omega)) ?_
  refine b0_ne (tgt := 17) okX7_owns rfl rfl ⟨by omega, by omega⟩ (fun h8 => ?_) (fun h8 => absurd h8 (by omega))
  refine aGo okX7_owns 3 (f' := (22, [some (.inr 0), some (.inl (i : Int))], [.inl (i : Int), .inr 32], _)) rfl ?_
  refine b_vV (as := [.inl (i : Int)]) (rest := []) (k := 32) (.inl ((sh.getD i 0) - (nt.getD i 0))) okX7_owns rfl lkX7_123 caX3_hasOf (Nat.le_of_ble_eq_true rfl) rfl (Nat.le_of_ble_eq_true rfl) rfl rfl rfl (c_hasOf_1 (i := i) (by first | omega | (simp only [List.length_set]; omega)) (by first | omega | (simp only [List.length_set]; omega)) (by omega)) ?_
  exact b_ret (v := (some (.inl ((sh.getD i 0) - (nt.getD i 0))))) ⟨rfl, Or.inl rfl⟩ ⟨congrArg (fun q : Int => (some (.inl q) : Option aV)) (mOK_has hm hi), by exact cSt_of hp6 hd9 hax (hm) hB (hms) (hI) (hi01)⟩ rfl
set_option maxRecDepth 100000 in
set_option maxHeartbeats 4000000 in
theorem k_loan {imt : Int} {tc : Nat} {k f c n kp l : List Int} {p : Nat} {t d : Int} {to re : List Int} {tl : Nat} {tp : List Int} {I : moT} {C6 : List (Option aE)} {h : aH} {N : Nat} (hS : cSt imt tc k f c n kp l p t d to re tl tp I C6 h) {i j : Nat} (hi : i < p) (hj : j < p) (hij : i ≠ j) : aEv mX7_loan 2 0 0 N [.inr 0, .inl (i : Int), .inl (j : Int)] h (fun rv h2 => rv = some (.inl (l.getD (7 * i + j) 0)) ∧ cSt imt tc k f c n kp l p t d to re tl tp I C6 h2) := by
  obtain ⟨hp6, hd9, hax, nt, w, sh, wa, B, z0, fs, ss, sp, la, gr, B4, hm, hB, hms, hI, hi01, rfl⟩ := hS
  obtain ⟨htp, rtp, htl9, hto, rto, htc, hre⟩ := id hax
  obtain ⟨hfs, hss, hsp, hla, hgr⟩ := id hms
  obtain ⟨⟨hp7, hk, hf, hc, hn, hkp, hl, rk, rf, rc, rn, rkp, rl, ht0, ht1, hd0, hd1⟩, ⟨hnt, znt⟩, ⟨hw, zw, zwa⟩, ⟨hsh, zsh⟩⟩ := id hm
  refine aEv_of okX7_loan caX7_loan (Nat.le_of_ble_eq_true rfl) ?_
  refine aGo okX7_loan 4 (f' := (6, [some (.inr 0), some (.inl (i : Int)), some (.inl (j : Int))], [.inl (j : Int), .inl (i : Int), .inr 32], _)) rfl ?_
  refine b_vV (as := [.inl (i : Int), .inl (j : Int)]) (rest := []) (k := 32) (.inl 1) okX7_loan rfl lkX7_126 caX3_areTwo (Nat.le_of_ble_eq_true rfl) rfl (Nat.le_of_ble_eq_true rfl) rfl rfl rfl (c_areTwo_1_t hp7 ⟨by omega, by omega⟩ ⟨by omega, by omega⟩ (by omega)) ?_
  refine b0_ne (tgt := 18) okX7_loan rfl rfl ⟨by omega, by omega⟩ (fun h9 => ?_) (fun h9 => absurd h9 (by omega))
  refine aGo okX7_loan 4 (f' := (24, [some (.inr 0), some (.inl (i : Int)), some (.inl (j : Int))], [.inl (j : Int), .inl (i : Int), .inr 32], _)) rfl ?_
  refine b_vV (as := [.inl (i : Int), .inl (j : Int)]) (rest := []) (k := 32) (.inl (l.getD (7 * i + j) 0)) okX7_loan rfl lkX7_130 caX3_lentBy (Nat.le_of_ble_eq_true rfl) rfl (Nat.le_of_ble_eq_true rfl) rfl rfl rfl (c_lentBy_1 (i := i) (j := j) (by first | omega | (simp only [List.length_set]; omega)) (by omega) (by omega)) ?_
  exact b_ret (v := (some (.inl (l.getD (7 * i + j) 0)))) ⟨rfl, Or.inl rfl⟩ ⟨congrArg (fun q : Int => (some (.inl q) : Option aV)) (rfl), by exact cSt_of hp6 hd9 hax (hm) hB (hms) (hI) (hi01)⟩ rfl
set_option maxRecDepth 100000 in
set_option maxHeartbeats 4000000 in
theorem k_go {imt : Int} {tc : Nat} {k f c n kp l : List Int} {p : Nat} {t d : Int} {to re : List Int} {tl : Nat} {tp : List Int} {I : moT} {C6 : List (Option aE)} {h : aH} {N : Nat} (hS : cSt imt tc k f c n kp l p t d to re tl tp I C6 h) {i : Nat} {y : Int} (hi : i < p) (hy : 0 ≤ y ∧ y ≤ 35) : aEv mX7_go 5 0 0 N [.inr 0, .inl (i : Int), .inl y] h (fun rv h2 => rv = some (.inl (c.getD i 0)) ∧ cSt imt tc k f (c.set i y) n kp l p t d to re tl tp I C6 h2) := by
  obtain ⟨hp6, hd9, hax, nt, w, sh, wa, B, z0, fs, ss, sp, la, gr, B4, hm, hB, hms, hI, hi01, rfl⟩ := hS
  obtain ⟨htp, rtp, htl9, hto, rto, htc, hre⟩ := id hax
  obtain ⟨hfs, hss, hsp, hla, hgr⟩ := id hms
  obtain ⟨⟨hp7, hk, hf, hc, hn, hkp, hl, rk, rf, rc, rn, rkp, rl, ht0, ht1, hd0, hd1⟩, ⟨hnt, znt⟩, ⟨hw, zw, zwa⟩, ⟨hsh, zsh⟩⟩ := id hm
  refine aEv_of okX7_go caX7_go (Nat.le_of_ble_eq_true rfl) ?_
  refine aGo okX7_go 3 (f' := (5, [some (.inr 0), some (.inl (i : Int)), some (.inl y), none], [.inl (i : Int), .inr 32], _)) rfl ?_
  refine b_vV (as := [.inl (i : Int)]) (rest := []) (k := 32) (.inl 1) okX7_go rfl lkX7_95 caX3_isThere (Nat.le_of_ble_eq_true rfl) rfl (Nat.le_of_ble_eq_true rfl) rfl rfl rfl (c_isThere_1_t (x := (i : Int)) hp7 (by omega) (by omega)) ?_
  refine b0_eq (tgt := 18) okX7_go rfl rfl ⟨by omega, by omega⟩ (fun h8 => absurd h8 (by omega)) (fun h8 => ?_)
  refine aGo okX7_go 1 (f' := (12, [some (.inr 0), some (.inl (i : Int)), some (.inl y), none], [.inl y], _)) rfl ?_
  refine b_vS (as := [.inl y]) (rest := []) (.inl 1) okX7_go rfl lkX7_134 caX7_isCell (Nat.le_of_ble_eq_true rfl) rfl (Nat.le_of_ble_eq_true rfl) rfl (c_isCell_t ⟨by omega, by omega⟩) ?_
  refine b0_ne (tgt := 24) okX7_go rfl rfl ⟨by omega, by omega⟩ (fun h15 => ?_) (fun h15 => absurd h15 (by omega))
  refine aGo okX7_go 3 (f' := (29, [some (.inr 0), some (.inl (i : Int)), some (.inl y), none], [.inl (i : Int), .inr 32], _)) rfl ?_
  refine b_vV (as := [.inl (i : Int)]) (rest := []) (k := 32) (.inl (c.getD i 0)) okX7_go rfl lkX7_105 caX3_cellOf (Nat.le_of_ble_eq_true rfl) rfl (Nat.le_of_ble_eq_true rfl) rfl rfl rfl (c_cellOf_1 (i := i) (by first | omega | (simp only [List.length_set]; omega)) (by omega)) ?_
  refine aGo okX7_go 5 (f' := (39, [some (.inr 0), some (.inl (i : Int)), some (.inl y), some (.inl (c.getD i 0))], [.inl y, .inl (i : Int), .inr 32], _)) rfl ?_
  refine b_vE (as := [.inl (i : Int), .inl y]) (rest := []) (k := 32) okX7_go rfl lkX7_137 caX3_place (Nat.le_of_ble_eq_true rfl) rfl (Nat.le_of_ble_eq_true rfl) rfl rfl rfl (c_place_1 (mOK_wH hm) (i := i) (by omega) (v := y) (by omega) (by omega)) ?_
  rintro _ _ ⟨rfl, w2, sh2, zw2, zs2, rfl⟩
  refine aGo okX7_go 1 (f' := (43, [some (.inr 0), some (.inl (i : Int)), some (.inl y), some (.inl (c.getD i 0))], [.inl (c.getD i 0)], _)) rfl ?_
  exact b_ret (v := (some (.inl (c.getD i 0)))) ⟨rfl, Or.inl rfl⟩ ⟨congrArg (fun q : Int => (some (.inl q) : Option aV)) (rfl), by exact cSt_of hp6 hd9 hax (mOK_place hm (by omega) (by omega) zw2 zs2) hB (hms) (hI) (hi01)⟩ rfl
set_option maxRecDepth 100000 in
set_option maxHeartbeats 4000000 in
theorem k_lend {imt : Int} {tc : Nat} {k f c n kp l : List Int} {p : Nat} {t d : Int} {to re : List Int} {tl : Nat} {tp : List Int} {I : moT} {C6 : List (Option aE)} {h : aH} {N : Nat} (hS : cSt imt tc k f c n kp l p t d to re tl tp I C6 h) {i j : Nat} {z : Int} (hi : i < p) (hj : j < p) (hij : i ≠ j) (hz : 0 ≤ z ∧ z ≤ 99) : aEv mX7_lend 4 0 0 N [.inr 0, .inl (i : Int), .inl (j : Int), .inl z] h (fun rv h2 => rv = some (.inl (l.getD (7 * i + j) 0)) ∧ cSt imt tc k f c n kp (l.set (7 * i + j) z) p t d to re tl tp I C6 h2) := by
  obtain ⟨hp6, hd9, hax, nt, w, sh, wa, B, z0, fs, ss, sp, la, gr, B4, hm, hB, hms, hI, hi01, rfl⟩ := hS
  obtain ⟨htp, rtp, htl9, hto, rto, htc, hre⟩ := id hax
  obtain ⟨hfs, hss, hsp, hla, hgr⟩ := id hms
  obtain ⟨⟨hp7, hk, hf, hc, hn, hkp, hl, rk, rf, rc, rn, rkp, rl, ht0, ht1, hd0, hd1⟩, ⟨hnt, znt⟩, ⟨hw, zw, zwa⟩, ⟨hsh, zsh⟩⟩ := id hm
  refine aEv_of okX7_lend caX7_lend (Nat.le_of_ble_eq_true rfl) ?_
  refine aGo okX7_lend 4 (f' := (6, [some (.inr 0), some (.inl (i : Int)), some (.inl (j : Int)), some (.inl z), none], [.inl (j : Int), .inl (i : Int), .inr 32], _)) rfl ?_
  refine b_vV (as := [.inl (i : Int), .inl (j : Int)]) (rest := []) (k := 32) (.inl 1) okX7_lend rfl lkX7_126 caX3_areTwo (Nat.le_of_ble_eq_true rfl) rfl (Nat.le_of_ble_eq_true rfl) rfl rfl rfl (c_areTwo_1_t hp7 ⟨by omega, by omega⟩ ⟨by omega, by omega⟩ (by omega)) ?_
  refine b0_ne (tgt := 18) okX7_lend rfl rfl ⟨by omega, by omega⟩ (fun h9 => ?_) (fun h9 => absurd h9 (by omega))
  refine aGo okX7_lend 1 (f' := (19, [some (.inr 0), some (.inl (i : Int)), some (.inl (j : Int)), some (.inl z), none], [.inl z], _)) rfl ?_
  refine b0_ge (tgt := 29) okX7_lend rfl rfl ⟨by omega, by omega⟩ (fun h19 => ?_) (fun h19 => ?_)
  · refine aGo okX7_lend 2 (f' := (32, [some (.inr 0), some (.inl (i : Int)), some (.inl (j : Int)), some (.inl z), none], [.inl 99, .inl z], _)) rfl ?_
    refine b_le (tgt := 42) okX7_lend rfl rfl ⟨by omega, by omega⟩ ⟨by omega, by omega⟩ (fun h32 => ?_) (fun h32 => ?_)
    · refine aGo okX7_lend 4 (f' := (48, [some (.inr 0), some (.inl (i : Int)), some (.inl (j : Int)), some (.inl z), none], [.inl (j : Int), .inl (i : Int), .inr 32], _)) rfl ?_
      refine b_vV (as := [.inl (i : Int), .inl (j : Int)]) (rest := []) (k := 32) (.inl (l.getD (7 * i + j) 0)) okX7_lend rfl lkX7_130 caX3_lentBy (Nat.le_of_ble_eq_true rfl) rfl (Nat.le_of_ble_eq_true rfl) rfl rfl rfl (c_lentBy_1 (i := i) (j := j) (by first | omega | (simp only [List.length_set]; omega)) (by omega) (by omega)) ?_
      refine aGo okX7_lend 6 (f' := (60, [some (.inr 0), some (.inl (i : Int)), some (.inl (j : Int)), some (.inl z), some (.inl (l.getD (7 * i + j) 0))], [.inl z, .inl (j : Int), .inl (i : Int), .inr 32], _)) rfl ?_
      refine b_vE (as := [.inl (i : Int), .inl (j : Int), .inl z]) (rest := []) (k := 32) okX7_lend rfl lkX7_141 caX3_setLent (Nat.le_of_ble_eq_true rfl) rfl (Nat.le_of_ble_eq_true rfl) rfl rfl rfl (c_setLent_1 hp7 hnt hl (i := i) (j := j) (by omega) (by omega) z) ?_
      rintro _ _ ⟨rfl, nt2, zn2, rfl⟩
      refine aGo okX7_lend 1 (f' := (65, [some (.inr 0), some (.inl (i : Int)), some (.inl (j : Int)), some (.inl z), some (.inl (l.getD (7 * i + j) 0))], [.inl (l.getD (7 * i + j) 0)], _)) rfl ?_
      exact b_ret (v := (some (.inl (l.getD (7 * i + j) 0)))) ⟨rfl, Or.inl rfl⟩ ⟨congrArg (fun q : Int => (some (.inl q) : Option aV)) (rfl), by exact cSt_of hp6 hd9 hax (mOK_lent hm (by omega) (by omega) zn2) hB (hms) (hI) (hi01)⟩ rfl
    · refine aGo okX7_lend 2 (f' := (38, [some (.inr 0), some (.inl (i : Int)), some (.inl (j : Int)), some (.inl z), none], [.inl (-6), .inr 0], _)) rfl ?_
      exfalso; omega
  · refine aGo okX7_lend 2 (f' := (25, [some (.inr 0), some (.inl (i : Int)), some (.inl (j : Int)), some (.inl z), none], [.inl (-4), .inr 0], _)) rfl ?_
    exfalso; omega
set_option maxRecDepth 100000 in
set_option maxHeartbeats 4000000 in
theorem k_keep {imt : Int} {tc : Nat} {k f c n kp l : List Int} {p : Nat} {t d : Int} {to re : List Int} {tl : Nat} {tp : List Int} {I : moT} {C6 : List (Option aE)} {h : aH} {N : Nat} (hS : cSt imt tc k f c n kp l p t d to re tl tp I C6 h) {i : Nat} {y : Int} (hi : i < p) (hy : 0 ≤ y ∧ y ≤ 9999) : aEv mX7_keep 2 0 0 N [.inr 0, .inl (i : Int), .inl y] h (fun rv h2 => rv = some (.inl (kp.getD i 0)) ∧ cSt imt tc k f c n (kp.set i y) l p t d to re tl tp I C6 h2) := by
  obtain ⟨hp6, hd9, hax, nt, w, sh, wa, B, z0, fs, ss, sp, la, gr, B4, hm, hB, hms, hI, hi01, rfl⟩ := hS
  obtain ⟨htp, rtp, htl9, hto, rto, htc, hre⟩ := id hax
  obtain ⟨hfs, hss, hsp, hla, hgr⟩ := id hms
  obtain ⟨⟨hp7, hk, hf, hc, hn, hkp, hl, rk, rf, rc, rn, rkp, rl, ht0, ht1, hd0, hd1⟩, ⟨hnt, znt⟩, ⟨hw, zw, zwa⟩, ⟨hsh, zsh⟩⟩ := id hm
  refine aEv_of okX7_keep caX7_keep (Nat.le_of_ble_eq_true rfl) ?_
  refine aGo okX7_keep 3 (f' := (5, [some (.inr 0), some (.inl (i : Int)), some (.inl y), none], [.inl (i : Int), .inr 32], _)) rfl ?_
  refine b_vV (as := [.inl (i : Int)]) (rest := []) (k := 32) (.inl 1) okX7_keep rfl lkX7_95 caX3_isThere (Nat.le_of_ble_eq_true rfl) rfl (Nat.le_of_ble_eq_true rfl) rfl rfl rfl (c_isThere_1_t (x := (i : Int)) hp7 (by omega) (by omega)) ?_
  refine b0_ne (tgt := 17) okX7_keep rfl rfl ⟨by omega, by omega⟩ (fun h8 => ?_) (fun h8 => absurd h8 (by omega))
  refine aGo okX7_keep 1 (f' := (18, [some (.inr 0), some (.inl (i : Int)), some (.inl y), none], [.inl y], _)) rfl ?_
  refine b0_ge (tgt := 28) okX7_keep rfl rfl ⟨by omega, by omega⟩ (fun h18 => ?_) (fun h18 => ?_)
  · refine aGo okX7_keep 2 (f' := (32, [some (.inr 0), some (.inl (i : Int)), some (.inl y), none], [.inl 9999, .inl y], _)) rfl ?_
    refine b_le (tgt := 42) okX7_keep rfl rfl ⟨by omega, by omega⟩ ⟨by omega, by omega⟩ (fun h32 => ?_) (fun h32 => ?_)
    · refine aGo okX7_keep 3 (f' := (47, [some (.inr 0), some (.inl (i : Int)), some (.inl y), none], [.inl (i : Int), .inr 32], _)) rfl ?_
      refine b_vV (as := [.inl (i : Int)]) (rest := []) (k := 32) (.inl (kp.getD i 0)) okX7_keep rfl lkX7_111 caX3_keptOf (Nat.le_of_ble_eq_true rfl) rfl (Nat.le_of_ble_eq_true rfl) rfl rfl rfl (c_keptOf_1 (i := i) (by first | omega | (simp only [List.length_set]; omega)) (by omega)) ?_
      refine aGo okX7_keep 5 (f' := (57, [some (.inr 0), some (.inl (i : Int)), some (.inl y), some (.inl (kp.getD i 0))], [.inl y, .inl (i : Int), .inr 32], _)) rfl ?_
      refine b_vN (as := [.inl (i : Int), .inl y]) (rest := []) (k := 32) okX7_keep rfl lkX7_145 caX3_setKept (Nat.le_of_ble_eq_true rfl) rfl (Nat.le_of_ble_eq_true rfl) rfl rfl rfl (c_setKept_1 hkp (i := i) (by omega) y) ?_
      refine b_cast (f' := (60, [some (.inr 0), some (.inl (i : Int)), some (.inl y), some (.inl (kp.getD i 0))], [], [(mainSeg imt (tc : Int)), (moSeg 32 k f c n (kp.set i y) l nt w sh (p : Int) t d wa), B, (miscSeg z0 fs ss sp la gr (tl : Int) tp), B4, (auxSeg to re), C6])) rfl ?_
      refine aGo okX7_keep 1 (f' := (61, [some (.inr 0), some (.inl (i : Int)), some (.inl y), some (.inl (kp.getD i 0))], [.inl (kp.getD i 0)], _)) rfl ?_
      exact b_ret (v := (some (.inl (kp.getD i 0)))) ⟨rfl, Or.inl rfl⟩ ⟨congrArg (fun q : Int => (some (.inl q) : Option aV)) (rfl), by exact cSt_of hp6 hd9 hax (mOK_kept hm (by omega) (by omega)) hB (hms) (hI) (hi01)⟩ rfl
    · refine aGo okX7_keep 2 (f' := (38, [some (.inr 0), some (.inl (i : Int)), some (.inl y), none], [.inl (-6), .inr 0], _)) rfl ?_
      exfalso; omega
  · refine aGo okX7_keep 2 (f' := (24, [some (.inr 0), some (.inl (i : Int)), some (.inl y), none], [.inl (-4), .inr 0], _)) rfl ?_
    exfalso; omega
set_option maxRecDepth 100000 in
set_option maxHeartbeats 4000000 in
theorem k_need {imt : Int} {tc : Nat} {k f c n kp l : List Int} {p : Nat} {t d : Int} {to re : List Int} {tl : Nat} {tp : List Int} {I : moT} {C6 : List (Option aE)} {h : aH} {N : Nat} (hS : cSt imt tc k f c n kp l p t d to re tl tp I C6 h) {i : Nat} {y : Int} (hi : i < p) (hy : 0 ≤ y ∧ y ≤ 99) : aEv mX7_need 2 0 0 N [.inr 0, .inl (i : Int), .inl y] h (fun rv h2 => rv = some (.inl (n.getD i 0)) ∧ cSt imt tc k f c (n.set i y) kp l p t d to re tl tp I C6 h2) := by
  obtain ⟨hp6, hd9, hax, nt, w, sh, wa, B, z0, fs, ss, sp, la, gr, B4, hm, hB, hms, hI, hi01, rfl⟩ := hS
  obtain ⟨htp, rtp, htl9, hto, rto, htc, hre⟩ := id hax
  obtain ⟨hfs, hss, hsp, hla, hgr⟩ := id hms
  obtain ⟨⟨hp7, hk, hf, hc, hn, hkp, hl, rk, rf, rc, rn, rkp, rl, ht0, ht1, hd0, hd1⟩, ⟨hnt, znt⟩, ⟨hw, zw, zwa⟩, ⟨hsh, zsh⟩⟩ := id hm
  refine aEv_of okX7_need caX7_need (Nat.le_of_ble_eq_true rfl) ?_
  refine aGo okX7_need 3 (f' := (5, [some (.inr 0), some (.inl (i : Int)), some (.inl y), none], [.inl (i : Int), .inr 32], _)) rfl ?_
  refine b_vV (as := [.inl (i : Int)]) (rest := []) (k := 32) (.inl 1) okX7_need rfl lkX7_95 caX3_isThere (Nat.le_of_ble_eq_true rfl) rfl (Nat.le_of_ble_eq_true rfl) rfl rfl rfl (c_isThere_1_t (x := (i : Int)) hp7 (by omega) (by omega)) ?_
  refine b0_ne (tgt := 17) okX7_need rfl rfl ⟨by omega, by omega⟩ (fun h8 => ?_) (fun h8 => absurd h8 (by omega))
  refine aGo okX7_need 1 (f' := (18, [some (.inr 0), some (.inl (i : Int)), some (.inl y), none], [.inl y], _)) rfl ?_
  refine b0_ge (tgt := 28) okX7_need rfl rfl ⟨by omega, by omega⟩ (fun h18 => ?_) (fun h18 => ?_)
  · refine aGo okX7_need 2 (f' := (31, [some (.inr 0), some (.inl (i : Int)), some (.inl y), none], [.inl 99, .inl y], _)) rfl ?_
    refine b_le (tgt := 41) okX7_need rfl rfl ⟨by omega, by omega⟩ ⟨by omega, by omega⟩ (fun h31 => ?_) (fun h31 => ?_)
    · refine aGo okX7_need 3 (f' := (46, [some (.inr 0), some (.inl (i : Int)), some (.inl y), none], [.inl (i : Int), .inr 32], _)) rfl ?_
      refine b_vV (as := [.inl (i : Int)]) (rest := []) (k := 32) (.inl (n.getD i 0)) okX7_need rfl lkX7_108 caX3_needOf (Nat.le_of_ble_eq_true rfl) rfl (Nat.le_of_ble_eq_true rfl) rfl rfl rfl (c_needOf_1 (i := i) (by first | omega | (simp only [List.length_set]; omega)) (by omega)) ?_
      refine aGo okX7_need 5 (f' := (56, [some (.inr 0), some (.inl (i : Int)), some (.inl y), some (.inl (n.getD i 0))], [.inl y, .inl (i : Int), .inr 32], _)) rfl ?_
      refine b_vN (as := [.inl (i : Int), .inl y]) (rest := []) (k := 32) okX7_need rfl lkX7_148 caX3_setNeed (Nat.le_of_ble_eq_true rfl) rfl (Nat.le_of_ble_eq_true rfl) rfl rfl rfl (c_setNeed_1 hn (i := i) (by omega) y) ?_
      refine b_cast (f' := (59, [some (.inr 0), some (.inl (i : Int)), some (.inl y), some (.inl (n.getD i 0))], [], [(mainSeg imt (tc : Int)), (moSeg 32 k f c (n.set i y) kp l nt w sh (p : Int) t d wa), B, (miscSeg z0 fs ss sp la gr (tl : Int) tp), B4, (auxSeg to re), C6])) rfl ?_
      refine aGo okX7_need 1 (f' := (60, [some (.inr 0), some (.inl (i : Int)), some (.inl y), some (.inl (n.getD i 0))], [.inl (n.getD i 0)], _)) rfl ?_
      exact b_ret (v := (some (.inl (n.getD i 0)))) ⟨rfl, Or.inl rfl⟩ ⟨congrArg (fun q : Int => (some (.inl q) : Option aV)) (rfl), by exact cSt_of hp6 hd9 hax (mOK_need hm (by omega) (by omega)) hB (hms) (hI) (hi01)⟩ rfl
    · refine aGo okX7_need 2 (f' := (37, [some (.inr 0), some (.inl (i : Int)), some (.inl y), none], [.inl (-6), .inr 0], _)) rfl ?_
      exfalso; omega
  · refine aGo okX7_need 2 (f' := (24, [some (.inr 0), some (.inl (i : Int)), some (.inl y), none], [.inl (-4), .inr 0], _)) rfl ?_
    exfalso; omega
set_option maxRecDepth 100000 in
set_option maxHeartbeats 4000000 in
theorem k_sum {imt : Int} {tc : Nat} {k f c n kp l : List Int} {p : Nat} {t d : Int} {to re : List Int} {tl : Nat} {tp : List Int} {I : moT} {C6 : List (Option aE)} {h : aH} {N : Nat} (hS : cSt imt tc k f c n kp l p t d to re tl tp I C6 h) {x : Int} (hx : 0 ≤ x ∧ x ≤ 999) : aEv mX7_sum 3 0 0 N [.inr 0, .inl x] h (fun rv h2 => rv = some (.inl (t)) ∧ cSt imt tc k f c n kp l p x d to re tl tp I C6 h2) := by
  obtain ⟨hp6, hd9, hax, nt, w, sh, wa, B, z0, fs, ss, sp, la, gr, B4, hm, hB, hms, hI, hi01, rfl⟩ := hS
  obtain ⟨htp, rtp, htl9, hto, rto, htc, hre⟩ := id hax
  obtain ⟨hfs, hss, hsp, hla, hgr⟩ := id hms
  obtain ⟨⟨hp7, hk, hf, hc, hn, hkp, hl, rk, rf, rc, rn, rkp, rl, ht0, ht1, hd0, hd1⟩, ⟨hnt, znt⟩, ⟨hw, zw, zwa⟩, ⟨hsh, zsh⟩⟩ := id hm
  refine aEv_of okX7_sum caX7_sum (Nat.le_of_ble_eq_true rfl) ?_
  refine aGo okX7_sum 1 (f' := (1, [some (.inr 0), some (.inl x), none], [.inl x], _)) rfl ?_
  refine b0_ge (tgt := 11) okX7_sum rfl rfl ⟨by omega, by omega⟩ (fun h1 => ?_) (fun h1 => ?_)
  · refine aGo okX7_sum 2 (f' := (15, [some (.inr 0), some (.inl x), none], [.inl 999, .inl x], _)) rfl ?_
    refine b_le (tgt := 25) okX7_sum rfl rfl ⟨by omega, by omega⟩ ⟨by omega, by omega⟩ (fun h15 => ?_) (fun h15 => ?_)
    · refine aGo okX7_sum 2 (f' := (29, [some (.inr 0), some (.inl x), none], [.inr 32], _)) rfl ?_
      refine b_vV (as := []) (rest := []) (k := 32) (.inl t) okX7_sum rfl lkX7_151 caX3_total (Nat.le_of_ble_eq_true rfl) rfl (Nat.le_of_ble_eq_true rfl) rfl rfl rfl (c_total_1) ?_
      refine aGo okX7_sum 4 (f' := (38, [some (.inr 0), some (.inl x), some (.inl t)], [.inl x, .inr 32], _)) rfl ?_
      refine b_vE (as := [.inl x]) (rest := []) (k := 32) okX7_sum rfl lkX7_155 caX3_setTotal (Nat.le_of_ble_eq_true rfl) rfl (Nat.le_of_ble_eq_true rfl) rfl rfl rfl (c_setTotal_1 (mOK_wH hm) hm.2.2.1 (v := x) (by omega) (by omega)) ?_
      rintro _ _ ⟨rfl, sh2, zs2, rfl⟩
      refine aGo okX7_sum 1 (f' := (42, [some (.inr 0), some (.inl x), some (.inl t)], [.inl t], _)) rfl ?_
      exact b_ret (v := (some (.inl t))) ⟨rfl, Or.inl rfl⟩ ⟨congrArg (fun q : Int => (some (.inl q) : Option aV)) (rfl), by exact cSt_of hp6 hd9 hax (mOK_total hm (by omega) (by omega) zs2) hB (hms) (hI) (hi01)⟩ rfl
    · refine aGo okX7_sum 2 (f' := (21, [some (.inr 0), some (.inl x), none], [.inl (-6), .inr 0], _)) rfl ?_
      exfalso; omega
  · refine aGo okX7_sum 2 (f' := (7, [some (.inr 0), some (.inl x), none], [.inl (-4), .inr 0], _)) rfl ?_
    exfalso; omega
set_option maxRecDepth 100000 in
set_option maxHeartbeats 4000000 in
theorem k_days {imt : Int} {tc : Nat} {k f c n kp l : List Int} {p : Nat} {t d : Int} {to re : List Int} {tl : Nat} {tp : List Int} {I : moT} {C6 : List (Option aE)} {h : aH} {N : Nat} (hS : cSt imt tc k f c n kp l p t d to re tl tp I C6 h) {m : Nat} (hm0 : 1 ≤ m ∧ m ≤ 60) (hdm : d + (m : Int) ≤ 999) : aEv mX7_days 3 0 0 N [.inr 0, .inl (m : Int)] h (fun rv h2 => rv = some (.inl (cntN p (fun q => sht p (hasM p k f c l t) n kp q (m - 1)))) ∧ cSt imt tc k f c n (dayIt p (hasM p k f c l t) n m kp) l p t (d + (m : Int)) to re tl tp I C6 h2) := by
  obtain ⟨hp6, hd9, hax, nt, w, sh, wa, B, z0, fs, ss, sp, la, gr, B4, hm, hB, hms, hI, hi01, rfl⟩ := hS
  obtain ⟨htp, rtp, htl9, hto, rto, htc, hre⟩ := id hax
  obtain ⟨hfs, hss, hsp, hla, hgr⟩ := id hms
  obtain ⟨⟨hp7, hk, hf, hc, hn, hkp, hl, rk, rf, rc, rn, rkp, rl, ht0, ht1, hd0, hd1⟩, ⟨hnt, znt⟩, ⟨hw, zw, zwa⟩, ⟨hsh, zsh⟩⟩ := id hm
  refine aEv_of okX7_days caX7_days (Nat.le_of_ble_eq_true rfl) ?_
  refine aGo okX7_days 2 (f' := (2, [some (.inr 0), some (.inl (m : Int))], [.inl 1, .inl (m : Int)], _)) rfl ?_
  refine b_ge (tgt := 12) okX7_days rfl rfl ⟨by omega, by omega⟩ ⟨by omega, by omega⟩ (fun h2 => ?_) (fun h2 => ?_)
  · refine aGo okX7_days 2 (f' := (15, [some (.inr 0), some (.inl (m : Int))], [.inl 60, .inl (m : Int)], _)) rfl ?_
    refine b_gt (tgt := 33) okX7_days rfl rfl ⟨by omega, by omega⟩ ⟨by omega, by omega⟩ (fun h15 => ?_) (fun h15 => ?_)
    · refine aGo okX7_days 2 (f' := (36, [some (.inr 0), some (.inl (m : Int))], [.inl (-6), .inr 0], _)) rfl ?_
      exfalso; omega
    · refine aGo okX7_days 2 (f' := (22, [some (.inr 0), some (.inl (m : Int))], [.inr 32], _)) rfl ?_
      refine b_vV (as := []) (rest := []) (k := 32) (.inl d) okX7_days rfl lkX7_158 caX3_day (Nat.le_of_ble_eq_true rfl) rfl (Nat.le_of_ble_eq_true rfl) rfl rfl rfl (c_day_1) ?_
      refine aGo okX7_days 3 (f' := (30, [some (.inr 0), some (.inl (m : Int))], [.inl 999, .inl (d + (m : Int))], _)) rfl ?_
      refine b_le (tgt := 40) okX7_days rfl rfl ⟨by omega, by omega⟩ ⟨by omega, by omega⟩ (fun h30 => ?_) (fun h30 => ?_)
      · refine aGo okX7_days 3 (f' := (45, [some (.inr 0), some (.inl (m : Int))], [.inl (m : Int), .inr 32], _)) rfl ?_
        refine b_vE (as := [.inl (m : Int)]) (rest := []) (k := 32) okX7_days rfl lkX7_161 caX3_passDays (Nat.le_of_ble_eq_true rfl) rfl (Nat.le_of_ble_eq_true rfl) rfl rfl rfl (c_passDays_1 (m := m) hp7 (by omega) hkp hn hsh hnt rkp rn (mOK_hle hm)) ?_
        rintro _ _ ⟨rfl, rfl⟩
        refine b_vS (as := [.inl (dayB p (hasL sh nt) n kp m)]) (rest := []) (.inl (bcE (dayB p (hasL sh nt) n kp m))) okX7_days rfl lkX7_164 caJ6_bitCount_0f7a4 (Nat.le_of_ble_eq_true rfl) rfl (Nat.le_of_ble_eq_true rfl) rfl (c_bitCount _) ?_
        exact b_ret (v := (some (.inl (bcE (dayB p (hasL sh nt) n kp m))))) ⟨rfl, Or.inl rfl⟩ ⟨congrArg (fun q : Int => (some (.inl q) : Option aV)) (mOK_bit hm hm0.1), by rw [mOK_it hm m]; exact cSt_of hp6 (by omega) hax (mOK_days hm (by omega)) hB (hms) (hI) (hi01)⟩ rfl
      · refine aGo okX7_days 2 (f' := (36, [some (.inr 0), some (.inl (m : Int))], [.inl (-6), .inr 0], _)) rfl ?_
        exfalso; omega
  · refine aGo okX7_days 2 (f' := (8, [some (.inr 0), some (.inl (m : Int))], [.inl (-4), .inr 0], _)) rfl ?_
    exfalso; omega
set_option maxRecDepth 100000 in
set_option maxHeartbeats 4000000 in
theorem k_behind {imt : Int} {tc : Nat} {k f c n kp l : List Int} {p : Nat} {t d : Int} {to re : List Int} {tl : Nat} {tp : List Int} {I : moT} {C6 : List (Option aE)} {h : aH} {N : Nat} (hS : cSt imt tc k f c n kp l p t d to re tl tp I C6 h) {i m : Nat} {z : Int} (hi : i < p) (hm0 : m ≤ 99) (hz : 0 ≤ z ∧ z ≤ 1) : aEv mX7_behind 4 0 0 N [.inr 0, .inl (i : Int), .inl (m : Int), .inl z] h (fun rv h2 => rv = some (.inl (if z = 0 then (dayIt p (hasM p k f c l t) n m kp).getD i 0 else sumN m (fun j => if sht p (hasM p k f c l t) n kp i j = true then (1 : Int) else 0))) ∧ cSt imt tc k f c n kp l p t d to re tl tp I C6 h2) := by
  obtain ⟨hp6, hd9, hax, nt, w, sh, wa, B, z0, fs, ss, sp, la, gr, B4, hm, hB, hms, hI, hi01, rfl⟩ := hS
  obtain ⟨htp, rtp, htl9, hto, rto, htc, hre⟩ := id hax
  obtain ⟨hfs, hss, hsp, hla, hgr⟩ := id hms
  obtain ⟨⟨hp7, hk, hf, hc, hn, hkp, hl, rk, rf, rc, rn, rkp, rl, ht0, ht1, hd0, hd1⟩, ⟨hnt, znt⟩, ⟨hw, zw, zwa⟩, ⟨hsh, zsh⟩⟩ := id hm
  refine aEv_of okX7_behind caX7_behind (Nat.le_of_ble_eq_true rfl) ?_
  refine aGo okX7_behind 3 (f' := (5, [some (.inr 0), some (.inl (i : Int)), some (.inl (m : Int)), some (.inl z)], [.inl (i : Int), .inr 32], _)) rfl ?_
  refine b_vV (as := [.inl (i : Int)]) (rest := []) (k := 32) (.inl 1) okX7_behind rfl lkX7_95 caX3_isThere (Nat.le_of_ble_eq_true rfl) rfl (Nat.le_of_ble_eq_true rfl) rfl rfl rfl (c_isThere_1_t (x := (i : Int)) hp7 (by omega) (by omega)) ?_
  refine b0_ne (tgt := 17) okX7_behind rfl rfl ⟨by omega, by omega⟩ (fun h8 => ?_) (fun h8 => absurd h8 (by omega))
  refine aGo okX7_behind 1 (f' := (18, [some (.inr 0), some (.inl (i : Int)), some (.inl (m : Int)), some (.inl z)], [.inl (m : Int)], _)) rfl ?_
  refine b0_ge (tgt := 28) okX7_behind rfl rfl ⟨by omega, by omega⟩ (fun h18 => ?_) (fun h18 => ?_)
  · refine aGo okX7_behind 2 (f' := (31, [some (.inr 0), some (.inl (i : Int)), some (.inl (m : Int)), some (.inl z)], [.inl 99, .inl (m : Int)], _)) rfl ?_
    refine b_le (tgt := 41) okX7_behind rfl rfl ⟨by omega, by omega⟩ ⟨by omega, by omega⟩ (fun h31 => ?_) (fun h31 => ?_)
    · refine aGo okX7_behind 1 (f' := (42, [some (.inr 0), some (.inl (i : Int)), some (.inl (m : Int)), some (.inl z)], [.inl z], _)) rfl ?_
      refine b0_lt (tgt := 50) okX7_behind rfl rfl ⟨by omega, by omega⟩ (fun h42 => ?_) (fun h42 => ?_)
      · refine aGo okX7_behind 2 (f' := (53, [some (.inr 0), some (.inl (i : Int)), some (.inl (m : Int)), some (.inl z)], [.inl (-2), .inr 0], _)) rfl ?_
        exfalso; omega
      · refine aGo okX7_behind 2 (f' := (47, [some (.inr 0), some (.inl (i : Int)), some (.inl (m : Int)), some (.inl z)], [.inl 1, .inl z], _)) rfl ?_
        refine b_le (tgt := 57) okX7_behind rfl rfl ⟨by omega, by omega⟩ ⟨by omega, by omega⟩ (fun h47 => ?_) (fun h47 => ?_)
        · refine aGo okX7_behind 1 (f' := (58, [some (.inr 0), some (.inl (i : Int)), some (.inl (m : Int)), some (.inl z)], [.inl z], _)) rfl ?_
          refine b0_ne (tgt := 73) okX7_behind rfl rfl ⟨by omega, by omega⟩ (fun h58 => ?_) (fun h58 => ?_)
          · refine aGo okX7_behind 4 (f' := (79, [some (.inr 0), some (.inl (i : Int)), some (.inl (m : Int)), some (.inl z)], [.inl (m : Int), .inl (i : Int), .inr 96], _)) rfl ?_
            refine b_vE (as := [.inl (i : Int), .inl (m : Int)]) (rest := []) (k := 96) okX7_behind rfl lkX7_172 caX0_shortDays (Nat.le_of_ble_eq_true rfl) rfl (Nat.le_of_ble_eq_true rfl) rfl rfl rfl (c_shortDays hm hB (i := i) (m := m) (by omega) (by omega)) ?_
            rintro _ _ ⟨rfl, B2, hB2, rfl⟩
            exact b_ret (v := (some (.inl (sumN m (fun j => if sht p (hasL sh nt) n kp i j = true then (1 : Int) else 0))))) ⟨rfl, Or.inl rfl⟩ ⟨congrArg (fun q : Int => (some (.inl q) : Option aV)) ((sumN_congr fun j _ => by show (if sht p (hasL sh nt) n kp i j = true then (1 : Int) else 0) = _; rw [mOK_sht hm hi]).trans (if_neg (by omega)).symm), by exact cSt_of hp6 hd9 hax (hm) hB2 (hms) (hI) (hi01)⟩ rfl
          · refine aGo okX7_behind 4 (f' := (67, [some (.inr 0), some (.inl (i : Int)), some (.inl (m : Int)), some (.inl z)], [.inl (m : Int), .inl (i : Int), .inr 96], _)) rfl ?_
            refine b_vE (as := [.inl (i : Int), .inl (m : Int)]) (rest := []) (k := 96) okX7_behind rfl lkX7_169 caX0_keptAfter (Nat.le_of_ble_eq_true rfl) rfl (Nat.le_of_ble_eq_true rfl) rfl rfl rfl (c_keptAfter hm hB (i := i) (m := m) (by omega) (by omega)) ?_
            rintro _ _ ⟨rfl, B2, hB2, rfl⟩
            refine aGo okX7_behind 1 (f' := (82, [some (.inr 0), some (.inl (i : Int)), some (.inl (m : Int)), some (.inl z)], [.inl ((dayIt p (hasL sh nt) n m kp).getD i 0)], _)) rfl ?_
            exact b_ret (v := (some (.inl ((dayIt p (hasL sh nt) n m kp).getD i 0)))) ⟨rfl, Or.inl rfl⟩ ⟨congrArg (fun q : Int => (some (.inl q) : Option aV)) ((congrArg (fun b : List Int => b.getD i 0) (mOK_it hm m)).trans (if_pos (by omega)).symm), by exact cSt_of hp6 hd9 hax (hm) hB2 (hms) (hI) (hi01)⟩ rfl
        · refine aGo okX7_behind 2 (f' := (53, [some (.inr 0), some (.inl (i : Int)), some (.inl (m : Int)), some (.inl z)], [.inl (-2), .inr 0], _)) rfl ?_
          exfalso; omega
    · refine aGo okX7_behind 2 (f' := (37, [some (.inr 0), some (.inl (i : Int)), some (.inl (m : Int)), some (.inl z)], [.inl (-6), .inr 0], _)) rfl ?_
      exfalso; omega
  · refine aGo okX7_behind 2 (f' := (24, [some (.inr 0), some (.inl (i : Int)), some (.inl (m : Int)), some (.inl z)], [.inl (-4), .inr 0], _)) rfl ?_
    exfalso; omega
set_option maxRecDepth 100000 in
set_option maxHeartbeats 4000000 in
theorem k_firstShort {imt : Int} {tc : Nat} {k f c n kp l : List Int} {p : Nat} {t d : Int} {to re : List Int} {tl : Nat} {tp : List Int} {I : moT} {C6 : List (Option aE)} {h : aH} {N : Nat} (hS : cSt imt tc k f c n kp l p t d to re tl tp I C6 h) {x : Int} (hx : 0 ≤ x ∧ x ≤ 1) : aEv mX7_firstShort 4 0 0 N [.inr 0, .inl x] h (fun rv h2 => rv = some (.inl (if x = 0 then firstF (fun j => !decide (bitsN p (fun q => sht p (hasM p k f c l t) n kp q j) = 0)) 99 0 else firstO (fun j q => sht p (hasM p k f c l t) n kp q j) p 99 0)) ∧ cSt imt tc k f c n kp l p t d to re tl tp I C6 h2) := by
  obtain ⟨hp6, hd9, hax, nt, w, sh, wa, B, z0, fs, ss, sp, la, gr, B4, hm, hB, hms, hI, hi01, rfl⟩ := hS
  obtain ⟨htp, rtp, htl9, hto, rto, htc, hre⟩ := id hax
  obtain ⟨hfs, hss, hsp, hla, hgr⟩ := id hms
  obtain ⟨⟨hp7, hk, hf, hc, hn, hkp, hl, rk, rf, rc, rn, rkp, rl, ht0, ht1, hd0, hd1⟩, ⟨hnt, znt⟩, ⟨hw, zw, zwa⟩, ⟨hsh, zsh⟩⟩ := id hm
  refine aEv_of okX7_firstShort caX7_firstShort (Nat.le_of_ble_eq_true rfl) ?_
  refine aGo okX7_firstShort 1 (f' := (1, [some (.inr 0), some (.inl x)], [.inl x], _)) rfl ?_
  refine b0_lt (tgt := 9) okX7_firstShort rfl rfl ⟨by omega, by omega⟩ (fun h1 => ?_) (fun h1 => ?_)
  · refine aGo okX7_firstShort 2 (f' := (12, [some (.inr 0), some (.inl x)], [.inl (-2), .inr 0], _)) rfl ?_
    exfalso; omega
  · refine aGo okX7_firstShort 2 (f' := (6, [some (.inr 0), some (.inl x)], [.inl 1, .inl x], _)) rfl ?_
    refine b_le (tgt := 16) okX7_firstShort rfl rfl ⟨by omega, by omega⟩ ⟨by omega, by omega⟩ (fun h6 => ?_) (fun h6 => ?_)
    · refine aGo okX7_firstShort 1 (f' := (17, [some (.inr 0), some (.inl x)], [.inl x], _)) rfl ?_
      refine b0_ne (tgt := 30) okX7_firstShort rfl rfl ⟨by omega, by omega⟩ (fun h17 => ?_) (fun h17 => ?_)
      · refine aGo okX7_firstShort 2 (f' := (34, [some (.inr 0), some (.inl x)], [.inr 96], _)) rfl ?_
        refine b_vE (as := []) (rest := []) (k := 96) okX7_firstShort rfl lkX7_178 caX0_firstShortOne (Nat.le_of_ble_eq_true rfl) rfl (Nat.le_of_ble_eq_true rfl) rfl rfl rfl (c_firstShortOne hm hB) ?_
        rintro _ _ ⟨rfl, B2, hB2, rfl⟩
        exact b_ret (v := (some (.inl (firstO (fun j q => sht p (hasL sh nt) n kp q j) p 99 0)))) ⟨rfl, Or.inl rfl⟩ ⟨congrArg (fun q : Int => (some (.inl q) : Option aV)) ((firstO_congr (fun j q hq => mOK_sht hm hq j) 99 0).trans (if_neg (by omega)).symm), by exact cSt_of hp6 hd9 hax (hm) hB2 (hms) (hI) (hi01)⟩ rfl
      · refine aGo okX7_firstShort 2 (f' := (24, [some (.inr 0), some (.inl x)], [.inr 96], _)) rfl ?_
        refine b_vE (as := []) (rest := []) (k := 96) okX7_firstShort rfl lkX7_175 caX0_firstShortDay (Nat.le_of_ble_eq_true rfl) rfl (Nat.le_of_ble_eq_true rfl) rfl rfl rfl (c_firstShortDay hm hB) ?_
        rintro _ _ ⟨rfl, B2, hB2, rfl⟩
        refine aGo okX7_firstShort 1 (f' := (37, [some (.inr 0), some (.inl x)], [.inl (firstF (fun j => !decide (bitsN p (fun q => sht p (hasL sh nt) n kp q j) = 0)) 99 0)], _)) rfl ?_
        exact b_ret (v := (some (.inl (firstF (fun j => !decide (bitsN p (fun q => sht p (hasL sh nt) n kp q j) = 0)) 99 0)))) ⟨rfl, Or.inl rfl⟩ ⟨congrArg (fun q : Int => (some (.inl q) : Option aV)) ((firstF_congr (fun j => congrArg (fun b : Int => !decide (b = 0)) (bitsN_congr fun q hq => mOK_sht hm hq j)) 99 0).trans (if_pos (by omega)).symm), by exact cSt_of hp6 hd9 hax (hm) hB2 (hms) (hI) (hi01)⟩ rfl
    · refine aGo okX7_firstShort 2 (f' := (12, [some (.inr 0), some (.inl x)], [.inl (-2), .inr 0], _)) rfl ?_
      exfalso; omega
set_option maxRecDepth 100000 in
set_option maxHeartbeats 4000000 in
theorem k_lasts {imt : Int} {tc : Nat} {k f c n kp l : List Int} {p : Nat} {t d : Int} {to re : List Int} {tl : Nat} {tp : List Int} {I : moT} {C6 : List (Option aE)} {h : aH} {N : Nat} (hS : cSt imt tc k f c n kp l p t d to re tl tp I C6 h) {i : Nat} (hi : i < p) : aEv mX7_lasts 4 0 0 N [.inr 0, .inl (i : Int)] h (fun rv h2 => rv = some (.inl (lastF (fun j => sht p (hasM p k f c l t) n kp i j) 99 0)) ∧ cSt imt tc k f c n kp l p t d to re tl tp I C6 h2) := by
  obtain ⟨hp6, hd9, hax, nt, w, sh, wa, B, z0, fs, ss, sp, la, gr, B4, hm, hB, hms, hI, hi01, rfl⟩ := hS
  obtain ⟨htp, rtp, htl9, hto, rto, htc, hre⟩ := id hax
  obtain ⟨hfs, hss, hsp, hla, hgr⟩ := id hms
  obtain ⟨⟨hp7, hk, hf, hc, hn, hkp, hl, rk, rf, rc, rn, rkp, rl, ht0, ht1, hd0, hd1⟩, ⟨hnt, znt⟩, ⟨hw, zw, zwa⟩, ⟨hsh, zsh⟩⟩ := id hm
  refine aEv_of okX7_lasts caX7_lasts (Nat.le_of_ble_eq_true rfl) ?_
  refine aGo okX7_lasts 3 (f' := (5, [some (.inr 0), some (.inl (i : Int))], [.inl (i : Int), .inr 32], _)) rfl ?_
  refine b_vV (as := [.inl (i : Int)]) (rest := []) (k := 32) (.inl 1) okX7_lasts rfl lkX7_95 caX3_isThere (Nat.le_of_ble_eq_true rfl) rfl (Nat.le_of_ble_eq_true rfl) rfl rfl rfl (c_isThere_1_t (x := (i : Int)) hp7 (by omega) (by omega)) ?_
  refine b0_ne (tgt := 17) okX7_lasts rfl rfl ⟨by omega, by omega⟩ (fun h8 => ?_) (fun h8 => absurd h8 (by omega))
  refine aGo okX7_lasts 3 (f' := (22, [some (.inr 0), some (.inl (i : Int))], [.inl (i : Int), .inr 96], _)) rfl ?_
  refine b_vE (as := [.inl (i : Int)]) (rest := []) (k := 96) okX7_lasts rfl lkX7_181 caX0_daysTillShort (Nat.le_of_ble_eq_true rfl) rfl (Nat.le_of_ble_eq_true rfl) rfl rfl rfl (c_daysTillShort hm hB (i := i) (by omega)) ?_
  rintro _ _ ⟨rfl, B2, hB2, rfl⟩
  exact b_ret (v := (some (.inl (lastF (fun j => sht p (hasL sh nt) n kp i j) 99 0)))) ⟨rfl, Or.inl rfl⟩ ⟨congrArg (fun q : Int => (some (.inl q) : Option aV)) (lastF_congr (fun j => mOK_sht hm hi j) 99 0), by exact cSt_of hp6 hd9 hax (hm) hB2 (hms) (hI) (hi01)⟩ rfl
set_option maxRecDepth 100000 in
set_option maxHeartbeats 4000000 in
theorem k_bestCell {imt : Int} {tc : Nat} {k f c n kp l : List Int} {p : Nat} {t d : Int} {to re : List Int} {tl : Nat} {tp : List Int} {I : moT} {C6 : List (Option aE)} {h : aH} {N : Nat} (hS : cSt imt tc k f c n kp l p t d to re tl tp I C6 h) {i : Nat} {y : Int} (hi : i < p) (hy : 0 ≤ y ∧ y ≤ 2) : aEv mX7_bestCell 6 0 0 N [.inr 0, .inl (i : Int), .inl y] h (fun rv h2 => rv = some (.inl (([(amy (fun (v : Nat) => shr p k f (c.set i (v : Int)) t i) (0, -1) 36).1, shr p k f (c.set i (amy (fun (v : Nat) => shr p k f (c.set i (v : Int)) t i) (0, -1) 36).1) t i, (amy (fun (v : Nat) => lsN i (shr p k f (c.set i (v : Int)) t) p) (0, -1) 36).1].getD y.toNat 0))) ∧ cSt imt tc k f c n kp l p t d to re tl tp I C6 h2) := by
  obtain ⟨hp6, hd9, hax, nt, w, sh, wa, B, z0, fs, ss, sp, la, gr, B4, hm, hB, hms, hI, hi01, rfl⟩ := hS
  obtain ⟨htp, rtp, htl9, hto, rto, htc, hre⟩ := id hax
  obtain ⟨hfs, hss, hsp, hla, hgr⟩ := id hms
  obtain ⟨⟨hp7, hk, hf, hc, hn, hkp, hl, rk, rf, rc, rn, rkp, rl, ht0, ht1, hd0, hd1⟩, ⟨hnt, znt⟩, ⟨hw, zw, zwa⟩, ⟨hsh, zsh⟩⟩ := id hm
  obtain ⟨y9, hy9, hy9b⟩ := amy_nat (F := (fun (v : Nat) => shr p k f (c.set i (v : Int)) t i)) (z := (0, -1)) rfl 36
  refine aEv_of okX7_bestCell caX7_bestCell (Nat.le_of_ble_eq_true rfl) ?_
  refine aGo okX7_bestCell 3 (f' := (5, [some (.inr 0), some (.inl (i : Int)), some (.inl y)], [.inl (i : Int), .inr 32], _)) rfl ?_
  refine b_vV (as := [.inl (i : Int)]) (rest := []) (k := 32) (.inl 1) okX7_bestCell rfl lkX7_95 caX3_isThere (Nat.le_of_ble_eq_true rfl) rfl (Nat.le_of_ble_eq_true rfl) rfl rfl rfl (c_isThere_1_t (x := (i : Int)) hp7 (by omega) (by omega)) ?_
  refine b0_ne (tgt := 17) okX7_bestCell rfl rfl ⟨by omega, by omega⟩ (fun h8 => ?_) (fun h8 => absurd h8 (by omega))
  refine aGo okX7_bestCell 1 (f' := (18, [some (.inr 0), some (.inl (i : Int)), some (.inl y)], [.inl y], _)) rfl ?_
  by_cases hs18 : 0 ≤ y ∧ y ≤ 2
  · have hsx := (show y = 0 ∨ y = 1 ∨ y = 2 from by omega)
    rcases hsx with hsw | hsw | hsw
    · refine b_cast (f' := (18, [some (.inr 0), some (.inl (i : Int)), some (.inl y)], [.inl 0], [(mainSeg imt (tc : Int)), (moSeg 32 k f c n kp l nt w sh (p : Int) t d wa), B, (miscSeg z0 fs ss sp la gr (tl : Int) tp), B4, (auxSeg to re), C6])) (congrArg (fun zz : Int => ((18, [some (.inr 0), some (.inl (i : Int)), some (.inl y)], .inl zz :: [], [(mainSeg imt (tc : Int)), (moSeg 32 k f c n kp l nt w sh (p : Int) t d wa), B, (miscSeg z0 fs ss sp la gr (tl : Int) tp), B4, (auxSeg to re), C6]) : aF)) hsw) ?_
      refine b_swIn (tgt := 44) okX7_bestCell rfl ⟨by decide, by decide⟩ (by decide) (by decide) rfl rfl ?_
      refine aGo okX7_bestCell 3 (f' := (49, [some (.inr 0), some (.inl (i : Int)), some (.inl y)], [.inl (i : Int), .inr 97], _)) rfl ?_
      refine b_vE (as := [.inl (i : Int)]) (rest := []) (k := 97) okX7_bestCell rfl lkX7_184 caX5_richestCell (Nat.le_of_ble_eq_true rfl) rfl (Nat.le_of_ble_eq_true rfl) rfl rfl rfl (c_richestCell hm hB (i := i) hi) ?_
      rintro _ _ ⟨rfl, B2, hB2, rfl⟩
      exact b_ret (v := (some (.inl ((amy (fun (v : Nat) => shr p k f (c.set i (v : Int)) t i) (0, -1) 36).1)))) ⟨rfl, Or.inl rfl⟩ ⟨congrArg (fun q : Int => (some (.inl q) : Option aV)) (by rw [hsw]; rfl), by exact cSt_of hp6 hd9 hax (hm) hB2 (hms) (hI) (hi01)⟩ rfl
    · refine b_cast (f' := (18, [some (.inr 0), some (.inl (i : Int)), some (.inl y)], [.inl 1], [(mainSeg imt (tc : Int)), (moSeg 32 k f c n kp l nt w sh (p : Int) t d wa), B, (miscSeg z0 fs ss sp la gr (tl : Int) tp), B4, (auxSeg to re), C6])) (congrArg (fun zz : Int => ((18, [some (.inr 0), some (.inl (i : Int)), some (.inl y)], .inl zz :: [], [(mainSeg imt (tc : Int)), (moSeg 32 k f c n kp l nt w sh (p : Int) t d wa), B, (miscSeg z0 fs ss sp la gr (tl : Int) tp), B4, (auxSeg to re), C6]) : aF)) hsw) ?_
      refine b_swIn (tgt := 53) okX7_bestCell rfl ⟨by decide, by decide⟩ (by decide) (by decide) rfl rfl ?_
      refine aGo okX7_bestCell 6 (f' := (63, [some (.inr 0), some (.inl (i : Int)), some (.inl y)], [.inl (i : Int), .inr 97, .inl (i : Int), .inr 97], _)) rfl ?_
      refine b_vE (as := [.inl (i : Int)]) (rest := [.inl (i : Int), .inr 97]) (k := 97) okX7_bestCell rfl lkX7_184 caX5_richestCell (Nat.le_of_ble_eq_true rfl) rfl (Nat.le_of_ble_eq_true rfl) rfl rfl rfl (c_richestCell hm hB (i := i) hi) ?_
      rintro _ _ ⟨rfl, B2, hB2, rfl⟩
      refine b_vE (as := [.inl (i : Int), .inl ((amy (fun (v : Nat) => shr p k f (c.set i (v : Int)) t i) (0, -1) 36).1)]) (rest := []) (k := 97) okX7_bestCell rfl lkX7_187 caX5_shareIn (Nat.le_of_ble_eq_true rfl) rfl (Nat.le_of_ble_eq_true rfl) rfl rfl rfl (c_shareIn hm hB2 (i := i) hi (v := ((amy (fun (v : Nat) => shr p k f (c.set i (v : Int)) t i) (0, -1) 36).1)) (by omega) (by omega)) ?_
      rintro _ _ ⟨rfl, B3, hB3, rfl⟩
      exact b_ret (v := (some (.inl (shr p k f (c.set i ((amy (fun (v : Nat) => shr p k f (c.set i (v : Int)) t i) (0, -1) 36).1)) t i)))) ⟨rfl, Or.inl rfl⟩ ⟨congrArg (fun q : Int => (some (.inl q) : Option aV)) (by rw [hsw]; rfl), by exact cSt_of hp6 hd9 hax (hm) hB3 (hms) (hI) (hi01)⟩ rfl
    · refine b_cast (f' := (18, [some (.inr 0), some (.inl (i : Int)), some (.inl y)], [.inl 2], [(mainSeg imt (tc : Int)), (moSeg 32 k f c n kp l nt w sh (p : Int) t d wa), B, (miscSeg z0 fs ss sp la gr (tl : Int) tp), B4, (auxSeg to re), C6])) (congrArg (fun zz : Int => ((18, [some (.inr 0), some (.inl (i : Int)), some (.inl y)], .inl zz :: [], [(mainSeg imt (tc : Int)), (moSeg 32 k f c n kp l nt w sh (p : Int) t d wa), B, (miscSeg z0 fs ss sp la gr (tl : Int) tp), B4, (auxSeg to re), C6]) : aF)) hsw) ?_
      refine b_swIn (tgt := 70) okX7_bestCell rfl ⟨by decide, by decide⟩ (by decide) (by decide) rfl rfl ?_
      refine aGo okX7_bestCell 3 (f' := (75, [some (.inr 0), some (.inl (i : Int)), some (.inl y)], [.inl (i : Int), .inr 97], _)) rfl ?_
      refine b_vE (as := [.inl (i : Int)]) (rest := []) (k := 97) okX7_bestCell rfl lkX7_190 caX5_kindCell (Nat.le_of_ble_eq_true rfl) rfl (Nat.le_of_ble_eq_true rfl) rfl rfl rfl (c_kindCell hm hB (i := i) hi) ?_
      rintro _ _ ⟨rfl, B2, hB2, rfl⟩
      exact b_ret (v := (some (.inl ((amy (fun (v : Nat) => lsN i (shr p k f (c.set i (v : Int)) t) p) (0, -1) 36).1)))) ⟨rfl, Or.inl rfl⟩ ⟨congrArg (fun q : Int => (some (.inl q) : Option aV)) (by rw [hsw]; rfl), by exact cSt_of hp6 hd9 hax (hm) hB2 (hms) (hI) (hi01)⟩ rfl
  · refine b_swOut (tgt := 79) okX7_bestCell rfl ⟨by omega, by omega⟩ (by omega) rfl ?_
    refine aGo okX7_bestCell 2 (f' := (82, [some (.inr 0), some (.inl (i : Int)), some (.inl y)], [.inl (-2), .inr 0], _)) rfl ?_
    exfalso; omega
set_option maxRecDepth 100000 in
set_option maxHeartbeats 4000000 in
theorem k_takes {imt : Int} {tc : Nat} {k f c n kp l : List Int} {p : Nat} {t d : Int} {to re : List Int} {tl : Nat} {tp : List Int} {I : moT} {C6 : List (Option aE)} {h : aH} {N : Nat} (hS : cSt imt tc k f c n kp l p t d to re tl tp I C6 h) {i j : Nat} (hi : i < p) (hj : j < p) (hij : i ≠ j) : aEv mX7_takes 6 0 0 N [.inr 0, .inl (i : Int), .inl (j : Int)] h (fun rv h2 => rv = some (.inl (tkF (p - 1) k f c t i j)) ∧ cSt imt tc k f c n kp l p t d to re tl tp I C6 h2) := by
  obtain ⟨hp6, hd9, hax, nt, w, sh, wa, B, z0, fs, ss, sp, la, gr, B4, hm, hB, hms, hI, hi01, rfl⟩ := hS
  obtain ⟨htp, rtp, htl9, hto, rto, htc, hre⟩ := id hax
  obtain ⟨hfs, hss, hsp, hla, hgr⟩ := id hms
  obtain ⟨⟨hp7, hk, hf, hc, hn, hkp, hl, rk, rf, rc, rn, rkp, rl, ht0, ht1, hd0, hd1⟩, ⟨hnt, znt⟩, ⟨hw, zw, zwa⟩, ⟨hsh, zsh⟩⟩ := id hm
  obtain ⟨p, rfl⟩ : ∃ q, p = q + 1 := ⟨p - 1, by omega⟩
  refine aEv_of okX7_takes caX7_takes (Nat.le_of_ble_eq_true rfl) ?_
  refine aGo okX7_takes 4 (f' := (6, [some (.inr 0), some (.inl (i : Int)), some (.inl (j : Int))], [.inl (j : Int), .inl (i : Int), .inr 32], _)) rfl ?_
  refine b_vV (as := [.inl (i : Int), .inl (j : Int)]) (rest := []) (k := 32) (.inl 1) okX7_takes rfl lkX7_126 caX3_areTwo (Nat.le_of_ble_eq_true rfl) rfl (Nat.le_of_ble_eq_true rfl) rfl rfl rfl (c_areTwo_1_t hp7 ⟨by omega, by omega⟩ ⟨by omega, by omega⟩ (by omega)) ?_
  refine b0_ne (tgt := 18) okX7_takes rfl rfl ⟨by omega, by omega⟩ (fun h9 => ?_) (fun h9 => absurd h9 (by omega))
  refine aGo okX7_takes 4 (f' := (24, [some (.inr 0), some (.inl (i : Int)), some (.inl (j : Int))], [.inl (j : Int), .inl (i : Int), .inr 97], _)) rfl ?_
  refine b_vE (as := [.inl (i : Int), .inl (j : Int)]) (rest := []) (k := 97) okX7_takes rfl lkX7_193 caX5_takenBy (Nat.le_of_ble_eq_true rfl) rfl (Nat.le_of_ble_eq_true rfl) rfl rfl rfl (c_takenBy hm hB (g := i) (i := j) (by omega) (by omega) hij) ?_
  rintro _ _ ⟨rfl, B2, hB2, rfl⟩
  exact b_ret (v := (some (.inl (tkF p k f c t i j)))) ⟨rfl, Or.inl rfl⟩ ⟨congrArg (fun q : Int => (some (.inl q) : Option aV)) (rfl), by exact cSt_of hp6 hd9 hax (hm) hB2 (hms) (hI) (hi01)⟩ rfl
set_option maxRecDepth 100000 in
set_option maxHeartbeats 4000000 in
theorem k_worst {imt : Int} {tc : Nat} {k f c n kp l : List Int} {p : Nat} {t d : Int} {to re : List Int} {tl : Nat} {tp : List Int} {I : moT} {C6 : List (Option aE)} {h : aH} {N : Nat} (hS : cSt imt tc k f c n kp l p t d to re tl tp I C6 h) {i : Nat} (hi : i < p) : aEv mX7_worst 7 0 0 N [.inr 0, .inl (i : Int)] h (fun rv h2 => rv = some (.inl ((wfN i (fun (y : Nat) => tkF (p - 1) k f c t y i) p).1)) ∧ cSt imt tc k f c n kp l p t d to re tl tp I C6 h2) := by
  obtain ⟨hp6, hd9, hax, nt, w, sh, wa, B, z0, fs, ss, sp, la, gr, B4, hm, hB, hms, hI, hi01, rfl⟩ := hS
  obtain ⟨htp, rtp, htl9, hto, rto, htc, hre⟩ := id hax
  obtain ⟨hfs, hss, hsp, hla, hgr⟩ := id hms
  obtain ⟨⟨hp7, hk, hf, hc, hn, hkp, hl, rk, rf, rc, rn, rkp, rl, ht0, ht1, hd0, hd1⟩, ⟨hnt, znt⟩, ⟨hw, zw, zwa⟩, ⟨hsh, zsh⟩⟩ := id hm
  obtain ⟨p, rfl⟩ : ∃ q, p = q + 1 := ⟨p - 1, by omega⟩
  refine aEv_of okX7_worst caX7_worst (Nat.le_of_ble_eq_true rfl) ?_
  refine aGo okX7_worst 3 (f' := (5, [some (.inr 0), some (.inl (i : Int))], [.inl (i : Int), .inr 32], _)) rfl ?_
  refine b_vV (as := [.inl (i : Int)]) (rest := []) (k := 32) (.inl 1) okX7_worst rfl lkX7_95 caX3_isThere (Nat.le_of_ble_eq_true rfl) rfl (Nat.le_of_ble_eq_true rfl) rfl rfl rfl (c_isThere_1_t (x := (i : Int)) hp7 (by omega) (by omega)) ?_
  refine b0_ne (tgt := 17) okX7_worst rfl rfl ⟨by omega, by omega⟩ (fun h8 => ?_) (fun h8 => absurd h8 (by omega))
  refine aGo okX7_worst 3 (f' := (22, [some (.inr 0), some (.inl (i : Int))], [.inl (i : Int), .inr 97], _)) rfl ?_
  refine b_vE (as := [.inl (i : Int)]) (rest := []) (k := 97) okX7_worst rfl lkX7_196 caX5_worstFor (Nat.le_of_ble_eq_true rfl) rfl (Nat.le_of_ble_eq_true rfl) rfl rfl rfl (c_worstFor hm hB (i := i) (by omega)) ?_
  rintro _ _ ⟨rfl, B2, hB2, rfl⟩
  exact b_ret (v := (some (.inl ((wfN i (fun (y : Nat) => tkF p k f c t y i) (p + 1)).1)))) ⟨rfl, Or.inl rfl⟩ ⟨congrArg (fun q : Int => (some (.inl q) : Option aV)) (rfl), by exact cSt_of hp6 hd9 hax (hm) hB2 (hms) (hI) (hi01)⟩ rfl
set_option maxRecDepth 100000 in
set_option maxHeartbeats 4000000 in
theorem k_newcomer {imt : Int} {tc : Nat} {k f c n kp l : List Int} {p : Nat} {t d : Int} {to re : List Int} {tl : Nat} {tp : List Int} {I : moT} {C6 : List (Option aE)} {h : aH} {N : Nat} (hS : cSt imt tc k f c n kp l p t d to re tl tp I C6 h) {x y : Int} (hx : 0 ≤ x ∧ x ≤ 35) (hy : 0 ≤ y ∧ y ≤ 1) : aEv mX7_newcomer 6 0 0 N [.inr 0, .inl x, .inl y] h (fun rv h2 => rv = some (.inl (if p = 6 then -9 else if y = 0 then t - (t - shr (p + 1) (k.set p 0) (f.set p 0) (c.set p x) t p) else (if 0 < p then t else 0) - (t - shr (p + 1) (k.set p 0) (f.set p 0) (c.set p x) t p))) ∧ cSt imt tc k f c n kp l p t d to re tl tp I C6 h2) := by
  obtain ⟨hp6, hd9, hax, nt, w, sh, wa, B, z0, fs, ss, sp, la, gr, B4, hm, hB, hms, hI, hi01, rfl⟩ := hS
  obtain ⟨htp, rtp, htl9, hto, rto, htc, hre⟩ := id hax
  obtain ⟨hfs, hss, hsp, hla, hgr⟩ := id hms
  obtain ⟨⟨hp7, hk, hf, hc, hn, hkp, hl, rk, rf, rc, rn, rkp, rl, ht0, ht1, hd0, hd1⟩, ⟨hnt, znt⟩, ⟨hw, zw, zwa⟩, ⟨hsh, zsh⟩⟩ := id hm
  refine aEv_of okX7_newcomer caX7_newcomer (Nat.le_of_ble_eq_true rfl) ?_
  refine aGo okX7_newcomer 1 (f' := (1, [some (.inr 0), some (.inl x), some (.inl y), none], [.inl x], _)) rfl ?_
  refine b_vS (as := [.inl x]) (rest := []) (.inl 1) okX7_newcomer rfl lkX7_134 caX7_isCell (Nat.le_of_ble_eq_true rfl) rfl (Nat.le_of_ble_eq_true rfl) rfl (c_isCell_t ⟨by omega, by omega⟩) ?_
  refine b0_ne (tgt := 13) okX7_newcomer rfl rfl ⟨by omega, by omega⟩ (fun h4 => ?_) (fun h4 => absurd h4 (by omega))
  refine aGo okX7_newcomer 1 (f' := (14, [some (.inr 0), some (.inl x), some (.inl y), none], [.inl y], _)) rfl ?_
  refine b0_lt (tgt := 22) okX7_newcomer rfl rfl ⟨by omega, by omega⟩ (fun h14 => ?_) (fun h14 => ?_)
  · refine aGo okX7_newcomer 2 (f' := (25, [some (.inr 0), some (.inl x), some (.inl y), none], [.inl (-2), .inr 0], _)) rfl ?_
    exfalso; omega
  · refine aGo okX7_newcomer 2 (f' := (19, [some (.inr 0), some (.inl x), some (.inl y), none], [.inl 1, .inl y], _)) rfl ?_
    refine b_le (tgt := 29) okX7_newcomer rfl rfl ⟨by omega, by omega⟩ ⟨by omega, by omega⟩ (fun h19 => ?_) (fun h19 => ?_)
    · refine aGo okX7_newcomer 2 (f' := (33, [some (.inr 0), some (.inl x), some (.inl y), none], [.inr 32], _)) rfl ?_
      refine b_vV (as := []) (rest := []) (k := 32) (.inl (p : Int)) okX7_newcomer rfl lkX7_199 caX3_people (Nat.le_of_ble_eq_true rfl) rfl (Nat.le_of_ble_eq_true rfl) rfl rfl rfl (c_people_1) ?_
      refine aGo okX7_newcomer 1 (f' := (38, [some (.inr 0), some (.inl x), some (.inl y), none], [.inl 6, .inl (p : Int)], _)) rfl ?_
      refine b_lt (tgt := 44) okX7_newcomer rfl rfl ⟨by omega, by omega⟩ ⟨by omega, by omega⟩ (fun h38 => ?_) (fun h38 => ?_)
      · refine aGo okX7_newcomer 3 (f' := (49, [some (.inr 0), some (.inl x), some (.inl y), none], [.inl x, .inr 97], _)) rfl ?_
        refine b_vE (as := [.inl x]) (rest := []) (k := 97) okX7_newcomer rfl lkX7_202 caX5_sharesBesideOneMoreIn (Nat.le_of_ble_eq_true rfl) rfl (Nat.le_of_ble_eq_true rfl) rfl rfl rfl (c_sharesBeside hm hB hp6 (v := x) (by omega) (by omega)) ?_
        rintro _ _ ⟨rfl, B2, hB2, rfl⟩
        refine aGo okX7_newcomer 2 (f' := (54, [some (.inr 0), some (.inl x), some (.inl y), some (.inl (t - shr (p + 1) (k.set p 0) (f.set p 0) (c.set p x) t p))], [.inl y], _)) rfl ?_
        refine b0_ne (tgt := 69) okX7_newcomer rfl rfl ⟨by omega, by omega⟩ (fun h54 => ?_) (fun h54 => ?_)
        · refine aGo okX7_newcomer 2 (f' := (73, [some (.inr 0), some (.inl x), some (.inl y), some (.inl (t - shr (p + 1) (k.set p 0) (f.set p 0) (c.set p x) t p))], [.inr 32], _)) rfl ?_
          by_cases hc73 : 0 < p
          · refine b_vV (as := []) (rest := []) (k := 32) (.inl t) okX7_newcomer rfl lkX7_205 caX3_allShares (Nat.le_of_ble_eq_true rfl) rfl (Nat.le_of_ble_eq_true rfl) rfl rfl rfl (c_allShares_t hp7 (by omega)) ?_
            refine aGo okX7_newcomer 2 (f' := (78, [some (.inr 0), some (.inl x), some (.inl y), some (.inl (t - shr (p + 1) (k.set p 0) (f.set p 0) (c.set p x) t p))], [.inl (t - (t - shr (p + 1) (k.set p 0) (f.set p 0) (c.set p x) t p))], _)) rfl ?_
            exact b_ret (v := (some (.inl (t - (t - shr (p + 1) (k.set p 0) (f.set p 0) (c.set p x) t p))))) ⟨rfl, Or.inl rfl⟩ ⟨congrArg (fun q : Int => (some (.inl q) : Option aV)) (by rw [if_neg (by omega), if_neg (by omega), if_pos (by omega)]), by exact cSt_of hp6 hd9 hax (hm) hB2 (hms) (hI) (hi01)⟩ rfl
          · refine b_vV (as := []) (rest := []) (k := 32) (.inl 0) okX7_newcomer rfl lkX7_205 caX3_allShares (Nat.le_of_ble_eq_true rfl) rfl (Nat.le_of_ble_eq_true rfl) rfl rfl rfl (c_allShares_f hp7 (by omega)) ?_
            refine aGo okX7_newcomer 2 (f' := (78, [some (.inr 0), some (.inl x), some (.inl y), some (.inl (t - shr (p + 1) (k.set p 0) (f.set p 0) (c.set p x) t p))], [.inl (0 - (t - shr (p + 1) (k.set p 0) (f.set p 0) (c.set p x) t p))], _)) rfl ?_
            exact b_ret (v := (some (.inl (0 - (t - shr (p + 1) (k.set p 0) (f.set p 0) (c.set p x) t p))))) ⟨rfl, Or.inl rfl⟩ ⟨congrArg (fun q : Int => (some (.inl q) : Option aV)) (by rw [if_neg (by omega), if_neg (by omega), if_neg (by omega)]), by exact cSt_of hp6 hd9 hax (hm) hB2 (hms) (hI) (hi01)⟩ rfl
        · refine aGo okX7_newcomer 2 (f' := (61, [some (.inr 0), some (.inl x), some (.inl y), some (.inl (t - shr (p + 1) (k.set p 0) (f.set p 0) (c.set p x) t p))], [.inr 32], _)) rfl ?_
          refine b_vV (as := []) (rest := []) (k := 32) (.inl t) okX7_newcomer rfl lkX7_151 caX3_total (Nat.le_of_ble_eq_true rfl) rfl (Nat.le_of_ble_eq_true rfl) rfl rfl rfl (c_total_1) ?_
          refine aGo okX7_newcomer 3 (f' := (78, [some (.inr 0), some (.inl x), some (.inl y), some (.inl (t - shr (p + 1) (k.set p 0) (f.set p 0) (c.set p x) t p))], [.inl (t - (t - shr (p + 1) (k.set p 0) (f.set p 0) (c.set p x) t p))], _)) rfl ?_
          exact b_ret (v := (some (.inl (t - (t - shr (p + 1) (k.set p 0) (f.set p 0) (c.set p x) t p))))) ⟨rfl, Or.inl rfl⟩ ⟨congrArg (fun q : Int => (some (.inl q) : Option aV)) (by rw [if_neg (by omega), if_pos (by omega)]), by exact cSt_of hp6 hd9 hax (hm) hB2 (hms) (hI) (hi01)⟩ rfl
      · refine aGo okX7_newcomer 1 (f' := (43, [some (.inr 0), some (.inl x), some (.inl y), none], [.inl (-9)], _)) rfl ?_
        exact b_ret (v := (some (.inl (-9)))) ⟨rfl, Or.inl rfl⟩ ⟨congrArg (fun q : Int => (some (.inl q) : Option aV)) (by rw [if_pos (by omega)]), by exact cSt_of hp6 hd9 hax (hm) hB (hms) (hI) (hi01)⟩ rfl
    · refine aGo okX7_newcomer 2 (f' := (25, [some (.inr 0), some (.inl x), some (.inl y), none], [.inl (-2), .inr 0], _)) rfl ?_
      exfalso; omega
set_option maxRecDepth 100000 in
set_option maxHeartbeats 4000000 in
theorem k_leaves1 {imt : Int} {tc : Nat} {k f c n kp l : List Int} {p : Nat} {t d : Int} {to re : List Int} {tl : Nat} {tp : List Int} {I : moT} {C6 : List (Option aE)} {h : aH} {N : Nat} (hS : cSt imt tc k f c n kp l p t d to re tl tp I C6 h) {x : Int} (hx : 0 ≤ x ∧ x ≤ 1) (hp1 : 0 < p) : aEv mX7_leaves 7 0 0 N [.inr 0, .inl x] h (fun rv h2 => rv = some (.inl (if p = 0 then -9 else if x = 0 then (amy (fun (y : Nat) => gwF (p - 1) k f c l t y p) (-9, -1) p).1 else gwF (p - 1) k f c l t (amy (fun (y : Nat) => gwF (p - 1) k f c l t y p) (-9, -1) p).1.toNat p)) ∧ cSt imt tc k f c n kp l p t d to re tl tp I C6 h2) := by
  obtain ⟨hp6, hd9, hax, nt, w, sh, wa, B, z0, fs, ss, sp, la, gr, B4, hm, hB, hms, hI, hi01, rfl⟩ := hS
  obtain ⟨htp, rtp, htl9, hto, rto, htc, hre⟩ := id hax
  obtain ⟨hfs, hss, hsp, hla, hgr⟩ := id hms
  obtain ⟨⟨hp7, hk, hf, hc, hn, hkp, hl, rk, rf, rc, rn, rkp, rl, ht0, ht1, hd0, hd1⟩, ⟨hnt, znt⟩, ⟨hw, zw, zwa⟩, ⟨hsh, zsh⟩⟩ := id hm
  obtain ⟨p, rfl⟩ : ∃ q, p = q + 1 := ⟨p - 1, by omega⟩
  obtain ⟨y9, hy9, hy9b, -⟩ := amy_nat9 (F := fun (y : Nat) => gwF p k f c l t y (p + 1)) (fun y => (gwF_le p k f c l t y (p + 1)).1) p
  refine aEv_of okX7_leaves caX7_leaves (Nat.le_of_ble_eq_true rfl) ?_
  refine aGo okX7_leaves 1 (f' := (1, [some (.inr 0), some (.inl x), none], [.inl x], _)) rfl ?_
  refine b0_lt (tgt := 9) okX7_leaves rfl rfl ⟨by omega, by omega⟩ (fun h1 => ?_) (fun h1 => ?_)
  · refine aGo okX7_leaves 2 (f' := (12, [some (.inr 0), some (.inl x), none], [.inl (-2), .inr 0], _)) rfl ?_
    exfalso; omega
  · refine aGo okX7_leaves 2 (f' := (6, [some (.inr 0), some (.inl x), none], [.inl 1, .inl x], _)) rfl ?_
    refine b_le (tgt := 16) okX7_leaves rfl rfl ⟨by omega, by omega⟩ ⟨by omega, by omega⟩ (fun h6 => ?_) (fun h6 => ?_)
    · refine aGo okX7_leaves 2 (f' := (20, [some (.inr 0), some (.inl x), none], [.inr 97], _)) rfl ?_
      refine b_vE (as := []) (rest := []) (k := 97) okX7_leaves rfl lkX7_208 caX5_bestLeaver (Nat.le_of_ble_eq_true rfl) rfl (Nat.le_of_ble_eq_true rfl) rfl rfl rfl (c_bestLeaver hm hB) ?_
      rintro _ _ ⟨rfl, B2, hB2, rfl⟩
      refine aGo okX7_leaves 1 (f' := (24, [some (.inr 0), some (.inl x), some (.inl ((amy (fun (y : Nat) => gwF p k f c l t y (p + 1)) (-9, -1) (p + 1)).1))], [], _)) rfl ?_
      refine b_cast (f' := (24, [some (.inr 0), some (.inl x), some (.inl (y9 : Int))], [], [(mainSeg imt (tc : Int)), (moSeg 32 k f c n kp l nt w sh (((p + 1) : Nat) : Int) t d wa), B2, (miscSeg z0 fs ss sp la gr (tl : Int) tp), B4, (auxSeg to re), C6])) (by rw [hy9]) ?_
      refine aGo okX7_leaves 1 (f' := (25, [some (.inr 0), some (.inl x), some (.inl (y9 : Int))], [.inl x], _)) rfl ?_
      refine b0_eq (tgt := 34) okX7_leaves rfl rfl ⟨by omega, by omega⟩ (fun h25 => ?_) (fun h25 => ?_)
      · refine aGo okX7_leaves 2 (f' := (46, [some (.inr 0), some (.inl x), some (.inl (y9 : Int))], [.inl (y9 : Int)], _)) rfl ?_
        exact b_ret (v := (some (.inl (y9 : Int)))) ⟨rfl, Or.inl rfl⟩ ⟨congrArg (fun q : Int => (some (.inl q) : Option aV)) (by rw [if_neg (by omega), if_pos (by omega)]; exact hy9.symm), by exact cSt_of hp6 hd9 hax (hm) hB2 (hms) (hI) (hi01)⟩ rfl
      · refine aGo okX7_leaves 2 (f' := (31, [some (.inr 0), some (.inl x), some (.inl (y9 : Int))], [.inl (-9), .inl (y9 : Int)], _)) rfl ?_
        refine b_ne (tgt := 38) okX7_leaves rfl rfl ⟨by omega, by omega⟩ ⟨by omega, by omega⟩ (fun h31 => ?_) (fun h31 => absurd h31 (by omega))
        refine aGo okX7_leaves 3 (f' := (43, [some (.inr 0), some (.inl x), some (.inl (y9 : Int))], [.inl (y9 : Int), .inr 97], _)) rfl ?_
        refine b_vE (as := [.inl (y9 : Int)]) (rest := []) (k := 97) okX7_leaves rfl lkX7_211 caX5_gainersWithout (Nat.le_of_ble_eq_true rfl) rfl (Nat.le_of_ble_eq_true rfl) rfl rfl rfl (c_gainersWithout hm hB2 (g := y9) (by omega)) ?_
        rintro _ _ ⟨rfl, B3, hB3, rfl⟩
        exact b_ret (v := (some (.inl (gwF p k f c l t y9 (p + 1))))) ⟨rfl, Or.inl rfl⟩ ⟨congrArg (fun q : Int => (some (.inl q) : Option aV)) (by rw [if_neg (by omega), if_neg (by omega)]; show _ = gwF p k f c l t (amy (fun (y : Nat) => gwF p k f c l t y (p + 1)) (-9, -1) (p + 1)).1.toNat (p + 1); rw [hy9]; rfl), by exact cSt_of hp6 hd9 hax (hm) hB3 (hms) (hI) (hi01)⟩ rfl
    · refine aGo okX7_leaves 2 (f' := (12, [some (.inr 0), some (.inl x), none], [.inl (-2), .inr 0], _)) rfl ?_
      exfalso; omega
set_option maxRecDepth 100000 in
set_option maxHeartbeats 4000000 in
theorem k_leaves0 {imt : Int} {tc : Nat} {k f c n kp l : List Int} {p : Nat} {t d : Int} {to re : List Int} {tl : Nat} {tp : List Int} {I : moT} {C6 : List (Option aE)} {h : aH} {N : Nat} (hS : cSt imt tc k f c n kp l p t d to re tl tp I C6 h) {x : Int} (hx : 0 ≤ x ∧ x ≤ 1) (hp0 : p = 0) : aEv mX7_leaves 7 0 0 N [.inr 0, .inl x] h (fun rv h2 => rv = some (.inl (if p = 0 then -9 else if x = 0 then (amy (fun (y : Nat) => gwF (p - 1) k f c l t y p) (-9, -1) p).1 else gwF (p - 1) k f c l t (amy (fun (y : Nat) => gwF (p - 1) k f c l t y p) (-9, -1) p).1.toNat p)) ∧ cSt imt tc k f c n kp l p t d to re tl tp I C6 h2) := by
  subst hp0
  obtain ⟨hp6, hd9, hax, nt, w, sh, wa, B, z0, fs, ss, sp, la, gr, B4, hm, hB, hms, hI, hi01, rfl⟩ := hS
  obtain ⟨htp, rtp, htl9, hto, rto, htc, hre⟩ := id hax
  obtain ⟨hfs, hss, hsp, hla, hgr⟩ := id hms
  obtain ⟨⟨hp7, hk, hf, hc, hn, hkp, hl, rk, rf, rc, rn, rkp, rl, ht0, ht1, hd0, hd1⟩, ⟨hnt, znt⟩, ⟨hw, zw, zwa⟩, ⟨hsh, zsh⟩⟩ := id hm
  refine aEv_of okX7_leaves caX7_leaves (Nat.le_of_ble_eq_true rfl) ?_
  refine aGo okX7_leaves 1 (f' := (1, [some (.inr 0), some (.inl x), none], [.inl x], _)) rfl ?_
  refine b0_lt (tgt := 9) okX7_leaves rfl rfl ⟨by omega, by omega⟩ (fun h1 => ?_) (fun h1 => ?_)
  · refine aGo okX7_leaves 2 (f' := (12, [some (.inr 0), some (.inl x), none], [.inl (-2), .inr 0], _)) rfl ?_
    exfalso; omega
  · refine aGo okX7_leaves 2 (f' := (6, [some (.inr 0), some (.inl x), none], [.inl 1, .inl x], _)) rfl ?_
    refine b_le (tgt := 16) okX7_leaves rfl rfl ⟨by omega, by omega⟩ ⟨by omega, by omega⟩ (fun h6 => ?_) (fun h6 => ?_)
    · refine aGo okX7_leaves 2 (f' := (20, [some (.inr 0), some (.inl x), none], [.inr 97], _)) rfl ?_
      refine b_vE (as := []) (rest := []) (k := 97) okX7_leaves rfl lkX7_208 caX5_bestLeaver (Nat.le_of_ble_eq_true rfl) rfl (Nat.le_of_ble_eq_true rfl) rfl rfl rfl (c_bestLeaver_0) ?_
      rintro _ _ ⟨rfl, rfl⟩
      refine aGo okX7_leaves 2 (f' := (25, [some (.inr 0), some (.inl x), some (.inl (-9))], [.inl x], _)) rfl ?_
      refine b0_eq (tgt := 34) okX7_leaves rfl rfl ⟨by omega, by omega⟩ (fun h25 => ?_) (fun h25 => ?_)
      · refine aGo okX7_leaves 2 (f' := (46, [some (.inr 0), some (.inl x), some (.inl (-9))], [.inl (-9)], _)) rfl ?_
        exact b_ret (v := (some (.inl (-9)))) ⟨rfl, Or.inl rfl⟩ ⟨congrArg (fun q : Int => (some (.inl q) : Option aV)) (by rw [if_pos rfl]), cSt_of hp6 hd9 hax hm hB hms hI hi01⟩ rfl
      · refine aGo okX7_leaves 2 (f' := (31, [some (.inr 0), some (.inl x), some (.inl (-9))], [.inl (-9), .inl (-9)], _)) rfl ?_
        refine b_ne (tgt := 38) okX7_leaves rfl rfl ⟨by omega, by omega⟩ ⟨by omega, by omega⟩ (fun h31 => absurd h31 (by omega)) (fun h31 => ?_)
        refine aGo okX7_leaves 2 (f' := (46, [some (.inr 0), some (.inl x), some (.inl (-9))], [.inl (-9)], _)) rfl ?_
        exact b_ret (v := (some (.inl (-9)))) ⟨rfl, Or.inl rfl⟩ ⟨congrArg (fun q : Int => (some (.inl q) : Option aV)) (by rw [if_pos rfl]), cSt_of hp6 hd9 hax hm hB hms hI hi01⟩ rfl
    · refine aGo okX7_leaves 2 (f' := (12, [some (.inr 0), some (.inl x), none], [.inl (-2), .inr 0], _)) rfl ?_
      exfalso; omega
theorem k_leaves {imt : Int} {tc : Nat} {k f c n kp l : List Int} {p : Nat} {t d : Int} {to re : List Int} {tl : Nat} {tp : List Int} {I : moT} {C6 : List (Option aE)} {h : aH} {N : Nat} (hS : cSt imt tc k f c n kp l p t d to re tl tp I C6 h) {x : Int} (hx : 0 ≤ x ∧ x ≤ 1) : aEv mX7_leaves 7 0 0 N [.inr 0, .inl x] h (fun rv h2 => rv = some (.inl (if p = 0 then -9 else if x = 0 then (amy (fun (y : Nat) => gwF (p - 1) k f c l t y p) (-9, -1) p).1 else gwF (p - 1) k f c l t (amy (fun (y : Nat) => gwF (p - 1) k f c l t y p) (-9, -1) p).1.toNat p)) ∧ cSt imt tc k f c n kp l p t d to re tl tp I C6 h2) := by
  rcases Nat.eq_zero_or_pos p with hp0 | hp0
  · exact k_leaves0 hS hx hp0
  · exact k_leaves1 hS hx hp0
set_option maxRecDepth 100000 in
set_option maxHeartbeats 4000000 in
theorem k_enough {imt : Int} {tc : Nat} {k f c n kp l : List Int} {p : Nat} {t d : Int} {to re : List Int} {tl : Nat} {tp : List Int} {I : moT} {C6 : List (Option aE)} {h : aH} {N : Nat} (hS : cSt imt tc k f c n kp l p t d to re tl tp I C6 h)  : aEv mX7_enough 3 0 0 N [.inr 0] h (fun rv h2 => rv = some (.inl (bitsN p (fun q => decide (n.getD q 0 ≤ hasM p k f c l t q)))) ∧ cSt imt tc k f c n kp l p t d to re tl tp I C6 h2) := by
  obtain ⟨hp6, hd9, hax, nt, w, sh, wa, B, z0, fs, ss, sp, la, gr, B4, hm, hB, hms, hI, hi01, rfl⟩ := hS
  obtain ⟨htp, rtp, htl9, hto, rto, htc, hre⟩ := id hax
  obtain ⟨hfs, hss, hsp, hla, hgr⟩ := id hms
  obtain ⟨⟨hp7, hk, hf, hc, hn, hkp, hl, rk, rf, rc, rn, rkp, rl, ht0, ht1, hd0, hd1⟩, ⟨hnt, znt⟩, ⟨hw, zw, zwa⟩, ⟨hsh, zsh⟩⟩ := id hm
  refine aEv_of okX7_enough caX7_enough (Nat.le_of_ble_eq_true rfl) ?_
  refine aGo okX7_enough 2 (f' := (4, [some (.inr 0)], [.inr 32], _)) rfl ?_
  refine b_vE (as := []) (rest := []) (k := 32) okX7_enough rfl lkX7_214 caX3_contentBits (Nat.le_of_ble_eq_true rfl) rfl (Nat.le_of_ble_eq_true rfl) rfl rfl rfl (c_contentBits_1 hp7 hn hsh hnt rn (mOK_hle hm)) ?_
  rintro _ _ ⟨rfl, rfl⟩
  exact b_ret (v := (some (.inl (bitsN p (fun q => decide (n.getD q 0 ≤ sh.getD q 0 - nt.getD q 0)))))) ⟨rfl, Or.inl rfl⟩ ⟨congrArg (fun q : Int => (some (.inl q) : Option aV)) (bitsN_congr fun q hq => congrArg (fun b : Int => decide (n.getD q 0 ≤ b)) (mOK_has hm hq)), by exact cSt_of hp6 hd9 hax (hm) hB (hms) (hI) (hi01)⟩ rfl
set_option maxRecDepth 100000 in
set_option maxHeartbeats 4000000 in
theorem k_help {imt : Int} {tc : Nat} {k f c n kp l : List Int} {p : Nat} {t d : Int} {to re : List Int} {tl : Nat} {tp : List Int} {I : moT} {C6 : List (Option aE)} {h : aH} {N : Nat} (hS : cSt imt tc k f c n kp l p t d to re tl tp I C6 h) {x y : Int} (hx : 0 ≤ x ∧ x ≤ 10) (hy : 0 ≤ y ∧ y ≤ 1) : aEv mX7_help 6 0 0 N [.inr 0, .inl x, .inl y] h (fun rv h2 => rv = some (.inl (if y = 0 then mnX (cuF p (sprV p k f c n l t) (lckV p k f c n l t) c x) (2 ^ p) else if mnX (cuF p (sprV p k f c n l t) (lckV p k f c n l t) c x) (2 ^ p) = sumN p (lckV p k f c n l t) then 1 else 0)) ∧ cSt imt tc k f c n kp l p t d to re tl tp I C6 h2) := by
  obtain ⟨hp6, hd9, hax, nt, w, sh, wa, B, z0, fs, ss, sp, la, gr, B4, hm, hB, hms, hI, hi01, rfl⟩ := hS
  obtain ⟨htp, rtp, htl9, hto, rto, htc, hre⟩ := id hax
  obtain ⟨hfs, hss, hsp, hla, hgr⟩ := id hms
  obtain ⟨⟨hp7, hk, hf, hc, hn, hkp, hl, rk, rf, rc, rn, rkp, rl, ht0, ht1, hd0, hd1⟩, ⟨hnt, znt⟩, ⟨hw, zw, zwa⟩, ⟨hsh, zsh⟩⟩ := id hm
  have hb1 := fun q (hq : q < p) => sprV_le (k := k) hp7 rf rc rn rl ⟨ht0, ht1⟩ hq
  have hb2 := mnX_le (G := cuF p (sprV p k f c n l t) (lckV p k f c n l t) c x) (m := 2 ^ p) (fun y _ => cuF_le hp7 hb1) (2 ^ p) (Nat.le_refl _)
  have hb3 := sumN_ge (n := p) (F := lckV p k f c n l t) (b := 0) (fun q hq => (hb1 q hq).2.2.1)
  have hb4 := sumN_le (n := p) (F := lckV p k f c n l t) (b := 10000) (fun q hq => (hb1 q hq).2.2.2)
  refine aEv_of okX7_help caX7_help (Nat.le_of_ble_eq_true rfl) ?_
  refine aGo okX7_help 1 (f' := (1, [some (.inr 0), some (.inl x), some (.inl y), none], [.inl x], _)) rfl ?_
  refine b0_ge (tgt := 11) okX7_help rfl rfl ⟨by omega, by omega⟩ (fun h1 => ?_) (fun h1 => ?_)
  · refine aGo okX7_help 2 (f' := (14, [some (.inr 0), some (.inl x), some (.inl y), none], [.inl 10, .inl x], _)) rfl ?_
    refine b_le (tgt := 24) okX7_help rfl rfl ⟨by omega, by omega⟩ ⟨by omega, by omega⟩ (fun h14 => ?_) (fun h14 => ?_)
    · refine aGo okX7_help 1 (f' := (25, [some (.inr 0), some (.inl x), some (.inl y), none], [.inl y], _)) rfl ?_
      refine b0_lt (tgt := 33) okX7_help rfl rfl ⟨by omega, by omega⟩ (fun h25 => ?_) (fun h25 => ?_)
      · refine aGo okX7_help 2 (f' := (36, [some (.inr 0), some (.inl x), some (.inl y), none], [.inl (-2), .inr 0], _)) rfl ?_
        exfalso; omega
      · refine aGo okX7_help 2 (f' := (30, [some (.inr 0), some (.inl x), some (.inl y), none], [.inl 1, .inl y], _)) rfl ?_
        refine b_le (tgt := 40) okX7_help rfl rfl ⟨by omega, by omega⟩ ⟨by omega, by omega⟩ (fun h30 => ?_) (fun h30 => ?_)
        · refine aGo okX7_help 3 (f' := (45, [some (.inr 0), some (.inl x), some (.inl y), none], [.inl x, .inr 103], _)) rfl ?_
          refine b_vE (as := [.inl x]) (rest := []) (k := 103) okX7_help rfl lkX7_217 caX2_mostGiven (Nat.le_of_ble_eq_true rfl) rfl (Nat.le_of_ble_eq_true rfl) rfl rfl rfl (c_mostGiven hm hp6 hsp hla (g := x) ⟨by omega, by omega⟩) ?_
          rintro _ _ ⟨rfl, sp2, la2, hsp2, hla2, rfl⟩
          refine aGo okX7_help 2 (f' := (50, [some (.inr 0), some (.inl x), some (.inl y), some (.inl (mnX (cuF p (sprV p k f c n l t) (lckV p k f c n l t) c x) (2 ^ p)))], [.inl y], _)) rfl ?_
          refine b0_ne (tgt := 55) okX7_help rfl rfl ⟨by omega, by omega⟩ (fun h50 => ?_) (fun h50 => ?_)
          · refine aGo okX7_help 3 (f' := (60, [some (.inr 0), some (.inl x), some (.inl y), some (.inl (mnX (cuF p (sprV p k f c n l t) (lckV p k f c n l t) c x) (2 ^ p)))], [.inr 103, .inl (mnX (cuF p (sprV p k f c n l t) (lckV p k f c n l t) c x) (2 ^ p))], _)) rfl ?_
            refine b_vE (as := []) (rest := [.inl (mnX (cuF p (sprV p k f c n l t) (lckV p k f c n l t) c x) (2 ^ p))]) (k := 103) okX7_help rfl lkX7_220 caX2_lackingOfAll (Nat.le_of_ble_eq_true rfl) rfl (Nat.le_of_ble_eq_true rfl) rfl rfl rfl (c_lackingOfAll hm) ?_
            rintro _ _ ⟨rfl, rfl⟩
            refine b_ne (tgt := 70) okX7_help rfl rfl ⟨by omega, by omega⟩ ⟨by omega, by omega⟩ (fun h63 => ?_) (fun h63 => ?_)
            · refine aGo okX7_help 1 (f' := (71, [some (.inr 0), some (.inl x), some (.inl y), some (.inl (mnX (cuF p (sprV p k f c n l t) (lckV p k f c n l t) c x) (2 ^ p)))], [.inl 0], _)) rfl ?_
              exact b_ret (v := (some (.inl 0))) ⟨rfl, Or.inl rfl⟩ ⟨congrArg (fun q : Int => (some (.inl q) : Option aV)) (by rw [if_neg (by omega), if_neg (by omega)]), by exact cSt_of hp6 hd9 hax (hm) hB (⟨hfs, hss, hsp2, hla2, hgr⟩) (hI) (hi01)⟩ rfl
            · refine aGo okX7_help 2 (f' := (71, [some (.inr 0), some (.inl x), some (.inl y), some (.inl (mnX (cuF p (sprV p k f c n l t) (lckV p k f c n l t) c x) (2 ^ p)))], [.inl 1], _)) rfl ?_
              exact b_ret (v := (some (.inl 1))) ⟨rfl, Or.inl rfl⟩ ⟨congrArg (fun q : Int => (some (.inl q) : Option aV)) (by rw [if_neg (by omega), if_pos (by omega)]), by exact cSt_of hp6 hd9 hax (hm) hB (⟨hfs, hss, hsp2, hla2, hgr⟩) (hI) (hi01)⟩ rfl
          · refine aGo okX7_help 1 (f' := (54, [some (.inr 0), some (.inl x), some (.inl y), some (.inl (mnX (cuF p (sprV p k f c n l t) (lckV p k f c n l t) c x) (2 ^ p)))], [.inl (mnX (cuF p (sprV p k f c n l t) (lckV p k f c n l t) c x) (2 ^ p))], _)) rfl ?_
            exact b_ret (v := (some (.inl (mnX (cuF p (sprV p k f c n l t) (lckV p k f c n l t) c x) (2 ^ p))))) ⟨rfl, Or.inl rfl⟩ ⟨congrArg (fun q : Int => (some (.inl q) : Option aV)) (by rw [if_pos (by omega)]), by exact cSt_of hp6 hd9 hax (hm) hB (⟨hfs, hss, hsp2, hla2, hgr⟩) (hI) (hi01)⟩ rfl
        · refine aGo okX7_help 2 (f' := (36, [some (.inr 0), some (.inl x), some (.inl y), none], [.inl (-2), .inr 0], _)) rfl ?_
          exfalso; omega
    · refine aGo okX7_help 2 (f' := (20, [some (.inr 0), some (.inl x), some (.inl y), none], [.inl (-6), .inr 0], _)) rfl ?_
      exfalso; omega
  · refine aGo okX7_help 2 (f' := (7, [some (.inr 0), some (.inl x), some (.inl y), none], [.inl (-4), .inr 0], _)) rfl ?_
    exfalso; omega
set_option maxRecDepth 100000 in
set_option maxHeartbeats 4000000 in
theorem k_net {imt : Int} {tc : Nat} {k f c n kp l : List Int} {p : Nat} {t d : Int} {to re : List Int} {tl : Nat} {tp : List Int} {I : moT} {C6 : List (Option aE)} {h : aH} {N : Nat} (hS : cSt imt tc k f c n kp l p t d to re tl tp I C6 h) {i : Nat} (hi : i < p) : aEv mX7_net 3 0 0 N [.inr 0, .inl (i : Int)] h (fun rv h2 => rv = some (.inl (net p l i)) ∧ cSt imt tc k f c n kp l p t d to re tl tp I C6 h2) := by
  obtain ⟨hp6, hd9, hax, nt, w, sh, wa, B, z0, fs, ss, sp, la, gr, B4, hm, hB, hms, hI, hi01, rfl⟩ := hS
  obtain ⟨htp, rtp, htl9, hto, rto, htc, hre⟩ := id hax
  obtain ⟨hfs, hss, hsp, hla, hgr⟩ := id hms
  obtain ⟨⟨hp7, hk, hf, hc, hn, hkp, hl, rk, rf, rc, rn, rkp, rl, ht0, ht1, hd0, hd1⟩, ⟨hnt, znt⟩, ⟨hw, zw, zwa⟩, ⟨hsh, zsh⟩⟩ := id hm
  refine aEv_of okX7_net caX7_net (Nat.le_of_ble_eq_true rfl) ?_
  refine aGo okX7_net 3 (f' := (5, [some (.inr 0), some (.inl (i : Int))], [.inl (i : Int), .inr 32], _)) rfl ?_
  refine b_vV (as := [.inl (i : Int)]) (rest := []) (k := 32) (.inl 1) okX7_net rfl lkX7_95 caX3_isThere (Nat.le_of_ble_eq_true rfl) rfl (Nat.le_of_ble_eq_true rfl) rfl rfl rfl (c_isThere_1_t (x := (i : Int)) hp7 (by omega) (by omega)) ?_
  refine b0_ne (tgt := 17) okX7_net rfl rfl ⟨by omega, by omega⟩ (fun h8 => ?_) (fun h8 => absurd h8 (by omega))
  refine aGo okX7_net 3 (f' := (22, [some (.inr 0), some (.inl (i : Int))], [.inl (i : Int), .inr 32], _)) rfl ?_
  refine b_vV (as := [.inl (i : Int)]) (rest := []) (k := 32) (.inl (nt.getD i 0)) okX7_net rfl lkX7_223 caX3_netOf (Nat.le_of_ble_eq_true rfl) rfl (Nat.le_of_ble_eq_true rfl) rfl rfl rfl (c_netOf_1 (i := i) (by first | omega | (simp only [List.length_set]; omega)) (by omega)) ?_
  exact b_ret (v := (some (.inl (nt.getD i 0)))) ⟨rfl, Or.inl rfl⟩ ⟨congrArg (fun q : Int => (some (.inl q) : Option aV)) (znt i hi), by exact cSt_of hp6 hd9 hax (hm) hB (hms) (hI) (hi01)⟩ rfl
set_option maxRecDepth 100000 in
set_option maxHeartbeats 4000000 in
theorem k_loans {imt : Int} {tc : Nat} {k f c n kp l : List Int} {p : Nat} {t d : Int} {to re : List Int} {tl : Nat} {tp : List Int} {I : moT} {C6 : List (Option aE)} {h : aH} {N : Nat} (hS : cSt imt tc k f c n kp l p t d to re tl tp I C6 h) {x : Int} (hx : 0 ≤ x ∧ x ≤ 1) : aEv mX7_loans 3 0 0 N [.inr 0, .inl x] h (fun rv h2 => rv = some (.inl (if x = 0 then sumN p (fun i => loansN p l i p) else (p : Int) - dpF p (net p l) (2 ^ p - 1) (2 ^ p - 1))) ∧ cSt imt tc k f c n kp l p t d to re tl tp I C6 h2) := by
  obtain ⟨hp6, hd9, hax, nt, w, sh, wa, B, z0, fs, ss, sp, la, gr, B4, hm, hB, hms, hI, hi01, rfl⟩ := hS
  obtain ⟨htp, rtp, htl9, hto, rto, htc, hre⟩ := id hax
  obtain ⟨hfs, hss, hsp, hla, hgr⟩ := id hms
  obtain ⟨⟨hp7, hk, hf, hc, hn, hkp, hl, rk, rf, rc, rn, rkp, rl, ht0, ht1, hd0, hd1⟩, ⟨hnt, znt⟩, ⟨hw, zw, zwa⟩, ⟨hsh, zsh⟩⟩ := id hm
  refine aEv_of okX7_loans caX7_loans (Nat.le_of_ble_eq_true rfl) ?_
  refine aGo okX7_loans 1 (f' := (1, [some (.inr 0), some (.inl x)], [.inl x], _)) rfl ?_
  refine b0_lt (tgt := 9) okX7_loans rfl rfl ⟨by omega, by omega⟩ (fun h1 => ?_) (fun h1 => ?_)
  · refine aGo okX7_loans 2 (f' := (12, [some (.inr 0), some (.inl x)], [.inl (-2), .inr 0], _)) rfl ?_
    exfalso; omega
  · refine aGo okX7_loans 2 (f' := (6, [some (.inr 0), some (.inl x)], [.inl 1, .inl x], _)) rfl ?_
    refine b_le (tgt := 16) okX7_loans rfl rfl ⟨by omega, by omega⟩ ⟨by omega, by omega⟩ (fun h6 => ?_) (fun h6 => ?_)
    · refine aGo okX7_loans 1 (f' := (17, [some (.inr 0), some (.inl x)], [.inl x], _)) rfl ?_
      refine b0_ne (tgt := 30) okX7_loans rfl rfl ⟨by omega, by omega⟩ (fun h17 => ?_) (fun h17 => ?_)
      · refine aGo okX7_loans 2 (f' := (34, [some (.inr 0), some (.inl x)], [.inr 103], _)) rfl ?_
        refine b_vE (as := []) (rest := []) (k := 103) okX7_loans rfl lkX7_229 caX2_fewestLoans (Nat.le_of_ble_eq_true rfl) rfl (Nat.le_of_ble_eq_true rfl) rfl rfl rfl (c_fewestLoans hm hp6 hgr) ?_
        rintro _ _ ⟨rfl, gr2, hgr2, rfl⟩
        exact b_ret (v := (some (.inl ((p : Int) - dpF p (net p l) (2 ^ p - 1) (2 ^ p - 1))))) ⟨rfl, Or.inl rfl⟩ ⟨congrArg (fun q : Int => (some (.inl q) : Option aV)) (by rw [if_neg (by omega)]), by exact cSt_of hp6 hd9 hax (hm) hB (⟨hfs, hss, hsp, hla, hgr2⟩) (hI) (hi01)⟩ rfl
      · refine aGo okX7_loans 2 (f' := (24, [some (.inr 0), some (.inl x)], [.inr 32], _)) rfl ?_
        refine b_vE (as := []) (rest := []) (k := 32) okX7_loans rfl lkX7_226 caX3_loansAboveNothing (Nat.le_of_ble_eq_true rfl) rfl (Nat.le_of_ble_eq_true rfl) rfl rfl rfl (c_loansAboveNothing_1 hp7 hl rl) ?_
        rintro _ _ ⟨rfl, rfl⟩
        refine aGo okX7_loans 1 (f' := (37, [some (.inr 0), some (.inl x)], [.inl (sumN p (fun i => loansN p l i p))], _)) rfl ?_
        exact b_ret (v := (some (.inl (sumN p (fun i => loansN p l i p))))) ⟨rfl, Or.inl rfl⟩ ⟨congrArg (fun q : Int => (some (.inl q) : Option aV)) (by rw [if_pos (by omega)]), by exact cSt_of hp6 hd9 hax (hm) hB (hms) (hI) (hi01)⟩ rfl
    · refine aGo okX7_loans 2 (f' := (12, [some (.inr 0), some (.inl x)], [.inl (-2), .inr 0], _)) rfl ?_
      exfalso; omega
set_option maxRecDepth 100000 in
set_option maxHeartbeats 4000000 in
theorem k_survey {imt : Int} {tc : Nat} {k f c n kp l : List Int} {p : Nat} {t d : Int} {to re : List Int} {tl : Nat} {tp : List Int} {I : moT} {C6 : List (Option aE)} {h : aH} {N : Nat} (hS : cSt imt tc k f c n kp l p t d to re tl tp I C6 h) {x : Int} (hx : 0 ≤ x ∧ x ≤ 35) : aEv mX7_survey 6 0 0 N [.inr 0, .inl x] h (fun rv h2 => rv = some (.inl (t - shr (p + 1) (k.set p 0) (f.set p 0) (c.set p x) t p)) ∧ cSt imt tc k f c n kp l p t d to re tl tp I C6 h2) := by
  obtain ⟨hp6, hd9, hax, nt, w, sh, wa, B, z0, fs, ss, sp, la, gr, B4, hm, hB, hms, hI, hi01, rfl⟩ := hS
  obtain ⟨htp, rtp, htl9, hto, rto, htc, hre⟩ := id hax
  obtain ⟨hfs, hss, hsp, hla, hgr⟩ := id hms
  obtain ⟨⟨hp7, hk, hf, hc, hn, hkp, hl, rk, rf, rc, rn, rkp, rl, ht0, ht1, hd0, hd1⟩, ⟨hnt, znt⟩, ⟨hw, zw, zwa⟩, ⟨hsh, zsh⟩⟩ := id hm
  refine aEv_of okX7_survey caX7_survey (Nat.le_of_ble_eq_true rfl) ?_
  refine aGo okX7_survey 1 (f' := (1, [some (.inr 0), some (.inl x)], [.inl x], _)) rfl ?_
  refine b_vS (as := [.inl x]) (rest := []) (.inl 1) okX7_survey rfl lkX7_134 caX7_isCell (Nat.le_of_ble_eq_true rfl) rfl (Nat.le_of_ble_eq_true rfl) rfl (c_isCell_t ⟨by omega, by omega⟩) ?_
  refine b0_ne (tgt := 13) okX7_survey rfl rfl ⟨by omega, by omega⟩ (fun h4 => ?_) (fun h4 => absurd h4 (by omega))
  refine aGo okX7_survey 3 (f' := (18, [some (.inr 0), some (.inl x)], [.inl x, .inr 97], _)) rfl ?_
  refine b_vE (as := [.inl x]) (rest := []) (k := 97) okX7_survey rfl lkX7_202 caX5_sharesBesideOneMoreIn (Nat.le_of_ble_eq_true rfl) rfl (Nat.le_of_ble_eq_true rfl) rfl rfl rfl (c_sharesBeside hm hB hp6 (v := x) (by omega) (by omega)) ?_
  rintro _ _ ⟨rfl, B2, hB2, rfl⟩
  exact b_ret (v := (some (.inl (t - shr (p + 1) (k.set p 0) (f.set p 0) (c.set p x) t p)))) ⟨rfl, Or.inl rfl⟩ ⟨congrArg (fun q : Int => (some (.inl q) : Option aV)) (rfl), by exact cSt_of hp6 hd9 hax (hm) hB2 (hms) (hI) (hi01)⟩ rfl
set_option maxRecDepth 100000 in
set_option maxHeartbeats 4000000 in
theorem k_bestSurvey {imt : Int} {tc : Nat} {k f c n kp l : List Int} {p : Nat} {t d : Int} {to re : List Int} {tl : Nat} {tp : List Int} {I : moT} {C6 : List (Option aE)} {h : aH} {N : Nat} (hS : cSt imt tc k f c n kp l p t d to re tl tp I C6 h)  : aEv mX7_bestSurvey 7 0 0 N [.inr 0] h (fun rv h2 => rv = some (.inl ((amy (fun (v : Nat) => t - shr (p + 1) (k.set p 0) (f.set p 0) (c.set p (v : Int)) t p) (0, -1) 36).1)) ∧ cSt imt tc k f c n kp l p t d to re tl tp I C6 h2) := by
  obtain ⟨hp6, hd9, hax, nt, w, sh, wa, B, z0, fs, ss, sp, la, gr, B4, hm, hB, hms, hI, hi01, rfl⟩ := hS
  obtain ⟨htp, rtp, htl9, hto, rto, htc, hre⟩ := id hax
  obtain ⟨hfs, hss, hsp, hla, hgr⟩ := id hms
  obtain ⟨⟨hp7, hk, hf, hc, hn, hkp, hl, rk, rf, rc, rn, rkp, rl, ht0, ht1, hd0, hd1⟩, ⟨hnt, znt⟩, ⟨hw, zw, zwa⟩, ⟨hsh, zsh⟩⟩ := id hm
  refine aEv_of okX7_bestSurvey caX7_bestSurvey (Nat.le_of_ble_eq_true rfl) ?_
  refine aGo okX7_bestSurvey 2 (f' := (4, [some (.inr 0)], [.inr 97], _)) rfl ?_
  refine b_vE (as := []) (rest := []) (k := 97) okX7_bestSurvey rfl lkX7_232 caX5_bestSurveyCell (Nat.le_of_ble_eq_true rfl) rfl (Nat.le_of_ble_eq_true rfl) rfl rfl rfl (c_bestSurveyCell hm hB hp6) ?_
  rintro _ _ ⟨rfl, B2, hB2, rfl⟩
  exact b_ret (v := (some (.inl ((amy (fun (v : Nat) => t - shr (p + 1) (k.set p 0) (f.set p 0) (c.set p (v : Int)) t p) (0, -1) 36).1)))) ⟨rfl, Or.inl rfl⟩ ⟨congrArg (fun q : Int => (some (.inl q) : Option aV)) (rfl), by exact cSt_of hp6 hd9 hax (hm) hB2 (hms) (hI) (hi01)⟩ rfl
set_option maxRecDepth 100000 in
set_option maxHeartbeats 4000000 in
theorem k_quarrel {imt : Int} {tc : Nat} {k f c n kp l : List Int} {p : Nat} {t d : Int} {to re : List Int} {tl : Nat} {tp : List Int} {I : moT} {C6 : List (Option aE)} {h : aH} {N : Nat} (hS : cSt imt tc k f c n kp l p t d to re tl tp I C6 h) {i j : Nat} {z u : Int} (hi : i < p) (hj : j < p) (hij : i ≠ j) (hz : 1 ≤ z ∧ z ≤ 10) (hu : 0 ≤ u ∧ u ≤ 1) : aEv mX7_quarrel 6 0 0 N [.inr 0, .inl (i : Int), .inl (j : Int), .inl z, .inl u] h (fun rv h2 => rv = some (.inl (if u = 0 ∨ (qcN c i j z 36).1 = -9 then (qcN c i j z 36).1 else shr p k f (c.set i (qcN c i j z 36).1) t i - shr p k f c t i)) ∧ cSt imt tc k f c n kp l p t d to re tl tp I C6 h2) := by
  obtain ⟨hp6, hd9, hax, nt, w, sh, wa, B, z0, fs, ss, sp, la, gr, B4, hm, hB, hms, hI, hi01, rfl⟩ := hS
  obtain ⟨htp, rtp, htl9, hto, rto, htc, hre⟩ := id hax
  obtain ⟨hfs, hss, hsp, hla, hgr⟩ := id hms
  obtain ⟨⟨hp7, hk, hf, hc, hn, hkp, hl, rk, rf, rc, rn, rkp, rl, ht0, ht1, hd0, hd1⟩, ⟨hnt, znt⟩, ⟨hw, zw, zwa⟩, ⟨hsh, zsh⟩⟩ := id hm
  have hq1 := qcN_in c i j z 36 (by omega)
  refine aEv_of okX7_quarrel caX7_quarrel (Nat.le_of_ble_eq_true rfl) ?_
  refine aGo okX7_quarrel 4 (f' := (6, [some (.inr 0), some (.inl (i : Int)), some (.inl (j : Int)), some (.inl z), some (.inl u), none], [.inl (j : Int), .inl (i : Int), .inr 32], _)) rfl ?_
  refine b_vV (as := [.inl (i : Int), .inl (j : Int)]) (rest := []) (k := 32) (.inl 1) okX7_quarrel rfl lkX7_126 caX3_areTwo (Nat.le_of_ble_eq_true rfl) rfl (Nat.le_of_ble_eq_true rfl) rfl rfl rfl (c_areTwo_1_t hp7 ⟨by omega, by omega⟩ ⟨by omega, by omega⟩ (by omega)) ?_
  refine b0_ne (tgt := 18) okX7_quarrel rfl rfl ⟨by omega, by omega⟩ (fun h9 => ?_) (fun h9 => absurd h9 (by omega))
  refine aGo okX7_quarrel 2 (f' := (20, [some (.inr 0), some (.inl (i : Int)), some (.inl (j : Int)), some (.inl z), some (.inl u), none], [.inl 1, .inl z], _)) rfl ?_
  refine b_ge (tgt := 30) okX7_quarrel rfl rfl ⟨by omega, by omega⟩ ⟨by omega, by omega⟩ (fun h20 => ?_) (fun h20 => ?_)
  · refine aGo okX7_quarrel 2 (f' := (33, [some (.inr 0), some (.inl (i : Int)), some (.inl (j : Int)), some (.inl z), some (.inl u), none], [.inl 10, .inl z], _)) rfl ?_
    refine b_le (tgt := 43) okX7_quarrel rfl rfl ⟨by omega, by omega⟩ ⟨by omega, by omega⟩ (fun h33 => ?_) (fun h33 => ?_)
    · refine aGo okX7_quarrel 1 (f' := (45, [some (.inr 0), some (.inl (i : Int)), some (.inl (j : Int)), some (.inl z), some (.inl u), none], [.inl u], _)) rfl ?_
      refine b0_lt (tgt := 54) okX7_quarrel rfl rfl ⟨by omega, by omega⟩ (fun h45 => ?_) (fun h45 => ?_)
      · refine aGo okX7_quarrel 2 (f' := (57, [some (.inr 0), some (.inl (i : Int)), some (.inl (j : Int)), some (.inl z), some (.inl u), none], [.inl (-2), .inr 0], _)) rfl ?_
        exfalso; omega
      · refine aGo okX7_quarrel 2 (f' := (51, [some (.inr 0), some (.inl (i : Int)), some (.inl (j : Int)), some (.inl z), some (.inl u), none], [.inl 1, .inl u], _)) rfl ?_
        refine b_le (tgt := 61) okX7_quarrel rfl rfl ⟨by omega, by omega⟩ ⟨by omega, by omega⟩ (fun h51 => ?_) (fun h51 => ?_)
        · refine aGo okX7_quarrel 5 (f' := (68, [some (.inr 0), some (.inl (i : Int)), some (.inl (j : Int)), some (.inl z), some (.inl u), none], [.inl z, .inl (j : Int), .inl (i : Int), .inr 97], _)) rfl ?_
          refine b_vE (as := [.inl (i : Int), .inl (j : Int), .inl z]) (rest := []) (k := 97) okX7_quarrel rfl lkX7_235 caX5_quarrelCell (Nat.le_of_ble_eq_true rfl) rfl (Nat.le_of_ble_eq_true rfl) rfl rfl rfl (c_quarrelCell hc rc (i := i) (g := j) (by omega) (by omega) (K := z) (by omega) (by omega)) ?_
          rintro _ _ ⟨rfl, rfl⟩
          refine aGo okX7_quarrel 2 (f' := (75, [some (.inr 0), some (.inl (i : Int)), some (.inl (j : Int)), some (.inl z), some (.inl u), some (.inl ((qcN c i j z 36).1))], [.inl u], _)) rfl ?_
          refine b0_eq (tgt := 85) okX7_quarrel rfl rfl ⟨by omega, by omega⟩ (fun h75 => ?_) (fun h75 => ?_)
          · refine aGo okX7_quarrel 1 (f' := (87, [some (.inr 0), some (.inl (i : Int)), some (.inl (j : Int)), some (.inl z), some (.inl u), some (.inl ((qcN c i j z 36).1))], [.inl ((qcN c i j z 36).1)], _)) rfl ?_
            exact b_ret (v := (some (.inl ((qcN c i j z 36).1)))) ⟨rfl, Or.inl rfl⟩ ⟨congrArg (fun q : Int => (some (.inl q) : Option aV)) (by rw [if_pos (by omega)]), by exact cSt_of hp6 hd9 hax (hm) hB (hms) (hI) (hi01)⟩ rfl
          · refine aGo okX7_quarrel 2 (f' := (82, [some (.inr 0), some (.inl (i : Int)), some (.inl (j : Int)), some (.inl z), some (.inl u), some (.inl ((qcN c i j z 36).1))], [.inl (-9), .inl ((qcN c i j z 36).1)], _)) rfl ?_
            refine b_ne (tgt := 88) okX7_quarrel rfl rfl ⟨by omega, by omega⟩ ⟨by omega, by omega⟩ (fun h82 => ?_) (fun h82 => ?_)
            · refine aGo okX7_quarrel 4 (f' := (95, [some (.inr 0), some (.inl (i : Int)), some (.inl (j : Int)), some (.inl z), some (.inl u), some (.inl ((qcN c i j z 36).1))], [.inl ((qcN c i j z 36).1), .inl (i : Int), .inr 97], _)) rfl ?_
              refine b_vE (as := [.inl (i : Int), .inl ((qcN c i j z 36).1)]) (rest := []) (k := 97) okX7_quarrel rfl lkX7_187 caX5_shareIn (Nat.le_of_ble_eq_true rfl) rfl (Nat.le_of_ble_eq_true rfl) rfl rfl rfl (c_shareIn hm hB (i := i) hi (v := ((qcN c i j z 36).1)) (by omega) (by omega)) ?_
              rintro _ _ ⟨rfl, B2, hB2, rfl⟩
              refine aGo okX7_quarrel 3 (f' := (103, [some (.inr 0), some (.inl (i : Int)), some (.inl (j : Int)), some (.inl z), some (.inl u), some (.inl ((qcN c i j z 36).1))], [.inl (i : Int), .inr 32, .inl (shr p k f (c.set i ((qcN c i j z 36).1)) t i)], _)) rfl ?_
              refine b_vV (as := [.inl (i : Int)]) (rest := [.inl (shr p k f (c.set i ((qcN c i j z 36).1)) t i)]) (k := 32) (.inl (sh.getD i 0)) okX7_quarrel rfl lkX7_117 caX3_shareOf (Nat.le_of_ble_eq_true rfl) rfl (Nat.le_of_ble_eq_true rfl) rfl rfl rfl (c_shareOf_1 (i := i) (by first | omega | (simp only [List.length_set]; omega)) (by omega)) ?_
              refine aGo okX7_quarrel 1 (f' := (107, [some (.inr 0), some (.inl (i : Int)), some (.inl (j : Int)), some (.inl z), some (.inl u), some (.inl ((qcN c i j z 36).1))], [.inl ((shr p k f (c.set i ((qcN c i j z 36).1)) t i) - (sh.getD i 0))], _)) rfl ?_
              exact b_ret (v := (some (.inl ((shr p k f (c.set i ((qcN c i j z 36).1)) t i) - (sh.getD i 0))))) ⟨rfl, Or.inl rfl⟩ ⟨congrArg (fun q : Int => (some (.inl q) : Option aV)) (by rw [if_neg (by omega), zsh i hi]), by exact cSt_of hp6 hd9 hax (hm) hB2 (hms) (hI) (hi01)⟩ rfl
            · refine aGo okX7_quarrel 1 (f' := (87, [some (.inr 0), some (.inl (i : Int)), some (.inl (j : Int)), some (.inl z), some (.inl u), some (.inl ((qcN c i j z 36).1))], [.inl ((qcN c i j z 36).1)], _)) rfl ?_
              exact b_ret (v := (some (.inl ((qcN c i j z 36).1)))) ⟨rfl, Or.inl rfl⟩ ⟨congrArg (fun q : Int => (some (.inl q) : Option aV)) (by rw [if_pos (by omega)]), by exact cSt_of hp6 hd9 hax (hm) hB (hms) (hI) (hi01)⟩ rfl
        · refine aGo okX7_quarrel 2 (f' := (57, [some (.inr 0), some (.inl (i : Int)), some (.inl (j : Int)), some (.inl z), some (.inl u), none], [.inl (-2), .inr 0], _)) rfl ?_
          exfalso; omega
    · refine aGo okX7_quarrel 2 (f' := (39, [some (.inr 0), some (.inl (i : Int)), some (.inl (j : Int)), some (.inl z), some (.inl u), none], [.inl (-6), .inr 0], _)) rfl ?_
      exfalso; omega
  · refine aGo okX7_quarrel 2 (f' := (26, [some (.inr 0), some (.inl (i : Int)), some (.inl (j : Int)), some (.inl z), some (.inl u), none], [.inl (-4), .inr 0], _)) rfl ?_
    exfalso; omega
set_option maxRecDepth 100000 in
set_option maxHeartbeats 4000000 in
theorem k_two {imt : Int} {tc : Nat} {k f c n kp l : List Int} {p : Nat} {t d : Int} {to re : List Int} {tl : Nat} {tp : List Int} {I : moT} {C6 : List (Option aE)} {h : aH} {N : Nat} (hS : cSt imt tc k f c n kp l p t d to re tl tp I C6 h) {i j : Nat} (hi : i < p) (hj : j < p) (hij : i ≠ j) : aEv mX7_two 7 0 0 N [.inr 0, .inl (i : Int), .inl (j : Int)] h (fun rv h2 => rv = some (.inl (sres (firstQ (stM (chS p k f c t i j i) (chS p k f c t i j j)) 25 0))) ∧ cSt imt tc k f c n kp l p t d to re tl tp I C6 h2) := by
  obtain ⟨hp6, hd9, hax, nt, w, sh, wa, B, z0, fs, ss, sp, la, gr, B4, hm, hB, hms, hI, hi01, rfl⟩ := hS
  obtain ⟨htp, rtp, htl9, hto, rto, htc, hre⟩ := id hax
  obtain ⟨hfs, hss, hsp, hla, hgr⟩ := id hms
  obtain ⟨⟨hp7, hk, hf, hc, hn, hkp, hl, rk, rf, rc, rn, rkp, rl, ht0, ht1, hd0, hd1⟩, ⟨hnt, znt⟩, ⟨hw, zw, zwa⟩, ⟨hsh, zsh⟩⟩ := id hm
  refine aEv_of okX7_two caX7_two (Nat.le_of_ble_eq_true rfl) ?_
  refine aGo okX7_two 4 (f' := (6, [some (.inr 0), some (.inl (i : Int)), some (.inl (j : Int))], [.inl (j : Int), .inl (i : Int), .inr 32], _)) rfl ?_
  refine b_vV (as := [.inl (i : Int), .inl (j : Int)]) (rest := []) (k := 32) (.inl 1) okX7_two rfl lkX7_126 caX3_areTwo (Nat.le_of_ble_eq_true rfl) rfl (Nat.le_of_ble_eq_true rfl) rfl rfl rfl (c_areTwo_1_t hp7 ⟨by omega, by omega⟩ ⟨by omega, by omega⟩ (by omega)) ?_
  refine b0_ne (tgt := 18) okX7_two rfl rfl ⟨by omega, by omega⟩ (fun h9 => ?_) (fun h9 => absurd h9 (by omega))
  refine aGo okX7_two 4 (f' := (24, [some (.inr 0), some (.inl (i : Int)), some (.inl (j : Int))], [.inl (j : Int), .inl (i : Int), .inr 97], _)) rfl ?_
  refine b_vE (as := [.inl (i : Int), .inl (j : Int)]) (rest := []) (k := 97) okX7_two rfl lkX7_239 caX5_firstSteadyPair (Nat.le_of_ble_eq_true rfl) rfl (Nat.le_of_ble_eq_true rfl) rfl rfl rfl (c_firstSteadyPair hm hB (a := i) (b := j) (by omega) (by omega) hij hfs hss) ?_
  rintro _ _ ⟨rfl, B2, fs2, ss2, hB2, hfs2, hss2, rfl⟩
  exact b_ret (v := (some (.inl (sres (firstQ (stM (chS p k f c t i j i) (chS p k f c t i j j)) 25 0))))) ⟨rfl, Or.inl rfl⟩ ⟨congrArg (fun q : Int => (some (.inl q) : Option aV)) (rfl), by exact cSt_of hp6 hd9 hax (hm) hB2 (⟨hfs2, hss2, hsp, hla, hgr⟩) (hI) (hi01)⟩ rfl
set_option maxRecDepth 100000 in
set_option maxHeartbeats 4000000 in
theorem k_crowd {imt : Int} {tc : Nat} {k f c n kp l : List Int} {p : Nat} {t d : Int} {to re : List Int} {tl : Nat} {tp : List Int} {I : moT} {C6 : List (Option aE)} {h : aH} {N : Nat} (hS : cSt imt tc k f c n kp l p t d to re tl tp I C6 h) {x : Int} (hx : 0 ≤ x ∧ x ≤ 2) : aEv mX7_crowd 5 0 0 N [.inr 0, .inl x] h (fun rv h2 => rv = some (.inl (([if (npO c p p).1 = -9 then -9 else (npO c p p).2, msO c p p, (npO c p p).1].getD x.toNat 0))) ∧ cSt imt tc k f c n kp l p t d to re tl tp I C6 h2) := by
  obtain ⟨hp6, hd9, hax, nt, w, sh, wa, B, z0, fs, ss, sp, la, gr, B4, hm, hB, hms, hI, hi01, rfl⟩ := hS
  obtain ⟨htp, rtp, htl9, hto, rto, htc, hre⟩ := id hax
  obtain ⟨hfs, hss, hsp, hla, hgr⟩ := id hms
  obtain ⟨⟨hp7, hk, hf, hc, hn, hkp, hl, rk, rf, rc, rn, rkp, rl, ht0, ht1, hd0, hd1⟩, ⟨hnt, znt⟩, ⟨hw, zw, zwa⟩, ⟨hsh, zsh⟩⟩ := id hm
  refine aEv_of okX7_crowd caX7_crowd (Nat.le_of_ble_eq_true rfl) ?_
  refine aGo okX7_crowd 1 (f' := (1, [some (.inr 0), some (.inl x)], [.inl x], _)) rfl ?_
  by_cases hs1 : 0 ≤ x ∧ x ≤ 2
  · have hsx := (show x = 0 ∨ x = 1 ∨ x = 2 from by omega)
    rcases hsx with hsw | hsw | hsw
    · refine b_cast (f' := (1, [some (.inr 0), some (.inl x)], [.inl 0], [(mainSeg imt (tc : Int)), (moSeg 32 k f c n kp l nt w sh (p : Int) t d wa), B, (miscSeg z0 fs ss sp la gr (tl : Int) tp), B4, (auxSeg to re), C6])) (congrArg (fun zz : Int => ((1, [some (.inr 0), some (.inl x)], .inl zz :: [], [(mainSeg imt (tc : Int)), (moSeg 32 k f c n kp l nt w sh (p : Int) t d wa), B, (miscSeg z0 fs ss sp la gr (tl : Int) tp), B4, (auxSeg to re), C6]) : aF)) hsw) ?_
      refine b_swIn (tgt := 28) okX7_crowd rfl ⟨by decide, by decide⟩ (by decide) (by decide) rfl rfl ?_
      refine aGo okX7_crowd 2 (f' := (32, [some (.inr 0), some (.inl x)], [.inr 32], _)) rfl ?_
      by_cases hc32 : (npO c p p).1 = -9
      · refine b_vE (as := []) (rest := []) (k := 32) okX7_crowd rfl lkX7_242 caX3_leastSteps (Nat.le_of_ble_eq_true rfl) rfl (Nat.le_of_ble_eq_true rfl) rfl rfl rfl (c_leastSteps_1_f hp7 hc rc hc32) ?_
        rintro _ _ ⟨rfl, rfl⟩
        exact b_ret (v := (some (.inl (-9)))) ⟨rfl, Or.inl rfl⟩ ⟨congrArg (fun q : Int => (some (.inl q) : Option aV)) (by rw [hsw]; exact (if_pos hc32).symm), by exact cSt_of hp6 hd9 hax (hm) hB (hms) (hI) (hi01)⟩ rfl
      · obtain ⟨a9, b9, g1, g2, g3, g4⟩ := npOK_2 (npO_ok p (Nat.le_refl p)) hc32
        refine b_vE (as := []) (rest := []) (k := 32) okX7_crowd rfl lkX7_242 caX3_leastSteps (Nat.le_of_ble_eq_true rfl) rfl (Nat.le_of_ble_eq_true rfl) rfl rfl rfl (c_leastSteps_1_t hp7 hc rc (a := a9) (b := b9) (by omega) (by omega) g3) ?_
        rintro _ _ ⟨rfl, rfl⟩
        exact b_ret (v := (some (.inl (stp (c.getD a9 0) (c.getD b9 0))))) ⟨rfl, Or.inl rfl⟩ ⟨congrArg (fun q : Int => (some (.inl q) : Option aV)) (by rw [hsw]; exact ((if_neg hc32).trans g4).symm), by exact cSt_of hp6 hd9 hax (hm) hB (hms) (hI) (hi01)⟩ rfl
    · refine b_cast (f' := (1, [some (.inr 0), some (.inl x)], [.inl 1], [(mainSeg imt (tc : Int)), (moSeg 32 k f c n kp l nt w sh (p : Int) t d wa), B, (miscSeg z0 fs ss sp la gr (tl : Int) tp), B4, (auxSeg to re), C6])) (congrArg (fun zz : Int => ((1, [some (.inr 0), some (.inl x)], .inl zz :: [], [(mainSeg imt (tc : Int)), (moSeg 32 k f c n kp l nt w sh (p : Int) t d wa), B, (miscSeg z0 fs ss sp la gr (tl : Int) tp), B4, (auxSeg to re), C6]) : aF)) hsw) ?_
      refine b_swIn (tgt := 36) okX7_crowd rfl ⟨by decide, by decide⟩ (by decide) (by decide) rfl rfl ?_
      refine aGo okX7_crowd 2 (f' := (40, [some (.inr 0), some (.inl x)], [.inr 32], _)) rfl ?_
      refine b_vE (as := []) (rest := []) (k := 32) okX7_crowd rfl lkX7_245 caX3_mostSteps (Nat.le_of_ble_eq_true rfl) rfl (Nat.le_of_ble_eq_true rfl) rfl rfl rfl (c_mostSteps_1 hp7 hc rc) ?_
      rintro _ _ ⟨rfl, rfl⟩
      exact b_ret (v := (some (.inl (msO c p p)))) ⟨rfl, Or.inl rfl⟩ ⟨congrArg (fun q : Int => (some (.inl q) : Option aV)) (by rw [hsw]; exact rfl), by exact cSt_of hp6 hd9 hax (hm) hB (hms) (hI) (hi01)⟩ rfl
    · refine b_cast (f' := (1, [some (.inr 0), some (.inl x)], [.inl 2], [(mainSeg imt (tc : Int)), (moSeg 32 k f c n kp l nt w sh (p : Int) t d wa), B, (miscSeg z0 fs ss sp la gr (tl : Int) tp), B4, (auxSeg to re), C6])) (congrArg (fun zz : Int => ((1, [some (.inr 0), some (.inl x)], .inl zz :: [], [(mainSeg imt (tc : Int)), (moSeg 32 k f c n kp l nt w sh (p : Int) t d wa), B, (miscSeg z0 fs ss sp la gr (tl : Int) tp), B4, (auxSeg to re), C6]) : aF)) hsw) ?_
      refine b_swIn (tgt := 44) okX7_crowd rfl ⟨by decide, by decide⟩ (by decide) (by decide) rfl rfl ?_
      refine aGo okX7_crowd 2 (f' := (48, [some (.inr 0), some (.inl x)], [.inr 32], _)) rfl ?_
      refine b_vE (as := []) (rest := []) (k := 32) okX7_crowd rfl lkX7_248 caX3_nearestPair (Nat.le_of_ble_eq_true rfl) rfl (Nat.le_of_ble_eq_true rfl) rfl rfl rfl (c_nearestPair_1 hp7 hc rc) ?_
      rintro _ _ ⟨rfl, rfl⟩
      exact b_ret (v := (some (.inl ((npO c p p).1)))) ⟨rfl, Or.inl rfl⟩ ⟨congrArg (fun q : Int => (some (.inl q) : Option aV)) (by rw [hsw]; exact rfl), by exact cSt_of hp6 hd9 hax (hm) hB (hms) (hI) (hi01)⟩ rfl
  · refine b_swOut (tgt := 52) okX7_crowd rfl ⟨by omega, by omega⟩ (by omega) rfl ?_
    refine aGo okX7_crowd 2 (f' := (55, [some (.inr 0), some (.inl x)], [.inl (-2), .inr 0], _)) rfl ?_
    exfalso; omega
set_option maxRecDepth 100000 in
set_option maxHeartbeats 4000000 in
theorem k_easter {imt : Int} {tc : Nat} {k f c n kp l : List Int} {p : Nat} {t d : Int} {to re : List Int} {tl : Nat} {tp : List Int} {I : moT} {C6 : List (Option aE)} {h : aH} {N : Nat} (hS : cSt imt tc k f c n kp l p t d to re tl tp I C6 h) {i j m : Nat} (hi : i < p) (hj : j < p) (hij : i ≠ j) (hm0 : m ≤ 99) : aEv mX7_easter 6 0 0 N [.inr 0, .inl (i : Int), .inl (j : Int), .inl (m : Int)] h (fun rv h2 => rv = some (.inl ((kpE p k f c n l t d i j kp m).getD j 0)) ∧ cSt imt tc k f c n kp l p t d to re tl tp I C6 h2) := by
  obtain ⟨hp6, hd9, hax, nt, w, sh, wa, B, z0, fs, ss, sp, la, gr, B4, hm, hB, hms, hI, hi01, rfl⟩ := hS
  obtain ⟨htp, rtp, htl9, hto, rto, htc, hre⟩ := id hax
  obtain ⟨hfs, hss, hsp, hla, hgr⟩ := id hms
  obtain ⟨⟨hp7, hk, hf, hc, hn, hkp, hl, rk, rf, rc, rn, rkp, rl, ht0, ht1, hd0, hd1⟩, ⟨hnt, znt⟩, ⟨hw, zw, zwa⟩, ⟨hsh, zsh⟩⟩ := id hm
  refine aEv_of okX7_easter caX7_easter (Nat.le_of_ble_eq_true rfl) ?_
  refine aGo okX7_easter 4 (f' := (6, [some (.inr 0), some (.inl (i : Int)), some (.inl (j : Int)), some (.inl (m : Int))], [.inl (j : Int), .inl (i : Int), .inr 32], _)) rfl ?_
  refine b_vV (as := [.inl (i : Int), .inl (j : Int)]) (rest := []) (k := 32) (.inl 1) okX7_easter rfl lkX7_126 caX3_areTwo (Nat.le_of_ble_eq_true rfl) rfl (Nat.le_of_ble_eq_true rfl) rfl rfl rfl (c_areTwo_1_t hp7 ⟨by omega, by omega⟩ ⟨by omega, by omega⟩ (by omega)) ?_
  refine b0_ne (tgt := 18) okX7_easter rfl rfl ⟨by omega, by omega⟩ (fun h9 => ?_) (fun h9 => absurd h9 (by omega))
  refine aGo okX7_easter 1 (f' := (19, [some (.inr 0), some (.inl (i : Int)), some (.inl (j : Int)), some (.inl (m : Int))], [.inl (m : Int)], _)) rfl ?_
  refine b0_ge (tgt := 29) okX7_easter rfl rfl ⟨by omega, by omega⟩ (fun h19 => ?_) (fun h19 => ?_)
  · refine aGo okX7_easter 2 (f' := (32, [some (.inr 0), some (.inl (i : Int)), some (.inl (j : Int)), some (.inl (m : Int))], [.inl 99, .inl (m : Int)], _)) rfl ?_
    refine b_le (tgt := 42) okX7_easter rfl rfl ⟨by omega, by omega⟩ ⟨by omega, by omega⟩ (fun h32 => ?_) (fun h32 => ?_)
    · refine aGo okX7_easter 5 (f' := (49, [some (.inr 0), some (.inl (i : Int)), some (.inl (j : Int)), some (.inl (m : Int))], [.inl (m : Int), .inl (j : Int), .inl (i : Int), .inr 96], _)) rfl ?_
      refine b_vE (as := [.inl (i : Int), .inl (j : Int), .inl (m : Int)]) (rest := []) (k := 96) okX7_easter rfl lkX7_254 caX0_keptAfterVisits (Nat.le_of_ble_eq_true rfl) rfl (Nat.le_of_ble_eq_true rfl) rfl rfl rfl (c_keptAfterVisits hm hB (i := i) (g := j) (m := m) (by omega) (by omega) (by omega)) ?_
      rintro _ _ ⟨rfl, B2, hB2, rfl⟩
      exact b_ret (v := (some (.inl ((kpE p k f c n l t d i j kp m).getD j 0)))) ⟨rfl, Or.inl rfl⟩ ⟨congrArg (fun q : Int => (some (.inl q) : Option aV)) (rfl), by exact cSt_of hp6 hd9 hax (hm) hB2 (hms) (hI) (hi01)⟩ rfl
    · refine aGo okX7_easter 2 (f' := (38, [some (.inr 0), some (.inl (i : Int)), some (.inl (j : Int)), some (.inl (m : Int))], [.inl (-6), .inr 0], _)) rfl ?_
      exfalso; omega
  · refine aGo okX7_easter 2 (f' := (25, [some (.inr 0), some (.inl (i : Int)), some (.inl (j : Int)), some (.inl (m : Int))], [.inl (-4), .inr 0], _)) rfl ?_
    exfalso; omega
set_option maxRecDepth 100000 in
set_option maxHeartbeats 4000000 in
theorem k_whatIs {imt : Int} {tc : Nat} {k f c n kp l : List Int} {p : Nat} {t d : Int} {to re : List Int} {tl : Nat} {tp : List Int} {I : moT} {C6 : List (Option aE)} {h : aH} {N : Nat} (hS : cSt imt tc k f c n kp l p t d to re tl tp I C6 h) {i : Nat} {y : Int} (hi : i < p) (hy : 0 ≤ y ∧ y ≤ 1) (htcp : tc = p) : aEv mX7_whatIs 6 0 0 N [.inr 0, .inl (i : Int), .inl y] h (fun rv h2 => rv = some (.inl (if y = 0 then bitsN 6 (fun (v : Nat) => tldB p (fun q => shr p (k.set i (v : Int)) f c t q) to) else bitsN 10 (fun (v : Nat) => tldB p (fun q => shr p k (f.set i (v : Int)) c t q) to))) ∧ cSt imt tc k f c n kp l p t d to re tl tp I C6 h2) := by
  obtain ⟨hp6, hd9, hax, nt, w, sh, wa, B, z0, fs, ss, sp, la, gr, B4, hm, hB, hms, hI, hi01, rfl⟩ := hS
  obtain ⟨htp, rtp, htl9, hto, rto, htc, hre⟩ := id hax
  obtain ⟨hfs, hss, hsp, hla, hgr⟩ := id hms
  obtain ⟨⟨hp7, hk, hf, hc, hn, hkp, hl, rk, rf, rc, rn, rkp, rl, ht0, ht1, hd0, hd1⟩, ⟨hnt, znt⟩, ⟨hw, zw, zwa⟩, ⟨hsh, zsh⟩⟩ := id hm
  refine aEv_of okX7_whatIs caX7_whatIs (Nat.le_of_ble_eq_true rfl) ?_
  refine aGo okX7_whatIs 3 (f' := (5, [some (.inr 0), some (.inl (i : Int)), some (.inl y)], [.inl (i : Int), .inr 32], _)) rfl ?_
  refine b_vV (as := [.inl (i : Int)]) (rest := []) (k := 32) (.inl 1) okX7_whatIs rfl lkX7_95 caX3_isThere (Nat.le_of_ble_eq_true rfl) rfl (Nat.le_of_ble_eq_true rfl) rfl rfl rfl (c_isThere_1_t (x := (i : Int)) hp7 (by omega) (by omega)) ?_
  refine b0_ne (tgt := 17) okX7_whatIs rfl rfl ⟨by omega, by omega⟩ (fun h8 => ?_) (fun h8 => absurd h8 (by omega))
  refine aGo okX7_whatIs 1 (f' := (18, [some (.inr 0), some (.inl (i : Int)), some (.inl y)], [.inl y], _)) rfl ?_
  refine b0_lt (tgt := 26) okX7_whatIs rfl rfl ⟨by omega, by omega⟩ (fun h18 => ?_) (fun h18 => ?_)
  · refine aGo okX7_whatIs 2 (f' := (29, [some (.inr 0), some (.inl (i : Int)), some (.inl y)], [.inl (-2), .inr 0], _)) rfl ?_
    exfalso; omega
  · refine aGo okX7_whatIs 2 (f' := (23, [some (.inr 0), some (.inl (i : Int)), some (.inl y)], [.inl 1, .inl y], _)) rfl ?_
    refine b_le (tgt := 33) okX7_whatIs rfl rfl ⟨by omega, by omega⟩ ⟨by omega, by omega⟩ (fun h23 => ?_) (fun h23 => ?_)
    · refine aGo okX7_whatIs 4 (f' := (41, [some (.inr 0), some (.inl (i : Int)), some (.inl y)], [.inr 32, .inl (tc : Int)], _)) rfl ?_
      refine b_vV (as := []) (rest := [.inl (tc : Int)]) (k := 32) (.inl (p : Int)) okX7_whatIs rfl lkX7_199 caX3_people (Nat.le_of_ble_eq_true rfl) rfl (Nat.le_of_ble_eq_true rfl) rfl rfl rfl (c_people_1) ?_
      refine b_eq (tgt := 54) okX7_whatIs rfl rfl ⟨by omega, by omega⟩ ⟨by omega, by omega⟩ (fun h44 => ?_) (fun h44 => ?_)
      · refine aGo okX7_whatIs 1 (f' := (55, [some (.inr 0), some (.inl (i : Int)), some (.inl y)], [.inl y], _)) rfl ?_
        refine b0_ne (tgt := 73) okX7_whatIs rfl rfl ⟨by omega, by omega⟩ (fun h55 => ?_) (fun h55 => ?_)
        · refine aGo okX7_whatIs 5 (f' := (82, [some (.inr 0), some (.inl (i : Int)), some (.inl y)], [.inr 160, .inl (i : Int), .inr 97], _)) rfl ?_
          refine b_vE (as := [.inl (i : Int), .inr 160]) (rest := []) (k := 97) okX7_whatIs rfl lkX7_261 caX5_figuresTold (Nat.le_of_ble_eq_true rfl) rfl (Nat.le_of_ble_eq_true rfl) rfl rfl rfl (c_figuresTold hm hB (i := i) (by omega) hto rto) ?_
          rintro _ _ ⟨rfl, B2, hB2, rfl⟩
          exact b_ret (v := (some (.inl (bitsN 10 (fun (v : Nat) => tldB p (fun q => shr p k (f.set i (v : Int)) c t q) to))))) ⟨rfl, Or.inl rfl⟩ ⟨congrArg (fun q : Int => (some (.inl q) : Option aV)) (by rw [if_neg (by omega)]), by exact cSt_of hp6 hd9 hax (hm) hB2 (hms) (hI) (hi01)⟩ rfl
        · refine aGo okX7_whatIs 5 (f' := (67, [some (.inr 0), some (.inl (i : Int)), some (.inl y)], [.inr 160, .inl (i : Int), .inr 97], _)) rfl ?_
          refine b_vE (as := [.inl (i : Int), .inr 160]) (rest := []) (k := 97) okX7_whatIs rfl lkX7_257 caX5_kindsTold (Nat.le_of_ble_eq_true rfl) rfl (Nat.le_of_ble_eq_true rfl) rfl rfl rfl (c_kindsTold hm hB (i := i) (by omega) hto rto) ?_
          rintro _ _ ⟨rfl, B2, hB2, rfl⟩
          refine aGo okX7_whatIs 1 (f' := (85, [some (.inr 0), some (.inl (i : Int)), some (.inl y)], [.inl (bitsN 6 (fun (v : Nat) => tldB p (fun q => shr p (k.set i (v : Int)) f c t q) to))], _)) rfl ?_
          exact b_ret (v := (some (.inl (bitsN 6 (fun (v : Nat) => tldB p (fun q => shr p (k.set i (v : Int)) f c t q) to))))) ⟨rfl, Or.inl rfl⟩ ⟨congrArg (fun q : Int => (some (.inl q) : Option aV)) (by rw [if_pos (by omega)]), by exact cSt_of hp6 hd9 hax (hm) hB2 (hms) (hI) (hi01)⟩ rfl
      · refine aGo okX7_whatIs 2 (f' := (50, [some (.inr 0), some (.inl (i : Int)), some (.inl y)], [.inl (-3), .inr 0], _)) rfl ?_
        exfalso; omega
    · refine aGo okX7_whatIs 2 (f' := (29, [some (.inr 0), some (.inl (i : Int)), some (.inl y)], [.inl (-2), .inr 0], _)) rfl ?_
      exfalso; omega
set_option maxRecDepth 100000 in
set_option maxHeartbeats 4000000 in
theorem k_row {imt : Int} {tc : Nat} {k f c n kp l : List Int} {p : Nat} {t d : Int} {to re : List Int} {tl : Nat} {tp : List Int} {I : moT} {C6 : List (Option aE)} {h : aH} {N : Nat} (hS : cSt imt tc k f c n kp l p t d to re tl tp I C6 h) {x : Int} (hx : 0 ≤ x ∧ x ≤ 99) (htc1 : tc < 12) : aEv mX7_row 2 0 0 N [.inr 0, .inl x] h (fun rv h2 => rv = some (.inl (((tc : Int) + 1))) ∧ cSt imt (tc + 1) k f c n kp l p t d (to.set tc x) re tl tp I C6 h2) := by
  obtain ⟨hp6, hd9, hax, nt, w, sh, wa, B, z0, fs, ss, sp, la, gr, B4, hm, hB, hms, hI, hi01, rfl⟩ := hS
  obtain ⟨htp, rtp, htl9, hto, rto, htc, hre⟩ := id hax
  obtain ⟨hfs, hss, hsp, hla, hgr⟩ := id hms
  obtain ⟨⟨hp7, hk, hf, hc, hn, hkp, hl, rk, rf, rc, rn, rkp, rl, ht0, ht1, hd0, hd1⟩, ⟨hnt, znt⟩, ⟨hw, zw, zwa⟩, ⟨hsh, zsh⟩⟩ := id hm
  refine aEv_of okX7_row caX7_row (Nat.le_of_ble_eq_true rfl) ?_
  refine aGo okX7_row 1 (f' := (1, [some (.inr 0), some (.inl x)], [.inl x], _)) rfl ?_
  refine b0_ge (tgt := 11) okX7_row rfl rfl ⟨by omega, by omega⟩ (fun h1 => ?_) (fun h1 => ?_)
  · refine aGo okX7_row 2 (f' := (14, [some (.inr 0), some (.inl x)], [.inl 99, .inl x], _)) rfl ?_
    refine b_gt (tgt := 26) okX7_row rfl rfl ⟨by omega, by omega⟩ ⟨by omega, by omega⟩ (fun h14 => ?_) (fun h14 => ?_)
    · refine aGo okX7_row 2 (f' := (29, [some (.inr 0), some (.inl x)], [.inl (-6), .inr 0], _)) rfl ?_
      exfalso; omega
    · refine aGo okX7_row 3 (f' := (23, [some (.inr 0), some (.inl x)], [.inl 12, .inl (tc : Int)], _)) rfl ?_
      refine b_lt (tgt := 33) okX7_row rfl rfl ⟨by omega, by omega⟩ ⟨by omega, by omega⟩ (fun h23 => ?_) (fun h23 => ?_)
      · refine aGo okX7_row 5 (f' := (42, [some (.inr 0), some (.inl x)], [.inl x, .inl (tc : Int), .inr 160], _)) rfl ?_
        refine b_vN (as := [.inl (tc : Int), .inl x]) (rest := []) (k := 160) okX7_row rfl lkX7_264 caX4_put (Nat.le_of_ble_eq_true rfl) rfl (Nat.le_of_ble_eq_true rfl) rfl rfl rfl (c_put (i := tc) rfl rfl (by first | omega | (simp only [List.length_set]; omega)) (by first | omega | (simp only [List.length_set]; omega)) x) ?_
        refine b_cast (f' := (45, [some (.inr 0), some (.inl x)], [], [(mainSeg imt (tc : Int)), (moSeg 32 k f c n kp l nt w sh (p : Int) t d wa), B, (miscSeg z0 fs ss sp la gr (tl : Int) tp), B4, (auxSeg (to.set tc x) re), C6])) rfl ?_
        refine aGo okX7_row 8 (f' := (59, [some (.inr 0), some (.inl x)], [.inl ((tc : Int) + 1)], [(mainSeg imt ((tc : Int) + 1)), (moSeg 32 k f c n kp l nt w sh (p : Int) t d wa), B, (miscSeg z0 fs ss sp la gr (tl : Int) tp), B4, (auxSeg (to.set tc x) re), C6])) rfl ?_
        exact b_ret (v := (some (.inl ((tc : Int) + 1)))) ⟨rfl, Or.inl rfl⟩ ⟨congrArg (fun q : Int => (some (.inl q) : Option aV)) (rfl), by exact cSt_of hp6 hd9 ⟨htp, rtp, htl9, by rw [List.length_set]; exact hto, rng_set rto (by omega) (by omega), by omega, hre⟩ (hm) hB (hms) (hI) (hi01)⟩ rfl
      · refine aGo okX7_row 2 (f' := (29, [some (.inr 0), some (.inl x)], [.inl (-6), .inr 0], _)) rfl ?_
        exfalso; omega
  · refine aGo okX7_row 2 (f' := (7, [some (.inr 0), some (.inl x)], [.inl (-4), .inr 0], _)) rfl ?_
    exfalso; omega
set_option maxRecDepth 100000 in
set_option maxHeartbeats 4000000 in
theorem k_judge {imt : Int} {tc : Nat} {k f c n kp l : List Int} {p : Nat} {t d : Int} {to re : List Int} {tl : Nat} {tp : List Int} {I : moT} {C6 : List (Option aE)} {h : aH} {N : Nat} (hS : cSt imt tc k f c n kp l p t d to re tl tp I C6 h) {i : Nat} (hi : i < p) : aEv mX7_judge 4 0 0 N [.inr 0, .inl (i : Int)] h (fun rv h2 => rv = some (.inl (firstQ (fun j => !decide (min ((dayIt p (hasM p k f c l t) n j kp).getD i 0) 99 = to.getD j 0)) tc 0)) ∧ cSt imt 0 k f c n kp l p t d to re tl tp I C6 h2) := by
  obtain ⟨hp6, hd9, hax, nt, w, sh, wa, B, z0, fs, ss, sp, la, gr, B4, hm, hB, hms, hI, hi01, rfl⟩ := hS
  obtain ⟨htp, rtp, htl9, hto, rto, htc, hre⟩ := id hax
  obtain ⟨hfs, hss, hsp, hla, hgr⟩ := id hms
  obtain ⟨⟨hp7, hk, hf, hc, hn, hkp, hl, rk, rf, rc, rn, rkp, rl, ht0, ht1, hd0, hd1⟩, ⟨hnt, znt⟩, ⟨hw, zw, zwa⟩, ⟨hsh, zsh⟩⟩ := id hm
  refine aEv_of okX7_judge caX7_judge (Nat.le_of_ble_eq_true rfl) ?_
  refine aGo okX7_judge 3 (f' := (5, [some (.inr 0), some (.inl (i : Int)), none], [.inl (i : Int), .inr 32], _)) rfl ?_
  refine b_vV (as := [.inl (i : Int)]) (rest := []) (k := 32) (.inl 1) okX7_judge rfl lkX7_95 caX3_isThere (Nat.le_of_ble_eq_true rfl) rfl (Nat.le_of_ble_eq_true rfl) rfl rfl rfl (c_isThere_1_t (x := (i : Int)) hp7 (by omega) (by omega)) ?_
  refine b0_ne (tgt := 17) okX7_judge rfl rfl ⟨by omega, by omega⟩ (fun h8 => ?_) (fun h8 => absurd h8 (by omega))
  refine aGo okX7_judge 7 (f' := (30, [some (.inr 0), some (.inl (i : Int)), none], [.inl (tc : Int), .inr 160, .inl (i : Int), .inr 96], _)) rfl ?_
  refine b_vE (as := [.inl (i : Int), .inr 160, .inl (tc : Int)]) (rest := []) (k := 96) okX7_judge rfl lkX7_267 caX0_firstMistold (Nat.le_of_ble_eq_true rfl) rfl (Nat.le_of_ble_eq_true rfl) rfl rfl rfl (c_firstMistold hm hB (i := i) (m := tc) (by omega) (by omega) hto rto) ?_
  rintro _ _ ⟨rfl, B2, hB2, rfl⟩
  refine aGo okX7_judge 5 (f' := (40, [some (.inr 0), some (.inl (i : Int)), some (.inl (firstQ (fun j => !decide (min ((dayIt p (hasL sh nt) n j kp).getD i 0) 99 = to.getD j 0)) tc 0))], [.inl (firstQ (fun j => !decide (min ((dayIt p (hasL sh nt) n j kp).getD i 0) 99 = to.getD j 0)) tc 0)], [(mainSeg imt 0), (moSeg 32 k f c n kp l nt w sh (p : Int) t d wa), B2, (miscSeg z0 fs ss sp la gr (tl : Int) tp), B4, (auxSeg to re), C6])) rfl ?_
  exact b_ret (v := (some (.inl (firstQ (fun j => !decide (min ((dayIt p (hasL sh nt) n j kp).getD i 0) 99 = to.getD j 0)) tc 0)))) ⟨rfl, Or.inl rfl⟩ ⟨congrArg (fun q : Int => (some (.inl q) : Option aV)) (firstQ_congrB (m := tc) (fun j _ => congrArg (fun b : List Int => !decide (min (b.getD i 0) 99 = to.getD j 0)) (mOK_it hm j)) tc 0 (by omega)), by exact cSt_of hp6 hd9 ⟨htp, rtp, htl9, hto, rto, by omega, hre⟩ (hm) hB2 (hms) (hI) (hi01)⟩ rfl
set_option maxRecDepth 100000 in
set_option maxHeartbeats 4000000 in
theorem k_clear {imt : Int} {tc : Nat} {k f c n kp l : List Int} {p : Nat} {t d : Int} {to re : List Int} {tl : Nat} {tp : List Int} {I : moT} {C6 : List (Option aE)} {h : aH} {N : Nat} (hS : cSt imt tc k f c n kp l p t d to re tl tp I C6 h)  : aEv mX7_clear 0 0 0 N [.inr 0] h (fun rv h2 => rv = some (.inl ((tc : Int))) ∧ cSt imt 0 k f c n kp l p t d to re tl tp I C6 h2) := by
  obtain ⟨hp6, hd9, hax, nt, w, sh, wa, B, z0, fs, ss, sp, la, gr, B4, hm, hB, hms, hI, hi01, rfl⟩ := hS
  obtain ⟨htp, rtp, htl9, hto, rto, htc, hre⟩ := id hax
  obtain ⟨hfs, hss, hsp, hla, hgr⟩ := id hms
  obtain ⟨⟨hp7, hk, hf, hc, hn, hkp, hl, rk, rf, rc, rn, rkp, rl, ht0, ht1, hd0, hd1⟩, ⟨hnt, znt⟩, ⟨hw, zw, zwa⟩, ⟨hsh, zsh⟩⟩ := id hm
  refine aEv_of okX7_clear caX7_clear (Nat.le_of_ble_eq_true rfl) ?_
  refine aGo okX7_clear 7 (f' := (11, [some (.inr 0), some (.inl (tc : Int))], [.inl (tc : Int)], [(mainSeg imt 0), (moSeg 32 k f c n kp l nt w sh (p : Int) t d wa), B, (miscSeg z0 fs ss sp la gr (tl : Int) tp), B4, (auxSeg to re), C6])) rfl ?_
  exact b_ret (v := (some (.inl (tc : Int)))) ⟨rfl, Or.inl rfl⟩ ⟨congrArg (fun q : Int => (some (.inl q) : Option aV)) (rfl), by exact cSt_of hp6 hd9 ⟨htp, rtp, htl9, hto, rto, by omega, hre⟩ (hm) hB (hms) (hI) (hi01)⟩ rfl
set_option maxRecDepth 100000 in
set_option maxHeartbeats 4000000 in
theorem k_lots {imt : Int} {tc : Nat} {k f c n kp l : List Int} {p : Nat} {t d : Int} {to re : List Int} {tl : Nat} {tp : List Int} {I : moT} {C6 : List (Option aE)} {h : aH} {N : Nat} (hS : cSt imt tc k f c n kp l p t d to re tl tp I C6 h) {m : Nat} {y z : Int} (hm0 : 1 ≤ m ∧ m ≤ 20) (hz : 0 ≤ z ∧ z ≤ 1) (hp1 : 1 ≤ p) : aEv mX7_lots 7 0 0 N [.inr 0, .inl (m : Int), .inl y, .inl z] h (fun rv h2 => rv = some (.inl (if z = 0 then sumN m (fun (i : Nat) => shr p k f (lotI p y c (i + 1)).2 t 0) else sumN m (fun (i : Nat) => cntA p k f (lotI p y c (i + 1)).2 n l t))) ∧ cSt imt tc k f c n kp l p t d to re tl tp I C6 h2) := by
  obtain ⟨hp6, hd9, hax, nt, w, sh, wa, B, z0, fs, ss, sp, la, gr, B4, hm, hB, hms, hI, hi01, rfl⟩ := hS
  obtain ⟨htp, rtp, htl9, hto, rto, htc, hre⟩ := id hax
  obtain ⟨hfs, hss, hsp, hla, hgr⟩ := id hms
  obtain ⟨⟨hp7, hk, hf, hc, hn, hkp, hl, rk, rf, rc, rn, rkp, rl, ht0, ht1, hd0, hd1⟩, ⟨hnt, znt⟩, ⟨hw, zw, zwa⟩, ⟨hsh, zsh⟩⟩ := id hm
  refine aEv_of okX7_lots caX7_lots (Nat.le_of_ble_eq_true rfl) ?_
  refine aGo okX7_lots 2 (f' := (2, [some (.inr 0), some (.inl (m : Int)), some (.inl y), some (.inl z)], [.inl 1, .inl (m : Int)], _)) rfl ?_
  refine b_ge (tgt := 12) okX7_lots rfl rfl ⟨by omega, by omega⟩ ⟨by omega, by omega⟩ (fun h2 => ?_) (fun h2 => ?_)
  · refine aGo okX7_lots 2 (f' := (15, [some (.inr 0), some (.inl (m : Int)), some (.inl y), some (.inl z)], [.inl 20, .inl (m : Int)], _)) rfl ?_
    refine b_le (tgt := 25) okX7_lots rfl rfl ⟨by omega, by omega⟩ ⟨by omega, by omega⟩ (fun h15 => ?_) (fun h15 => ?_)
    · refine aGo okX7_lots 1 (f' := (26, [some (.inr 0), some (.inl (m : Int)), some (.inl y), some (.inl z)], [.inl z], _)) rfl ?_
      refine b0_lt (tgt := 34) okX7_lots rfl rfl ⟨by omega, by omega⟩ (fun h26 => ?_) (fun h26 => ?_)
      · refine aGo okX7_lots 2 (f' := (37, [some (.inr 0), some (.inl (m : Int)), some (.inl y), some (.inl z)], [.inl (-2), .inr 0], _)) rfl ?_
        exfalso; omega
      · refine aGo okX7_lots 2 (f' := (31, [some (.inr 0), some (.inl (m : Int)), some (.inl y), some (.inl z)], [.inl 1, .inl z], _)) rfl ?_
        refine b_le (tgt := 41) okX7_lots rfl rfl ⟨by omega, by omega⟩ ⟨by omega, by omega⟩ (fun h31 => ?_) (fun h31 => ?_)
        · refine aGo okX7_lots 2 (f' := (45, [some (.inr 0), some (.inl (m : Int)), some (.inl y), some (.inl z)], [.inr 32], _)) rfl ?_
          refine b_vV (as := []) (rest := []) (k := 32) (.inl (p : Int)) okX7_lots rfl lkX7_199 caX3_people (Nat.le_of_ble_eq_true rfl) rfl (Nat.le_of_ble_eq_true rfl) rfl rfl rfl (c_people_1) ?_
          refine aGo okX7_lots 1 (f' := (49, [some (.inr 0), some (.inl (m : Int)), some (.inl y), some (.inl z)], [.inl 1, .inl (p : Int)], _)) rfl ?_
          refine b_ge (tgt := 59) okX7_lots rfl rfl ⟨by omega, by omega⟩ ⟨by omega, by omega⟩ (fun h49 => ?_) (fun h49 => ?_)
          · refine aGo okX7_lots 1 (f' := (60, [some (.inr 0), some (.inl (m : Int)), some (.inl y), some (.inl z)], [.inl z], _)) rfl ?_
            refine b0_ne (tgt := 75) okX7_lots rfl rfl ⟨by omega, by omega⟩ (fun h60 => ?_) (fun h60 => ?_)
            · refine aGo okX7_lots 4 (f' := (81, [some (.inr 0), some (.inl (m : Int)), some (.inl y), some (.inl z)], [.inl y, .inl (m : Int), .inr 97], _)) rfl ?_
              refine b_vE (as := [.inl (m : Int), .inl y]) (rest := []) (k := 97) okX7_lots rfl lkX7_274 caX5_contentByLot (Nat.le_of_ble_eq_true rfl) rfl (Nat.le_of_ble_eq_true rfl) rfl rfl rfl (c_contentByLot hm hB (by omega) (m := m) (by omega) (v := y)) ?_
              rintro _ _ ⟨rfl, B2, z2, hB2, rfl⟩
              exact b_ret (v := (some (.inl (sumN m (fun (i : Nat) => cntA p k f (lotI p y c (i + 1)).2 n l t))))) ⟨rfl, Or.inl rfl⟩ ⟨congrArg (fun q : Int => (some (.inl q) : Option aV)) (by rw [if_neg (by omega)]), by exact cSt_of hp6 hd9 hax (hm) hB2 (hms) (hI) (hi01)⟩ rfl
            · refine aGo okX7_lots 4 (f' := (69, [some (.inr 0), some (.inl (m : Int)), some (.inl y), some (.inl z)], [.inl y, .inl (m : Int), .inr 97], _)) rfl ?_
              refine b_vE (as := [.inl (m : Int), .inl y]) (rest := []) (k := 97) okX7_lots rfl lkX7_271 caX5_firstSharesByLot (Nat.le_of_ble_eq_true rfl) rfl (Nat.le_of_ble_eq_true rfl) rfl rfl rfl (c_firstSharesByLot hm hB (by omega) (m := m) (by omega) (v := y)) ?_
              rintro _ _ ⟨rfl, B2, z2, hB2, rfl⟩
              refine aGo okX7_lots 1 (f' := (84, [some (.inr 0), some (.inl (m : Int)), some (.inl y), some (.inl z)], [.inl (sumN m (fun (i : Nat) => shr p k f (lotI p y c (i + 1)).2 t 0))], _)) rfl ?_
              exact b_ret (v := (some (.inl (sumN m (fun (i : Nat) => shr p k f (lotI p y c (i + 1)).2 t 0))))) ⟨rfl, Or.inl rfl⟩ ⟨congrArg (fun q : Int => (some (.inl q) : Option aV)) (by rw [if_pos (by omega)]), by exact cSt_of hp6 hd9 hax (hm) hB2 (hms) (hI) (hi01)⟩ rfl
          · refine aGo okX7_lots 2 (f' := (55, [some (.inr 0), some (.inl (m : Int)), some (.inl y), some (.inl z)], [.inl (-3), .inr 0], _)) rfl ?_
            exfalso; omega
        · refine aGo okX7_lots 2 (f' := (37, [some (.inr 0), some (.inl (m : Int)), some (.inl y), some (.inl z)], [.inl (-2), .inr 0], _)) rfl ?_
          exfalso; omega
    · refine aGo okX7_lots 2 (f' := (21, [some (.inr 0), some (.inl (m : Int)), some (.inl y), some (.inl z)], [.inl (-6), .inr 0], _)) rfl ?_
      exfalso; omega
  · refine aGo okX7_lots 2 (f' := (8, [some (.inr 0), some (.inl (m : Int)), some (.inl y), some (.inl z)], [.inl (-4), .inr 0], _)) rfl ?_
    exfalso; omega
set_option maxRecDepth 100000 in
set_option maxHeartbeats 4000000 in
theorem k_image {imt : Int} {tc : Nat} {k f c n kp l : List Int} {p : Nat} {t d : Int} {to re : List Int} {tl : Nat} {tp : List Int} {I : moT} {C6 : List (Option aE)} {h : aH} {N : Nat} (hS : cSt imt tc k f c n kp l p t d to re tl tp I C6 h)  : aEv mX7_image 3 0 0 N [.inr 0] h (fun rv h2 => rv = some (.inl (d)) ∧ cSt 1 tc k f c n kp l p t d to re tl tp (k, f, c, n, kp, l, p, t, d) C6 h2) := by
  obtain ⟨hp6, hd9, hax, nt, w, sh, wa, B, z0, fs, ss, sp, la, gr, B4, hm, hB, hms, hI, hi01, rfl⟩ := hS
  obtain ⟨htp, rtp, htl9, hto, rto, htc, hre⟩ := id hax
  obtain ⟨hfs, hss, hsp, hla, hgr⟩ := id hms
  obtain ⟨⟨hp7, hk, hf, hc, hn, hkp, hl, rk, rf, rc, rn, rkp, rl, ht0, ht1, hd0, hd1⟩, ⟨hnt, znt⟩, ⟨hw, zw, zwa⟩, ⟨hsh, zsh⟩⟩ := id hm
  obtain ⟨hI6, hI9, nt4, w4, sh4, wa4, hm4, rfl⟩ := id hI
  refine aEv_of okX7_image caX7_image (Nat.le_of_ble_eq_true rfl) ?_
  refine aGo okX7_image 4 (f' := (8, [some (.inr 0)], [.inr 32, .inr 128], _)) rfl ?_
  refine b_vN (as := [.inr 32]) (rest := []) (k := 128) okX7_image rfl lkX7_85 caX3_takeFrom (Nat.le_of_ble_eq_true rfl) rfl (Nat.le_of_ble_eq_true rfl) rfl rfl rfl (c_take_41 (mOK_lens hm) (mOK_lens hm4)) ?_
  refine b_cast (f' := (11, [some (.inr 0)], [], [(mainSeg imt (tc : Int)), (moSeg 32 k f c n kp l nt w sh (p : Int) t d wa), B, (miscSeg z0 fs ss sp la gr (tl : Int) tp), (moSeg 128 k f c n kp l nt w sh (p : Int) t d wa), (auxSeg to re), C6])) rfl ?_
  refine aGo okX7_image 5 (f' := (20, [some (.inr 0)], [.inr 32], [(mainSeg 1 (tc : Int)), (moSeg 32 k f c n kp l nt w sh (p : Int) t d wa), B, (miscSeg z0 fs ss sp la gr (tl : Int) tp), (moSeg 128 k f c n kp l nt w sh (p : Int) t d wa), (auxSeg to re), C6])) rfl ?_
  refine b_vV (as := []) (rest := []) (k := 32) (.inl d) okX7_image rfl lkX7_158 caX3_day (Nat.le_of_ble_eq_true rfl) rfl (Nat.le_of_ble_eq_true rfl) rfl rfl rfl (c_day_1) ?_
  exact b_ret (v := (some (.inl d))) ⟨rfl, Or.inl rfl⟩ ⟨congrArg (fun q : Int => (some (.inl q) : Option aV)) (rfl), by exact cSt_of hp6 hd9 hax (hm) hB (hms) (⟨hp6, hd9, nt, w, sh, wa, hm, rfl⟩) (Or.inr rfl)⟩ rfl
set_option maxRecDepth 100000 in
set_option maxHeartbeats 4000000 in
theorem k_on {imt : Int} {tc : Nat} {k f c n kp l : List Int} {p : Nat} {t d : Int} {to re : List Int} {tl : Nat} {tp : List Int} {I : moT} {C6 : List (Option aE)} {h : aH} {N : Nat} (hS : cSt imt tc k f c n kp l p t d to re tl tp I C6 h) (himt : imt ≠ 0) : aEv mX7_on 3 0 0 N [.inr 0] h (fun rv h2 => rv = some (.inl (I.2.2.2.2.2.2.2.2)) ∧ cSt imt tc I.1 I.2.1 I.2.2.1 I.2.2.2.1 I.2.2.2.2.1 I.2.2.2.2.2.1 I.2.2.2.2.2.2.1 I.2.2.2.2.2.2.2.1 I.2.2.2.2.2.2.2.2 to re tl tp I C6 h2) := by
  obtain ⟨hp6, hd9, hax, nt, w, sh, wa, B, z0, fs, ss, sp, la, gr, B4, hm, hB, hms, hI, hi01, rfl⟩ := hS
  obtain ⟨htp, rtp, htl9, hto, rto, htc, hre⟩ := id hax
  obtain ⟨hfs, hss, hsp, hla, hgr⟩ := id hms
  obtain ⟨⟨hp7, hk, hf, hc, hn, hkp, hl, rk, rf, rc, rn, rkp, rl, ht0, ht1, hd0, hd1⟩, ⟨hnt, znt⟩, ⟨hw, zw, zwa⟩, ⟨hsh, zsh⟩⟩ := id hm
  obtain ⟨hI6, hI9, nt4, w4, sh4, wa4, hm4, rfl⟩ := id hI
  refine aEv_of okX7_on caX7_on (Nat.le_of_ble_eq_true rfl) ?_
  refine aGo okX7_on 2 (f' := (4, [some (.inr 0)], [.inl imt], _)) rfl ?_
  refine b0_ne (tgt := 14) okX7_on rfl rfl ⟨by omega, by omega⟩ (fun h4 => ?_) (fun h4 => ?_)
  · refine aGo okX7_on 4 (f' := (22, [some (.inr 0)], [.inr 128, .inr 32], _)) rfl ?_
    refine b_vN (as := [.inr 128]) (rest := []) (k := 32) okX7_on rfl lkX7_85 caX3_takeFrom (Nat.le_of_ble_eq_true rfl) rfl (Nat.le_of_ble_eq_true rfl) rfl rfl rfl (c_take_14 (mOK_lens hm4) (mOK_lens hm)) ?_
    refine b_cast (f' := (25, [some (.inr 0)], [], [(mainSeg imt (tc : Int)), (moSeg 32 (I.1) (I.2.1) (I.2.2.1) (I.2.2.2.1) (I.2.2.2.2.1) (I.2.2.2.2.2.1) nt4 w4 sh4 (I.2.2.2.2.2.2.1 : Int) (I.2.2.2.2.2.2.2.1) (I.2.2.2.2.2.2.2.2) wa4), B, (miscSeg z0 fs ss sp la gr (tl : Int) tp), (moSeg 128 (I.1) (I.2.1) (I.2.2.1) (I.2.2.2.1) (I.2.2.2.2.1) (I.2.2.2.2.2.1) nt4 w4 sh4 (I.2.2.2.2.2.2.1 : Int) (I.2.2.2.2.2.2.2.1) (I.2.2.2.2.2.2.2.2) wa4), (auxSeg to re), C6])) rfl ?_
    refine aGo okX7_on 2 (f' := (29, [some (.inr 0)], [.inr 32], _)) rfl ?_
    refine b_vV (as := []) (rest := []) (k := 32) (.inl (I.2.2.2.2.2.2.2.2)) okX7_on rfl lkX7_158 caX3_day (Nat.le_of_ble_eq_true rfl) rfl (Nat.le_of_ble_eq_true rfl) rfl rfl rfl (c_day_1) ?_
    exact b_ret (v := (some (.inl (I.2.2.2.2.2.2.2.2)))) ⟨rfl, Or.inl rfl⟩ ⟨congrArg (fun q : Int => (some (.inl q) : Option aV)) (rfl), by exact cSt_of hI6 hI9 hax (hm4) hB (hms) (⟨hI6, hI9, nt4, w4, sh4, wa4, hm4, rfl⟩) (hi01)⟩ rfl
  · refine aGo okX7_on 2 (f' := (10, [some (.inr 0)], [.inl (-3), .inr 0], _)) rfl ?_
    exfalso; omega
set_option maxRecDepth 100000 in
set_option maxHeartbeats 4000000 in
theorem k_count {imt : Int} {tc : Nat} {k f c n kp l : List Int} {p : Nat} {t d : Int} {to re : List Int} {tl : Nat} {tp : List Int} {I : moT} {C6 : List (Option aE)} {h : aH} {N : Nat} (hS : cSt imt tc k f c n kp l p t d to re tl tp I C6 h) {x : Int} (hx : aI x) : aEv mX7_count 3 0 0 N [.inr 0, .inl x] h (fun rv h2 => rv = some (.inl (if 11 ≤ x ∧ x ≤ 16 then re.getD (x - 10).toNat 0 else if ¬ (0 ≤ x ∧ x ≤ 7) then -9 else ([(p : Int), d, t, wAll p k f c, sumN p (fun q => n.getD q 0), sumN p (fun q => kp.getD q 0), (tc : Int), (tl : Int)].getD x.toNat 0))) ∧ cSt imt tc k f c n kp l p t d to re tl tp I C6 h2) := by
  obtain ⟨hp6, hd9, hax, nt, w, sh, wa, B, z0, fs, ss, sp, la, gr, B4, hm, hB, hms, hI, hi01, rfl⟩ := hS
  obtain ⟨htp, rtp, htl9, hto, rto, htc, hre⟩ := id hax
  obtain ⟨hfs, hss, hsp, hla, hgr⟩ := id hms
  obtain ⟨⟨hp7, hk, hf, hc, hn, hkp, hl, rk, rf, rc, rn, rkp, rl, ht0, ht1, hd0, hd1⟩, ⟨hnt, znt⟩, ⟨hw, zw, zwa⟩, ⟨hsh, zsh⟩⟩ := id hm
  obtain ⟨hx1, hx2⟩ := hx
  refine aEv_of okX7_count caX7_count (Nat.le_of_ble_eq_true rfl) ?_
  refine aGo okX7_count 1 (f' := (1, [some (.inr 0), some (.inl x)], [.inl x], _)) rfl ?_
  by_cases hs1 : 0 ≤ x ∧ x ≤ 7
  · have hsx := (show x = 0 ∨ x = 1 ∨ x = 2 ∨ x = 3 ∨ x = 4 ∨ x = 5 ∨ x = 6 ∨ x = 7 from by omega)
    rcases hsx with hsw | hsw | hsw | hsw | hsw | hsw | hsw | hsw
    · refine b_cast (f' := (1, [some (.inr 0), some (.inl x)], [.inl 0], [(mainSeg imt (tc : Int)), (moSeg 32 k f c n kp l nt w sh (p : Int) t d wa), B, (miscSeg z0 fs ss sp la gr (tl : Int) tp), B4, (auxSeg to re), C6])) (congrArg (fun zz : Int => ((1, [some (.inr 0), some (.inl x)], .inl zz :: [], [(mainSeg imt (tc : Int)), (moSeg 32 k f c n kp l nt w sh (p : Int) t d wa), B, (miscSeg z0 fs ss sp la gr (tl : Int) tp), B4, (auxSeg to re), C6]) : aF)) hsw) ?_
      refine b_swIn (tgt := 48) okX7_count rfl ⟨by decide, by decide⟩ (by decide) (by decide) rfl rfl ?_
      refine aGo okX7_count 2 (f' := (52, [some (.inr 0), some (.inl x)], [.inr 32], _)) rfl ?_
      refine b_vV (as := []) (rest := []) (k := 32) (.inl (p : Int)) okX7_count rfl lkX7_199 caX3_people (Nat.le_of_ble_eq_true rfl) rfl (Nat.le_of_ble_eq_true rfl) rfl rfl rfl (c_people_1) ?_
      exact b_ret (v := (some (.inl (p : Int)))) ⟨rfl, Or.inl rfl⟩ ⟨congrArg (fun q : Int => (some (.inl q) : Option aV)) (by rw [if_neg (by omega), if_neg (by omega), hsw]; exact rfl), by exact cSt_of hp6 hd9 hax (hm) hB (hms) (hI) (hi01)⟩ rfl
    · refine b_cast (f' := (1, [some (.inr 0), some (.inl x)], [.inl 1], [(mainSeg imt (tc : Int)), (moSeg 32 k f c n kp l nt w sh (p : Int) t d wa), B, (miscSeg z0 fs ss sp la gr (tl : Int) tp), B4, (auxSeg to re), C6])) (congrArg (fun zz : Int => ((1, [some (.inr 0), some (.inl x)], .inl zz :: [], [(mainSeg imt (tc : Int)), (moSeg 32 k f c n kp l nt w sh (p : Int) t d wa), B, (miscSeg z0 fs ss sp la gr (tl : Int) tp), B4, (auxSeg to re), C6]) : aF)) hsw) ?_
      refine b_swIn (tgt := 56) okX7_count rfl ⟨by decide, by decide⟩ (by decide) (by decide) rfl rfl ?_
      refine aGo okX7_count 2 (f' := (60, [some (.inr 0), some (.inl x)], [.inr 32], _)) rfl ?_
      refine b_vV (as := []) (rest := []) (k := 32) (.inl d) okX7_count rfl lkX7_158 caX3_day (Nat.le_of_ble_eq_true rfl) rfl (Nat.le_of_ble_eq_true rfl) rfl rfl rfl (c_day_1) ?_
      exact b_ret (v := (some (.inl d))) ⟨rfl, Or.inl rfl⟩ ⟨congrArg (fun q : Int => (some (.inl q) : Option aV)) (by rw [if_neg (by omega), if_neg (by omega), hsw]; exact rfl), by exact cSt_of hp6 hd9 hax (hm) hB (hms) (hI) (hi01)⟩ rfl
    · refine b_cast (f' := (1, [some (.inr 0), some (.inl x)], [.inl 2], [(mainSeg imt (tc : Int)), (moSeg 32 k f c n kp l nt w sh (p : Int) t d wa), B, (miscSeg z0 fs ss sp la gr (tl : Int) tp), B4, (auxSeg to re), C6])) (congrArg (fun zz : Int => ((1, [some (.inr 0), some (.inl x)], .inl zz :: [], [(mainSeg imt (tc : Int)), (moSeg 32 k f c n kp l nt w sh (p : Int) t d wa), B, (miscSeg z0 fs ss sp la gr (tl : Int) tp), B4, (auxSeg to re), C6]) : aF)) hsw) ?_
      refine b_swIn (tgt := 64) okX7_count rfl ⟨by decide, by decide⟩ (by decide) (by decide) rfl rfl ?_
      refine aGo okX7_count 2 (f' := (68, [some (.inr 0), some (.inl x)], [.inr 32], _)) rfl ?_
      refine b_vV (as := []) (rest := []) (k := 32) (.inl t) okX7_count rfl lkX7_151 caX3_total (Nat.le_of_ble_eq_true rfl) rfl (Nat.le_of_ble_eq_true rfl) rfl rfl rfl (c_total_1) ?_
      exact b_ret (v := (some (.inl t))) ⟨rfl, Or.inl rfl⟩ ⟨congrArg (fun q : Int => (some (.inl q) : Option aV)) (by rw [if_neg (by omega), if_neg (by omega), hsw]; exact rfl), by exact cSt_of hp6 hd9 hax (hm) hB (hms) (hI) (hi01)⟩ rfl
    · refine b_cast (f' := (1, [some (.inr 0), some (.inl x)], [.inl 3], [(mainSeg imt (tc : Int)), (moSeg 32 k f c n kp l nt w sh (p : Int) t d wa), B, (miscSeg z0 fs ss sp la gr (tl : Int) tp), B4, (auxSeg to re), C6])) (congrArg (fun zz : Int => ((1, [some (.inr 0), some (.inl x)], .inl zz :: [], [(mainSeg imt (tc : Int)), (moSeg 32 k f c n kp l nt w sh (p : Int) t d wa), B, (miscSeg z0 fs ss sp la gr (tl : Int) tp), B4, (auxSeg to re), C6]) : aF)) hsw) ?_
      refine b_swIn (tgt := 72) okX7_count rfl ⟨by decide, by decide⟩ (by decide) (by decide) rfl rfl ?_
      refine aGo okX7_count 2 (f' := (76, [some (.inr 0), some (.inl x)], [.inr 32], _)) rfl ?_
      refine b_vV (as := []) (rest := []) (k := 32) (.inl wa) okX7_count rfl lkX7_277 caX3_allWeights (Nat.le_of_ble_eq_true rfl) rfl (Nat.le_of_ble_eq_true rfl) rfl rfl rfl (c_allWeights_1) ?_
      exact b_ret (v := (some (.inl wa))) ⟨rfl, Or.inl rfl⟩ ⟨congrArg (fun q : Int => (some (.inl q) : Option aV)) (by rw [if_neg (by omega), if_neg (by omega), hsw]; exact zwa), by exact cSt_of hp6 hd9 hax (hm) hB (hms) (hI) (hi01)⟩ rfl
    · refine b_cast (f' := (1, [some (.inr 0), some (.inl x)], [.inl 4], [(mainSeg imt (tc : Int)), (moSeg 32 k f c n kp l nt w sh (p : Int) t d wa), B, (miscSeg z0 fs ss sp la gr (tl : Int) tp), B4, (auxSeg to re), C6])) (congrArg (fun zz : Int => ((1, [some (.inr 0), some (.inl x)], .inl zz :: [], [(mainSeg imt (tc : Int)), (moSeg 32 k f c n kp l nt w sh (p : Int) t d wa), B, (miscSeg z0 fs ss sp la gr (tl : Int) tp), B4, (auxSeg to re), C6]) : aF)) hsw) ?_
      refine b_swIn (tgt := 80) okX7_count rfl ⟨by decide, by decide⟩ (by decide) (by decide) rfl rfl ?_
      refine aGo okX7_count 2 (f' := (84, [some (.inr 0), some (.inl x)], [.inr 32], _)) rfl ?_
      refine b_vE (as := []) (rest := []) (k := 32) okX7_count rfl lkX7_280 caX3_allNeeds (Nat.le_of_ble_eq_true rfl) rfl (Nat.le_of_ble_eq_true rfl) rfl rfl rfl (c_allNeeds_1 hp7 hn) ?_
      rintro _ _ ⟨rfl, rfl⟩
      exact b_ret (v := (some (.inl (sumN p (fun q => n.getD q 0))))) ⟨rfl, Or.inl rfl⟩ ⟨congrArg (fun q : Int => (some (.inl q) : Option aV)) (by rw [if_neg (by omega), if_neg (by omega), hsw]; exact rfl), by exact cSt_of hp6 hd9 hax (hm) hB (hms) (hI) (hi01)⟩ rfl
    · refine b_cast (f' := (1, [some (.inr 0), some (.inl x)], [.inl 5], [(mainSeg imt (tc : Int)), (moSeg 32 k f c n kp l nt w sh (p : Int) t d wa), B, (miscSeg z0 fs ss sp la gr (tl : Int) tp), B4, (auxSeg to re), C6])) (congrArg (fun zz : Int => ((1, [some (.inr 0), some (.inl x)], .inl zz :: [], [(mainSeg imt (tc : Int)), (moSeg 32 k f c n kp l nt w sh (p : Int) t d wa), B, (miscSeg z0 fs ss sp la gr (tl : Int) tp), B4, (auxSeg to re), C6]) : aF)) hsw) ?_
      refine b_swIn (tgt := 88) okX7_count rfl ⟨by decide, by decide⟩ (by decide) (by decide) rfl rfl ?_
      refine aGo okX7_count 2 (f' := (92, [some (.inr 0), some (.inl x)], [.inr 32], _)) rfl ?_
      refine b_vE (as := []) (rest := []) (k := 32) okX7_count rfl lkX7_283 caX3_allKept (Nat.le_of_ble_eq_true rfl) rfl (Nat.le_of_ble_eq_true rfl) rfl rfl rfl (c_allKept_1 hp7 hkp) ?_
      rintro _ _ ⟨rfl, rfl⟩
      exact b_ret (v := (some (.inl (sumN p (fun q => kp.getD q 0))))) ⟨rfl, Or.inl rfl⟩ ⟨congrArg (fun q : Int => (some (.inl q) : Option aV)) (by rw [if_neg (by omega), if_neg (by omega), hsw]; exact rfl), by exact cSt_of hp6 hd9 hax (hm) hB (hms) (hI) (hi01)⟩ rfl
    · refine b_cast (f' := (1, [some (.inr 0), some (.inl x)], [.inl 6], [(mainSeg imt (tc : Int)), (moSeg 32 k f c n kp l nt w sh (p : Int) t d wa), B, (miscSeg z0 fs ss sp la gr (tl : Int) tp), B4, (auxSeg to re), C6])) (congrArg (fun zz : Int => ((1, [some (.inr 0), some (.inl x)], .inl zz :: [], [(mainSeg imt (tc : Int)), (moSeg 32 k f c n kp l nt w sh (p : Int) t d wa), B, (miscSeg z0 fs ss sp la gr (tl : Int) tp), B4, (auxSeg to re), C6]) : aF)) hsw) ?_
      refine b_swIn (tgt := 96) okX7_count rfl ⟨by decide, by decide⟩ (by decide) (by decide) rfl rfl ?_
      refine aGo okX7_count 2 (f' := (100, [some (.inr 0), some (.inl x)], [.inl (tc : Int)], _)) rfl ?_
      exact b_ret (v := (some (.inl (tc : Int)))) ⟨rfl, Or.inl rfl⟩ ⟨congrArg (fun q : Int => (some (.inl q) : Option aV)) (by rw [if_neg (by omega), if_neg (by omega), hsw]; exact rfl), by exact cSt_of hp6 hd9 hax (hm) hB (hms) (hI) (hi01)⟩ rfl
    · refine b_cast (f' := (1, [some (.inr 0), some (.inl x)], [.inl 7], [(mainSeg imt (tc : Int)), (moSeg 32 k f c n kp l nt w sh (p : Int) t d wa), B, (miscSeg z0 fs ss sp la gr (tl : Int) tp), B4, (auxSeg to re), C6])) (congrArg (fun zz : Int => ((1, [some (.inr 0), some (.inl x)], .inl zz :: [], [(mainSeg imt (tc : Int)), (moSeg 32 k f c n kp l nt w sh (p : Int) t d wa), B, (miscSeg z0 fs ss sp la gr (tl : Int) tp), B4, (auxSeg to re), C6]) : aF)) hsw) ?_
      refine b_swIn (tgt := 101) okX7_count rfl ⟨by decide, by decide⟩ (by decide) (by decide) rfl rfl ?_
      refine aGo okX7_count 2 (f' := (105, [some (.inr 0), some (.inl x)], [.inr 110], _)) rfl ?_
      refine b_vV (as := []) (rest := []) (k := 110) (.inl (tl : Int)) okX7_count rfl lkX7_286 caX6_length (Nat.le_of_ble_eq_true rfl) rfl (Nat.le_of_ble_eq_true rfl) rfl rfl rfl (c_length (x := tl)) ?_
      exact b_ret (v := (some (.inl (tl : Int)))) ⟨rfl, Or.inl rfl⟩ ⟨congrArg (fun q : Int => (some (.inl q) : Option aV)) (by rw [if_neg (by omega), if_neg (by omega), hsw]; exact rfl), by exact cSt_of hp6 hd9 hax (hm) hB (hms) (hI) (hi01)⟩ rfl
  · refine b_swOut (tgt := 109) okX7_count rfl ⟨by omega, by omega⟩ (by omega) rfl ?_
    refine aGo okX7_count 2 (f' := (112, [some (.inr 0), some (.inl x)], [.inl 11, .inl x], _)) rfl ?_
    refine b_lt (tgt := 135) okX7_count rfl rfl ⟨by omega, by omega⟩ ⟨by omega, by omega⟩ (fun h112 => ?_) (fun h112 => ?_)
    · refine aGo okX7_count 1 (f' := (137, [some (.inr 0), some (.inl x)], [.inl (-9)], _)) rfl ?_
      exact b_ret (v := (some (.inl (-9)))) ⟨rfl, Or.inl rfl⟩ ⟨congrArg (fun q : Int => (some (.inl q) : Option aV)) (by rw [if_neg (by omega), if_pos (by omega)]), by exact cSt_of hp6 hd9 hax (hm) hB (hms) (hI) (hi01)⟩ rfl
    · refine aGo okX7_count 2 (f' := (118, [some (.inr 0), some (.inl x)], [.inl 16, .inl x], _)) rfl ?_
      refine b_gt (tgt := 135) okX7_count rfl rfl ⟨by omega, by omega⟩ ⟨by omega, by omega⟩ (fun h118 => ?_) (fun h118 => ?_)
      · refine aGo okX7_count 1 (f' := (137, [some (.inr 0), some (.inl x)], [.inl (-9)], _)) rfl ?_
        exact b_ret (v := (some (.inl (-9)))) ⟨rfl, Or.inl rfl⟩ ⟨congrArg (fun q : Int => (some (.inl q) : Option aV)) (by rw [if_neg (by omega), if_pos (by omega)]), by exact cSt_of hp6 hd9 hax (hm) hB (hms) (hI) (hi01)⟩ rfl
      · refine aGo okX7_count 5 (f' := (129, [some (.inr 0), some (.inl x)], [.inl (x - 10), .inr 162], _)) rfl ?_
        obtain ⟨j, hj⟩ : ∃ j : Nat, x - 10 = (j : Int) := ⟨(x - 10).toNat, by omega⟩
        refine b_cast (f' := (129, [some (.inr 0), some (.inl x)], [.inl (j : Int), .inr 162], [(mainSeg imt (tc : Int)), (moSeg 32 k f c n kp l nt w sh (p : Int) t d wa), B, (miscSeg z0 fs ss sp la gr (tl : Int) tp), B4, (auxSeg to re), C6])) (by rw [hj]) ?_
        refine b_vV (as := [.inl (j : Int)]) (rest := []) (k := 162) (.inl (re.getD j 0)) okX7_count rfl lkX7_289 caX4_at (Nat.le_of_ble_eq_true rfl) rfl (Nat.le_of_ble_eq_true rfl) rfl rfl rfl (c_at (i := j) rfl rfl (by first | omega | (simp only [List.length_set]; omega)) (by omega)) ?_
        refine aGo okX7_count 1 (f' := (137, [some (.inr 0), some (.inl x)], [.inl (re.getD j 0)], _)) rfl ?_
        exact b_ret (v := (some (.inl (re.getD j 0)))) ⟨rfl, Or.inl rfl⟩ ⟨congrArg (fun q : Int => (some (.inl q) : Option aV)) (by rw [if_pos (by omega), hj]; rfl), by exact cSt_of hp6 hd9 hax (hm) hB (hms) (hI) (hi01)⟩ rfl
