/-! moor(), of the class; laid by gen_moorc.py -/
theorem runF_le {tp : List Int} {m : Nat} : ∀ j x (a : Int) (s : moT), x ≤ m + 8 → 0 ≤ a → -2000 - ((m : Int) + 8) ≤ (runF tp m j x a s).1 ∧ (runF tp m j x a s).1 ≤ a + j := by
  intro j
  induction j with
  | zero => intro x a s h1 h2; simp only [runF]; omega
  | succ j ih =>
    intro x a s h1 h2
    by_cases z : m ≤ x
    · rw [runF_end z]; simp only; omega
    · by_cases y : sayB tp x s = true
      · rw [runF_t z y]
        have h8 := tx_len (fmI (tp.getD x 0)) (by have := fmI_le (tp.getD x 0); omega)
        have := ih (x + aTxLen.getD (fmI (tp.getD x 0)) 0) (a + 1) (sayS tp x s) (by omega) (by omega)
        omega
      · rw [runF_f z y]; simp only; omega
theorem mvA_le {tp : List Int} {m : Nat} (hm : m ≤ 96) (s : moT) : -3000 ≤ mvA tp m s ∧ mvA tp m s ≤ 1000 := by
  have h1 := fwF_le (tp := tp) hm 97 0 (by omega)
  have h2 := runF_le (tp := tp) (m := m) 97 0 0 s (by omega) (by omega)
  unfold mvA; split <;> omega
theorem mvS_t {tp : List Int} {m : Nat} {s : moT} (h : 0 ≤ mvA tp m s) : mvS tp m s = mvT tp m s := by
  have h2 : ¬ 0 ≤ fwF tp m 97 0 := fun z => by unfold mvA at h; rw [if_pos z] at h; omega
  unfold mvS mvT; rw [if_pos h, if_neg h2]
theorem mvS_f {tp : List Int} {m : Nat} {s : moT} (h : ¬ 0 ≤ mvA tp m s) : mvS tp m s = s := if_neg h
set_option maxRecDepth 100000 in
set_option maxHeartbeats 4000000 in
theorem k_moor {imt : Int} {tc : Nat} {k f c n kp l : List Int} {p : Nat} {t d : Int} {to re : List Int} {tl : Nat} {tp : List Int} {I : moT} {C6 : List (Option aE)} {h : aH} {N : Nat} (hS : cSt imt tc k f c n kp l p t d to re tl tp I C6 h) : aEv mX7_moor 10 0 0 N [.inr 0] h (fun rv h2 => rv = some (.inl (mvA tp tl (k, f, c, n, kp, l, p, t, d))) ∧ cSt imt tc (mvS tp tl (k, f, c, n, kp, l, p, t, d)).1 (mvS tp tl (k, f, c, n, kp, l, p, t, d)).2.1 (mvS tp tl (k, f, c, n, kp, l, p, t, d)).2.2.1 (mvS tp tl (k, f, c, n, kp, l, p, t, d)).2.2.2.1 (mvS tp tl (k, f, c, n, kp, l, p, t, d)).2.2.2.2.1 (mvS tp tl (k, f, c, n, kp, l, p, t, d)).2.2.2.2.2.1 (mvS tp tl (k, f, c, n, kp, l, p, t, d)).2.2.2.2.2.2.1 (mvS tp tl (k, f, c, n, kp, l, p, t, d)).2.2.2.2.2.2.2.1 (mvS tp tl (k, f, c, n, kp, l, p, t, d)).2.2.2.2.2.2.2.2 to re 0 tp I C6 h2) := by
  obtain ⟨hp6, hd9, hax, nt, w, sh, wa, B, z0, fs, ss, sp, la, gr, B4, hm, hB, hms, hI, hi01, rfl⟩ := hS
  obtain ⟨htp, rtp, htl9, hto, rto, htc, hre⟩ := id hax
  obtain ⟨hfs, hss, hsp, hla, hgr⟩ := id hms
  obtain ⟨⟨hp7, hk, hf, hc, hn, hkp, hl, rk, rf, rc, rn, rkp, rl, ht0, ht1, hd0, hd1⟩, ⟨hnt, znt⟩, ⟨hw, zw, zwa⟩, ⟨hsh, zsh⟩⟩ := id hm
  obtain ⟨k0, f0, c0, n0, kp0, l0, nt0, w0, sh0, P0, t0, d0, wa0, hl0, rfl⟩ := hB
  refine aEv_of okX7_moor caX7_moor (Nat.le_of_ble_eq_true rfl) ?_
  refine aGo okX7_moor 4 (f' := (8, [some (.inr 0), none], [.inr 32, .inr 64], _)) rfl ?_
  refine b_vN (as := [.inr 32]) (rest := []) (k := 64) okX7_moor rfl lkX7_85 caX3_takeFrom (Nat.le_of_ble_eq_true rfl) rfl (Nat.le_of_ble_eq_true rfl) rfl rfl rfl (c_take_21 (mOK_lens hm) hl0) ?_
  refine b_cast (f' := (11, [some (.inr 0), none], [], [(mainSeg imt (tc : Int)), (moSeg 32 k f c n kp l nt w sh (p : Int) t d wa), (moSeg 64 k f c n kp l nt w sh (p : Int) t d wa), (miscSeg z0 fs ss sp la gr (tl : Int) tp), B4, (auxSeg to re), C6])) rfl ?_
  refine aGo okX7_moor 4 (f' := (19, [some (.inr 0), none], [.inr 64, .inr 110], _)) rfl ?_
  refine b_vE (as := [.inr 64]) (rest := []) (k := 110) okX7_moor rfl lkX7_88 caX6_tellTo (Nat.le_of_ble_eq_true rfl) rfl (Nat.le_of_ble_eq_true rfl) rfl rfl rfl (c_tellTo (s := (k, f, c, n, kp, l, p, t, d)) ⟨hp6, hd9, nt, w, sh, wa, hm, rfl⟩ htp rtp htl9) ?_
  rintro _ _ ⟨rfl, B2, hs2, rfl⟩
  obtain ⟨hq6, hq9, nt2, w2, sh2, wa2, hm2, rfl⟩ := id hs2
  have hmv := mvA_le (tp := tp) htl9 (k, f, c, n, kp, l, p, t, d)
  refine aGo okX7_moor 2 (f' := (24, [some (.inr 0), some (.inl (mvA tp tl (k, f, c, n, kp, l, p, t, d)))], [.inl (mvA tp tl (k, f, c, n, kp, l, p, t, d))], _)) rfl ?_
  refine b0_lt (tgt := 38) okX7_moor rfl rfl ⟨by omega, by omega⟩ (fun h24 => ?_) (fun h24 => ?_)
  · refine aGo okX7_moor 2 (f' := (42, [some (.inr 0), some (.inl (mvA tp tl (k, f, c, n, kp, l, p, t, d)))], [.inr 110], _)) rfl ?_
    refine b_vE (as := []) (rest := []) (k := 110) okX7_moor rfl lkX7_92 caX6_drop (Nat.le_of_ble_eq_true rfl) rfl (Nat.le_of_ble_eq_true rfl) rfl rfl rfl (c_drop) ?_
    rintro _ _ ⟨rfl, rfl⟩
    refine aGo okX7_moor 1 (f' := (46, [some (.inr 0), some (.inl (mvA tp tl (k, f, c, n, kp, l, p, t, d)))], [.inl (mvA tp tl (k, f, c, n, kp, l, p, t, d))], _)) rfl ?_
    exact b_ret (v := (some (.inl (mvA tp tl (k, f, c, n, kp, l, p, t, d))))) ⟨rfl, Or.inl rfl⟩ ⟨rfl, by rw [mvS_f (by omega)]; exact cSt_of (tl := 0) hp6 hd9 ⟨htp, rtp, Nat.zero_le _, hto, rto, htc, hre⟩ hm (thM_thk hs2) hms hI hi01⟩ rfl
  · refine aGo okX7_moor 4 (f' := (35, [some (.inr 0), some (.inl (mvA tp tl (k, f, c, n, kp, l, p, t, d)))], [.inr 64, .inr 32], _)) rfl ?_
    refine b_vN (as := [.inr 64]) (rest := []) (k := 32) okX7_moor rfl lkX7_85 caX3_takeFrom (Nat.le_of_ble_eq_true rfl) rfl (Nat.le_of_ble_eq_true rfl) rfl rfl rfl (c_take_12 (mOK_lens hm2) (mOK_lens hm)) ?_
    refine b_cast (f' := (38, [some (.inr 0), some (.inl (mvA tp tl (k, f, c, n, kp, l, p, t, d)))], [], [(mainSeg imt (tc : Int)), (moSeg 32 ((mvT tp tl (k, f, c, n, kp, l, p, t, d)).1) ((mvT tp tl (k, f, c, n, kp, l, p, t, d)).2.1) ((mvT tp tl (k, f, c, n, kp, l, p, t, d)).2.2.1) ((mvT tp tl (k, f, c, n, kp, l, p, t, d)).2.2.2.1) ((mvT tp tl (k, f, c, n, kp, l, p, t, d)).2.2.2.2.1) ((mvT tp tl (k, f, c, n, kp, l, p, t, d)).2.2.2.2.2.1) nt2 w2 sh2 ((mvT tp tl (k, f, c, n, kp, l, p, t, d)).2.2.2.2.2.2.1 : Int) ((mvT tp tl (k, f, c, n, kp, l, p, t, d)).2.2.2.2.2.2.2.1) ((mvT tp tl (k, f, c, n, kp, l, p, t, d)).2.2.2.2.2.2.2.2) wa2), (moSeg 64 ((mvT tp tl (k, f, c, n, kp, l, p, t, d)).1) ((mvT tp tl (k, f, c, n, kp, l, p, t, d)).2.1) ((mvT tp tl (k, f, c, n, kp, l, p, t, d)).2.2.1) ((mvT tp tl (k, f, c, n, kp, l, p, t, d)).2.2.2.1) ((mvT tp tl (k, f, c, n, kp, l, p, t, d)).2.2.2.2.1) ((mvT tp tl (k, f, c, n, kp, l, p, t, d)).2.2.2.2.2.1) nt2 w2 sh2 ((mvT tp tl (k, f, c, n, kp, l, p, t, d)).2.2.2.2.2.2.1 : Int) ((mvT tp tl (k, f, c, n, kp, l, p, t, d)).2.2.2.2.2.2.2.1) ((mvT tp tl (k, f, c, n, kp, l, p, t, d)).2.2.2.2.2.2.2.2) wa2), (miscSeg z0 fs ss sp la gr (tl : Int) tp), B4, (auxSeg to re), C6])) rfl ?_
    refine aGo okX7_moor 2 (f' := (42, [some (.inr 0), some (.inl (mvA tp tl (k, f, c, n, kp, l, p, t, d)))], [.inr 110], _)) rfl ?_
    refine b_vE (as := []) (rest := []) (k := 110) okX7_moor rfl lkX7_92 caX6_drop (Nat.le_of_ble_eq_true rfl) rfl (Nat.le_of_ble_eq_true rfl) rfl rfl rfl (c_drop) ?_
    rintro _ _ ⟨rfl, rfl⟩
    refine aGo okX7_moor 1 (f' := (46, [some (.inr 0), some (.inl (mvA tp tl (k, f, c, n, kp, l, p, t, d)))], [.inl (mvA tp tl (k, f, c, n, kp, l, p, t, d))], _)) rfl ?_
    exact b_ret (v := (some (.inl (mvA tp tl (k, f, c, n, kp, l, p, t, d))))) ⟨rfl, Or.inl rfl⟩ ⟨rfl, by rw [mvS_t (by omega)]; exact cSt_of (tl := 0) hq6 hq9 ⟨htp, rtp, Nat.zero_le _, hto, rto, htc, hre⟩ hm2 (thM_thk hs2) hms hI hi01⟩ rfl
