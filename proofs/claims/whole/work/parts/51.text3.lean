/-! Text.sayTo, Text.tellTo, moor(); laid by gen_text3.py -/
theorem fmI_code {c : Int} (h : fmI c < 6) : c = 112 ∨ c = 97 ∨ c = 108 ∨ c = 107 ∨ c = 115 ∨ c = 100 := by
  unfold fmI at h
  split at h
  · omega
  · split at h
    · omega
    · split at h
      · omega
      · split at h
        · omega
        · split at h
          · omega
          · split at h <;> omega
theorem fit_dig {c : Int} (h : fitI c 48 = 1) : 48 ≤ c ∧ c ≤ 57 := by
  by_cases z : 48 ≤ c ∧ c ≤ 57
  · exact z
  · rw [fit_d0 z] at h; cases h
theorem fit_kind {c : Int} (h : fitI c 63 = 1) : 0 ≤ kdF c ∧ kdF c ≤ 5 := by
  by_cases z : 0 ≤ kdF c
  · exact ⟨z, (kdF_le c).2⟩
  · rw [fit_k0 z] at h; cases h
theorem fit_end {c : Int} (h : fitI c 59 = 1) : c = 59 := by
  by_cases z : c = 59
  · exact z
  · rw [fit_e0 z] at h; cases h
theorem numL_le {tp : List Int} {x : Nat} : ∀ m, (∀ i, i < m → 48 ≤ tp.getD (x + i) 0 ∧ tp.getD (x + i) 0 ≤ 57) → 0 ≤ numL tp x m ∧ numL tp x m < 10 ^ m := by
  intro m
  induction m with
  | zero => intro _; exact ⟨Int.le_refl 0, (by decide : (0 : Int) < 10 ^ 0)⟩
  | succ m ih =>
    intro h
    have h1 := ih (fun i hi => h i (by omega))
    have h2 := h m (by omega)
    simp only [numL]
    rw [Int.pow_succ]
    omega
/-- the statement at x is spelled as it must be -/
def wfS (tp : List Int) (m x : Nat) : Prop := fmI (tp.getD x 0) < 6 ∧ x + aTxLen.getD (fmI (tp.getD x 0)) 0 ≤ m ∧ ∀ i, 1 ≤ i → i < aTxLen.getD (fmI (tp.getD x 0)) 0 → fitI (tp.getD (x + i) 0) (chr (fmI (tp.getD x 0)) i) = 1
theorem wf_num {tp : List Int} {m x a b f : Nat} (h : wfS tp m x) (hf : fmI (tp.getD x 0) = f) (ha : 1 ≤ a) (hb : a + b < aTxLen.getD f 0) (hc : ∀ i, i < b → chr f (a + i) = 48) : 0 ≤ numL tp (x + a) b ∧ numL tp (x + a) b < 10 ^ b := by
  refine numL_le b fun i hi => ?_
  have h1 := h.2.2 (a + i) (by omega) (by rw [hf]; omega)
  rw [hf, hc i hi] at h1
  have := fit_dig h1
  rw [show x + a + i = x + (a + i) by omega]; exact this
theorem innF_ok {tp : List Int} {m x f : Nat} : ∀ j i, innF tp m x f j i = -1 → ∀ e, i ≤ e → e < i + j → x + e < m ∧ fitI (tp.getD (x + e) 0) (chr f e) = 1 := by
  intro j
  induction j with
  | zero => intro i _ e h1 h2; omega
  | succ j ih =>
    intro i h e h1 h2
    by_cases z : m ≤ x + i ∨ fitI (tp.getD (x + i) 0) (chr f i) = 0
    · rw [innF_t z] at h; omega
    · rw [innF_f z] at h
      by_cases y : e = i
      · subst y
        have := fitI_le (tp.getD (x + e) 0) (chr f e)
        omega
      · exact ih (i + 1) h e (by omega) (by omega)
theorem innF_ge {tp : List Int} {m x f : Nat} : ∀ j i, innF tp m x f j i = -1 ∨ 0 ≤ innF tp m x f j i := by
  intro j
  induction j with
  | zero => intro i; exact Or.inl rfl
  | succ j ih =>
    intro i
    by_cases z : m ≤ x + i ∨ fitI (tp.getD (x + i) 0) (chr f i) = 0
    · rw [innF_t z]; right; omega
    · rw [innF_f z]; exact ih (i + 1)
theorem fwF_wf {tp : List Int} {m s x : Nat} (hx : x < m) (h : fwF tp m (s + 1) x = -1) : wfS tp m x ∧ fwF tp m s (x + aTxLen.getD (fmI (tp.getD x 0)) 0) = -1 := by
  have hf := fmI_le (tp.getD x 0)
  simp only [fwF] at h
  rw [if_neg (by omega)] at h
  by_cases h6 : fmI (tp.getD x 0) = 6
  · rw [if_pos h6] at h; omega
  · rw [if_neg h6] at h
    have hp := tx_pos (fmI (tp.getD x 0)) (by omega)
    by_cases hi : innF tp m x (fmI (tp.getD x 0)) (aTxLen.getD (fmI (tp.getD x 0)) 0 - 1) 1 = -1
    · rw [if_pos hi] at h
      have ok := innF_ok _ _ hi
      refine ⟨⟨by omega, ?_, fun i h1 h2 => (ok i h1 (by omega)).2⟩, h⟩
      have h2 : ∀ f : Nat, f < 6 → 2 ≤ aTxLen.getD f 0 := by decide
      have h3 := h2 _ (show fmI (tp.getD x 0) < 6 by omega)
      have := (ok (aTxLen.getD (fmI (tp.getD x 0)) 0 - 1) (by omega) (by omega)).1
      omega
    · rw [if_neg hi] at h; exact absurd h hi
/-- can the statement at x be done; what it does -/
def sayB (tp : List Int) (x : Nat) : moT → Bool
  | (_, _, _, _, _, _, p, _, d) =>
    if fmI (tp.getD x 0) = 0 then decide (numL tp (x + 3) 2 ≤ 35 ∧ p < 6)
    else if fmI (tp.getD x 0) = 1 then decide (numL tp (x + 1) 1 < (p : Int) ∧ numL tp (x + 2) 2 ≤ 35)
    else if fmI (tp.getD x 0) = 2 then decide (numL tp (x + 1) 1 < (p : Int) ∧ numL tp (x + 2) 1 < (p : Int) ∧ numL tp (x + 1) 1 ≠ numL tp (x + 2) 1)
    else if fmI (tp.getD x 0) = 3 then decide (numL tp (x + 1) 1 < (p : Int))
    else if fmI (tp.getD x 0) = 4 then true
    else decide (1 ≤ numL tp (x + 1) 2 ∧ numL tp (x + 1) 2 ≤ 60 ∧ d + numL tp (x + 1) 2 ≤ 999)
def sayS (tp : List Int) (x : Nat) : moT → moT
  | (k, f, c, n, kp, l, p, t, d) =>
    if fmI (tp.getD x 0) = 0 then (k.set p (kdF (tp.getD (x + 1) 0)), f.set p (numL tp (x + 2) 1), c.set p (numL tp (x + 3) 2), n.set p (numL tp (x + 5) 2), kp.set p 0, addL p l 7, p + 1, t, d)
    else if fmI (tp.getD x 0) = 1 then (k, f, c.set (numL tp (x + 1) 1).toNat (numL tp (x + 2) 2), n, kp, l, p, t, d)
    else if fmI (tp.getD x 0) = 2 then (k, f, c, n, kp, l.set (7 * (numL tp (x + 1) 1).toNat + (numL tp (x + 2) 1).toNat) (numL tp (x + 3) 2), p, t, d)
    else if fmI (tp.getD x 0) = 3 then (k, f, c, n, kp.set (numL tp (x + 1) 1).toNat (numL tp (x + 2) 4), l, p, t, d)
    else if fmI (tp.getD x 0) = 4 then (k, f, c, n, kp, l, p, numL tp (x + 1) 3, d)
    else (k, f, c, n, dayIt p (hasM p k f c l t) n (numL tp (x + 1) 2).toNat kp, l, p, t, d + numL tp (x + 1) 2)
section SAY
variable {tp : List Int} {x : Nat} {k f c n kp l : List Int} {p : Nat} {t d : Int}
theorem sayB_0 (h : fmI (tp.getD x 0) = 0) : sayB tp x (k, f, c, n, kp, l, p, t, d) = decide (numL tp (x + 3) 2 ≤ 35 ∧ p < 6) := by simp only [sayB]; rw [if_pos h]
theorem sayB_1 (h : fmI (tp.getD x 0) = 1) : sayB tp x (k, f, c, n, kp, l, p, t, d) = decide (numL tp (x + 1) 1 < (p : Int) ∧ numL tp (x + 2) 2 ≤ 35) := by simp only [sayB]; rw [if_neg (by omega), if_pos h]
theorem sayB_2 (h : fmI (tp.getD x 0) = 2) : sayB tp x (k, f, c, n, kp, l, p, t, d) = decide (numL tp (x + 1) 1 < (p : Int) ∧ numL tp (x + 2) 1 < (p : Int) ∧ numL tp (x + 1) 1 ≠ numL tp (x + 2) 1) := by simp only [sayB]; rw [if_neg (by omega), if_neg (by omega), if_pos h]
theorem sayB_3 (h : fmI (tp.getD x 0) = 3) : sayB tp x (k, f, c, n, kp, l, p, t, d) = decide (numL tp (x + 1) 1 < (p : Int)) := by simp only [sayB]; rw [if_neg (by omega), if_neg (by omega), if_neg (by omega), if_pos h]
theorem sayB_4 (h : fmI (tp.getD x 0) = 4) : sayB tp x (k, f, c, n, kp, l, p, t, d) = true := by simp only [sayB]; rw [if_neg (by omega), if_neg (by omega), if_neg (by omega), if_neg (by omega), if_pos h]
theorem sayB_5 (h : fmI (tp.getD x 0) = 5) : sayB tp x (k, f, c, n, kp, l, p, t, d) = decide (1 ≤ numL tp (x + 1) 2 ∧ numL tp (x + 1) 2 ≤ 60 ∧ d + numL tp (x + 1) 2 ≤ 999) := by simp only [sayB]; rw [if_neg (by omega), if_neg (by omega), if_neg (by omega), if_neg (by omega), if_neg (by omega)]
theorem sayS_0 (h : fmI (tp.getD x 0) = 0) : sayS tp x (k, f, c, n, kp, l, p, t, d) = (k.set p (kdF (tp.getD (x + 1) 0)), f.set p (numL tp (x + 2) 1), c.set p (numL tp (x + 3) 2), n.set p (numL tp (x + 5) 2), kp.set p 0, addL p l 7, p + 1, t, d) := by simp only [sayS]; rw [if_pos h]
theorem sayS_1 (h : fmI (tp.getD x 0) = 1) : sayS tp x (k, f, c, n, kp, l, p, t, d) = (k, f, c.set (numL tp (x + 1) 1).toNat (numL tp (x + 2) 2), n, kp, l, p, t, d) := by simp only [sayS]; rw [if_neg (by omega), if_pos h]
theorem sayS_2 (h : fmI (tp.getD x 0) = 2) : sayS tp x (k, f, c, n, kp, l, p, t, d) = (k, f, c, n, kp, l.set (7 * (numL tp (x + 1) 1).toNat + (numL tp (x + 2) 1).toNat) (numL tp (x + 3) 2), p, t, d) := by simp only [sayS]; rw [if_neg (by omega), if_neg (by omega), if_pos h]
theorem sayS_3 (h : fmI (tp.getD x 0) = 3) : sayS tp x (k, f, c, n, kp, l, p, t, d) = (k, f, c, n, kp.set (numL tp (x + 1) 1).toNat (numL tp (x + 2) 4), l, p, t, d) := by simp only [sayS]; rw [if_neg (by omega), if_neg (by omega), if_neg (by omega), if_pos h]
theorem sayS_4 (h : fmI (tp.getD x 0) = 4) : sayS tp x (k, f, c, n, kp, l, p, t, d) = (k, f, c, n, kp, l, p, numL tp (x + 1) 3, d) := by simp only [sayS]; rw [if_neg (by omega), if_neg (by omega), if_neg (by omega), if_neg (by omega), if_pos h]
theorem sayS_5 (h : fmI (tp.getD x 0) = 5) : sayS tp x (k, f, c, n, kp, l, p, t, d) = (k, f, c, n, dayIt p (hasM p k f c l t) n (numL tp (x + 1) 2).toNat kp, l, p, t, d + numL tp (x + 1) 2) := by simp only [sayS]; rw [if_neg (by omega), if_neg (by omega), if_neg (by omega), if_neg (by omega), if_neg (by omega)]
end SAY
/-- statements done one behind the other -/
def runF (tp : List Int) (m : Nat) : Nat → Nat → Int → moT → Int × moT
  | 0, _, a, s => (a, s)
  | j + 1, x, a, s => if m ≤ x then (a, s) else if sayB tp x s = true then runF tp m j (x + aTxLen.getD (fmI (tp.getD x 0)) 0) (a + 1) (sayS tp x s) else (-2000 - (x : Int), s)
theorem runF_end {tp : List Int} {m j x : Nat} {a : Int} {s : moT} (h : m ≤ x) : runF tp m j x a s = (a, s) := by
  cases j with
  | zero => rfl
  | succ j => exact if_pos h
theorem runF_t {tp : List Int} {m j x : Nat} {a : Int} {s : moT} (h : ¬ m ≤ x) (hb : sayB tp x s = true) : runF tp m (j + 1) x a s = runF tp m j (x + aTxLen.getD (fmI (tp.getD x 0)) 0) (a + 1) (sayS tp x s) := by simp only [runF]; rw [if_neg h, if_pos hb]
theorem runF_f {tp : List Int} {m j x : Nat} {a : Int} {s : moT} (h : ¬ m ≤ x) (hb : ¬ sayB tp x s = true) : runF tp m (j + 1) x a s = (-2000 - (x : Int), s) := by simp only [runF]; rw [if_neg h, if_neg hb]
def mvA (tp : List Int) (m : Nat) (s : moT) : Int := if 0 ≤ fwF tp m 97 0 then -1000 - fwF tp m 97 0 else (runF tp m 97 0 0 s).1
def mvS (tp : List Int) (m : Nat) (s : moT) : moT := if 0 ≤ mvA tp m s then (runF tp m 97 0 0 s).2 else s
/-- the moor to think on, as it is -/
def thM (s : moT) (B : List (Option aE)) : Prop := s.2.2.2.2.2.2.1 ≤ 6 ∧ s.2.2.2.2.2.2.2.2 ≤ 999 ∧ ∃ (nt w sh : List Int) (wa : Int), mOK s.2.2.2.2.2.2.1 s.1 s.2.1 s.2.2.1 s.2.2.2.1 s.2.2.2.2.1 s.2.2.2.2.2.1 nt w sh s.2.2.2.2.2.2.2.1 s.2.2.2.2.2.2.2.2 wa ∧ B = moSeg 64 s.1 s.2.1 s.2.2.1 s.2.2.2.1 s.2.2.2.2.1 s.2.2.2.2.2.1 nt w sh (s.2.2.2.2.2.2.1 : Int) s.2.2.2.2.2.2.2.1 s.2.2.2.2.2.2.2.2 wa
theorem thM_thk {s : moT} {B : List (Option aE)} (h : thM s B) : thk B := by
  obtain ⟨-, -, nt, w, sh, wa, h1, rfl⟩ := h
  exact thk_of (mOK_lens h1)
theorem mOK_add {p : Nat} {k f c n kp l nt w sh : List Int} {t d wa : Int} (hm : mOK p k f c n kp l nt w sh t d wa) (hp : p ≤ 6) {x1 x2 x3 x4 : Int} (g1 : 0 ≤ x1 ∧ x1 ≤ 5) (g2 : 0 ≤ x2 ∧ x2 ≤ 9) (g3 : 0 ≤ x3 ∧ x3 ≤ 35) (g4 : 0 ≤ x4 ∧ x4 ≤ 99) {nt2 w2 sh2 : List Int} (zn : nOK (p + 1) (addL p l 7) nt2) (zw : wOK (p + 1) (k.set p x1) (f.set p x2) (c.set p x3) w2 (wAll (p + 1) (k.set p x1) (f.set p x2) (c.set p x3))) (zs : sOK (p + 1) (k.set p x1) (f.set p x2) (c.set p x3) sh2 t) :
    mOK (p + 1) (k.set p x1) (f.set p x2) (c.set p x3) (n.set p x4) (kp.set p 0) (addL p l 7) nt2 w2 sh2 t d (wAll (p + 1) (k.set p x1) (f.set p x2) (c.set p x3)) := by
  obtain ⟨⟨hp7, hk, hf, hc, hn, hkp, hl, rk, rf, rc, rn, rkp, rl, ht0, ht1, hd0, hd1⟩, -, -, -⟩ := hm
  exact ⟨⟨by omega, by rw [List.length_set]; exact hk, by rw [List.length_set]; exact hf, by rw [List.length_set]; exact hc, by rw [List.length_set]; exact hn, by rw [List.length_set]; exact hkp, by rw [addL_len]; exact hl, rng_set rk g1.1 g1.2, rng_set rf g2.1 g2.2, rng_set rc g3.1 g3.2, rng_set rn g4.1 g4.2, rng_set rkp (by decide) (by decide), addL_rng (by decide) rl, ht0, ht1, hd0, hd1⟩, zn, zw, zs⟩
section ATZ
variable {A0 A3 B B2 B4 A5 C6 : List (Option aE)} {k f c n kp l nt w sh : List Int} {p : Nat} {t d wa : Int} {N : Nat} {z tl : Int} {fs ss sp la gr tp : List Int}
variable {k1 f1 c1 n1 kp1 l1 nt1 w1 sh1 : List Int} {p1 m : Nat} {t1 d1 wa1 : Int}
set_option maxRecDepth 100000 in
set_option maxHeartbeats 4000000 in
theorem c_say_0t {x : Nat} (hm : mOK p1 k1 f1 c1 n1 kp1 l1 nt1 w1 sh1 t1 d1 wa1) (hp6 : p1 ≤ 6) (hd9 : d1 ≤ 999) (htp : tp.length = 96) (rtp : rng tp 255) (hm9 : m ≤ 96) (hwf : wfS tp m x) (hL : tp.getD x 0 = 112) (hB : (numL tp (x + 3) 2 ≤ 35 ∧ p1 < 6)) : aEv mX6_sayTo 7 0 0 N [.inr 110, .inr 64, .inl (x : Int)] [A0, (moSeg 32 k f c n kp l nt w sh (p : Int) t d wa), (moSeg 64 k1 f1 c1 n1 kp1 l1 nt1 w1 sh1 (p1 : Int) t1 d1 wa1), (miscSeg z fs ss sp la gr (m : Int) tp), B4, A5, C6] ((fun rv h => rv = some (.inl 1) ∧ ∃ B2, thM (sayS tp x (k1, f1, c1, n1, kp1, l1, p1, t1, d1)) B2 ∧ h = [A0, (moSeg 32 k f c n kp l nt w sh (p : Int) t d wa), B2, (miscSeg z fs ss sp la gr (m : Int) tp), B4, A5, C6])) := by
  obtain ⟨⟨hp7, hk, hf, hc, hn, hkp, hl, rk, rf, rc, rn, rkp, rl, ht0, ht1, hd0, hd1⟩, ⟨hnt, znt⟩, ⟨hw, zw, zwa⟩, ⟨hsh, zsh⟩⟩ := id hm
  have hfm : fmI (tp.getD x 0) = 0 := by rw [hL]; rfl
  have hlen := hwf.2.1
  rw [hfm] at hlen
  have hlen2 : x + 8 ≤ m := hlen
  have b2 := wf_num hwf hfm (a := 2) (b := 1) (by decide) (by decide) (by decide +kernel)
  have b2q : (10 : Int) ^ 1 = 10 := by decide
  rw [b2q] at b2
  have b3 := wf_num hwf hfm (a := 3) (b := 2) (by decide) (by decide) (by decide +kernel)
  have b3q : (10 : Int) ^ 2 = 100 := by decide
  rw [b3q] at b3
  have b5 := wf_num hwf hfm (a := 5) (b := 2) (by decide) (by decide) (by decide +kernel)
  have b5q : (10 : Int) ^ 2 = 100 := by decide
  rw [b5q] at b5
  have bk := hwf.2.2 1 (by decide) (by rw [hfm]; decide)
  rw [hfm, show chr 0 1 = 63 by decide +kernel] at bk
  have bk2 := fit_kind bk
  have ro := rtp (x + 1)
  have rn1 : numL tp (x + 1) 1 = 10 * 0 + tp.getD (x + 1 + 0) 0 - 48 := rfl
  rw [Nat.add_zero] at rn1
  refine aEv_of okX6_sayTo caX6_sayTo (Nat.le_of_ble_eq_true rfl) ?_
  refine aGo okX6_sayTo 5 (f' := (5, [some (.inr 110), some (.inr 64), some (.inl (x : Int)), none, none, none, none, none, none], [.inl 1, .inl ((x : Int) + 1), .inr 110], _)) rfl ?_
  refine b_vE (as := [.inl ((x : Int) + 1), .inl 1]) (rest := []) (k := 110) okX6_sayTo rfl lkX6_85 caX6_number (Nat.le_of_ble_eq_true rfl) rfl (Nat.le_of_ble_eq_true rfl) rfl rfl rfl (c_number (x := (x + 1)) (m := 1) (by omega) (by omega) htp) ?_
  rintro _ _ ⟨rfl, rfl⟩
  refine aGo okX6_sayTo 4 (f' := (14, [some (.inr 110), some (.inr 64), some (.inl (x : Int)), some (.inl (numL tp (x + 1) 1)), none, none, none, none, none], [.inl (x : Int), .inr 111], _)) rfl ?_
  refine b_vV (as := [.inl (x : Int)]) (rest := []) (k := 111) (.inl (tp.getD x 0)) okX6_sayTo rfl lkX6_54 caX4_at (Nat.le_of_ble_eq_true rfl) rfl (Nat.le_of_ble_eq_true rfl) rfl rfl rfl (c_at (i := x) rfl rfl (by first | omega | (simp only [List.length_set]; omega)) (by omega)) ?_
  refine b_cast (f' := (17, [some (.inr 110), some (.inr 64), some (.inl (x : Int)), some (.inl (numL tp (x + 1) 1)), none, none, none, none, none], [.inl (112)], [A0, (moSeg 32 k f c n kp l nt w sh (p : Int) t d wa), (moSeg 64 k1 f1 c1 n1 kp1 l1 nt1 w1 sh1 (p1 : Int) t1 d1 wa1), (miscSeg z fs ss sp la gr (m : Int) tp), B4, A5, C6])) (congrArg (fun q : Int => ((17, [some (.inr 110), some (.inr 64), some (.inl (x : Int)), some (.inl (numL tp (x + 1) 1)), none, none, none, none, none], .inl q :: [], [A0, (moSeg 32 k f c n kp l nt w sh (p : Int) t d wa), (moSeg 64 k1 f1 c1 n1 kp1 l1 nt1 w1 sh1 (p1 : Int) t1 d1 wa1), (miscSeg z fs ss sp la gr (m : Int) tp), B4, A5, C6]) : aF)) (hL)) ?_
  refine b_look (tgt := 68) okX6_sayTo rfl (by decide) ⟨by decide, by decide⟩ rfl rfl ?_
  refine aGo okX6_sayTo 6 (f' := (76, [some (.inr 110), some (.inr 64), some (.inl (x : Int)), some (.inl (numL tp (x + 1) 1)), none, none, none, none, none], [.inl ((x : Int) + 1), .inr 111, .inr 110], _)) rfl ?_
  refine b_vV (as := [.inl ((x : Int) + 1)]) (rest := [.inr 110]) (k := 111) (.inl (tp.getD (x + 1) 0)) okX6_sayTo rfl lkX6_54 caX4_at (Nat.le_of_ble_eq_true rfl) rfl (Nat.le_of_ble_eq_true rfl) rfl rfl rfl (c_at (i := (x + 1)) rfl rfl (by first | omega | (simp only [List.length_set]; omega)) (by omega)) ?_
  refine b_vE (as := [.inl (tp.getD (x + 1) 0)]) (rest := []) (k := 110) okX6_sayTo rfl lkX6_80 caX6_kindOf (Nat.le_of_ble_eq_true rfl) rfl (Nat.le_of_ble_eq_true rfl) rfl rfl rfl (c_textKind (rtp _)) ?_
  rintro _ _ ⟨rfl, rfl⟩
  refine aGo okX6_sayTo 6 (f' := (89, [some (.inr 110), some (.inr 64), some (.inl (x : Int)), some (.inl (numL tp (x + 1) 1)), some (.inl (kdF ((tp.getD (x + 1) 0)))), none, none, none, none], [.inl 2, .inl ((x : Int) + 3), .inr 110], _)) rfl ?_
  refine b_vE (as := [.inl ((x : Int) + 3), .inl 2]) (rest := []) (k := 110) okX6_sayTo rfl lkX6_85 caX6_number (Nat.le_of_ble_eq_true rfl) rfl (Nat.le_of_ble_eq_true rfl) rfl rfl rfl (c_number (x := (x + 3)) (m := 2) (by omega) (by omega) htp) ?_
  rintro _ _ ⟨rfl, rfl⟩
  refine aGo okX6_sayTo 2 (f' := (96, [some (.inr 110), some (.inr 64), some (.inl (x : Int)), some (.inl (numL tp (x + 1) 1)), some (.inl (kdF ((tp.getD (x + 1) 0)))), some (.inl (numL tp (x + 3) 2)), none, none, none], [.inl (numL tp (x + 3) 2)], _)) rfl ?_
  by_cases hc96 : 0 ≤ (numL tp (x + 3) 2) ∧ (numL tp (x + 3) 2) ≤ 35
  · refine b_vT (as := [.inl (numL tp (x + 3) 2)]) (rest := []) (.inl 1) okX6_sayTo rfl lkX6_88 caX7_isCell (Nat.le_of_ble_eq_true rfl) rfl (Nat.le_of_ble_eq_true rfl) rfl (c_isCell_t ⟨by omega, by omega⟩) ?_
    refine b0_eq (tgt := 111) okX6_sayTo rfl rfl ⟨by omega, by omega⟩ (fun h99 => absurd h99 (by omega)) (fun h99 => ?_)
    refine aGo okX6_sayTo 1 (f' := (103, [some (.inr 110), some (.inr 64), some (.inl (x : Int)), some (.inl (numL tp (x + 1) 1)), some (.inl (kdF ((tp.getD (x + 1) 0)))), some (.inl (numL tp (x + 3) 2)), none, none, none], [.inr 64], _)) rfl ?_
    refine b_vV (as := []) (rest := []) (k := 64) (.inl (p1 : Int)) okX6_sayTo rfl lkX6_92 caX3_people (Nat.le_of_ble_eq_true rfl) rfl (Nat.le_of_ble_eq_true rfl) rfl rfl rfl (c_people_2) ?_
    refine aGo okX6_sayTo 1 (f' := (108, [some (.inr 110), some (.inr 64), some (.inl (x : Int)), some (.inl (numL tp (x + 1) 1)), some (.inl (kdF ((tp.getD (x + 1) 0)))), some (.inl (numL tp (x + 3) 2)), none, none, none], [.inl 6, .inl (p1 : Int)], _)) rfl ?_
    refine b_lt (tgt := 113) okX6_sayTo rfl rfl ⟨by omega, by omega⟩ ⟨by omega, by omega⟩ (fun h108 => ?_) (fun h108 => ?_)
    · refine aGo okX6_sayTo 7 (f' := (121, [some (.inr 110), some (.inr 64), some (.inl (x : Int)), some (.inl (numL tp (x + 1) 1)), some (.inl (kdF ((tp.getD (x + 1) 0)))), some (.inl (numL tp (x + 3) 2)), none, none, none], [.inl 1, .inl ((x : Int) + 2), .inr 110, .inl (kdF ((tp.getD (x + 1) 0))), .inr 64], _)) rfl ?_
      refine b_vE (as := [.inl ((x : Int) + 2), .inl 1]) (rest := [.inl (kdF ((tp.getD (x + 1) 0))), .inr 64]) (k := 110) okX6_sayTo rfl lkX6_85 caX6_number (Nat.le_of_ble_eq_true rfl) rfl (Nat.le_of_ble_eq_true rfl) rfl rfl rfl (c_number (x := (x + 2)) (m := 1) (by omega) (by omega) htp) ?_
      rintro _ _ ⟨rfl, rfl⟩
      refine aGo okX6_sayTo 6 (f' := (131, [some (.inr 110), some (.inr 64), some (.inl (x : Int)), some (.inl (numL tp (x + 1) 1)), some (.inl (kdF ((tp.getD (x + 1) 0)))), some (.inl (numL tp (x + 3) 2)), none, none, none], [.inl 2, .inl ((x : Int) + 5), .inr 110, .inl (numL tp (x + 3) 2), .inl (numL tp (x + 2) 1), .inl (kdF ((tp.getD (x + 1) 0))), .inr 64], _)) rfl ?_
      refine b_vE (as := [.inl ((x : Int) + 5), .inl 2]) (rest := [.inl (numL tp (x + 3) 2), .inl (numL tp (x + 2) 1), .inl (kdF ((tp.getD (x + 1) 0))), .inr 64]) (k := 110) okX6_sayTo rfl lkX6_85 caX6_number (Nat.le_of_ble_eq_true rfl) rfl (Nat.le_of_ble_eq_true rfl) rfl rfl rfl (c_number (x := (x + 5)) (m := 2) (by omega) (by omega) htp) ?_
      rintro _ _ ⟨rfl, rfl⟩
      refine b_vE (as := [.inl (kdF ((tp.getD (x + 1) 0))), .inl (numL tp (x + 2) 1), .inl (numL tp (x + 3) 2), .inl (numL tp (x + 5) 2)]) (rest := []) (k := 64) okX6_sayTo rfl lkX6_97 caX3_add (Nat.le_of_ble_eq_true rfl) rfl (Nat.le_of_ble_eq_true rfl) rfl rfl rfl (c_add_2 (mOK_wH hm) (by omega) hn hkp hl hnt (x1 := (kdF ((tp.getD (x + 1) 0)))) (x2 := (numL tp (x + 2) 1)) (x3 := (numL tp (x + 3) 2)) (x4 := (numL tp (x + 5) 2)) (by omega) (by omega) (by omega)) ?_
      rintro _ _ ⟨rfl, nt2, w2, sh2, zn2, zw2, zs2, rfl⟩
      refine aGo okX6_sayTo 1 (f' := (138, [some (.inr 110), some (.inr 64), some (.inl (x : Int)), some (.inl (numL tp (x + 1) 1)), some (.inl (kdF ((tp.getD (x + 1) 0)))), some (.inl (numL tp (x + 3) 2)), none, none, none], [.inl 1], _)) rfl ?_
      exact b_ret (v := (some (.inl 1))) ⟨rfl, Or.inr ⟨rfl, Or.inr rfl⟩⟩ ⟨rfl, _, by rw [sayS_0 hfm]; exact ⟨(show p1 + 1 ≤ 6 by omega), hd9, nt2, w2, sh2, _, mOK_add hm (by omega) bk2 ⟨by omega, by omega⟩ ⟨by omega, by omega⟩ ⟨by omega, by omega⟩ zn2 zw2 zs2, rfl⟩, rfl⟩ rfl
    · exfalso; omega
  · refine b_vT (as := [.inl (numL tp (x + 3) 2)]) (rest := []) (.inl 0) okX6_sayTo rfl lkX6_88 caX7_isCell (Nat.le_of_ble_eq_true rfl) rfl (Nat.le_of_ble_eq_true rfl) rfl (c_isCell_f ⟨by omega, by omega⟩ hc96) ?_
    refine b0_eq (tgt := 111) okX6_sayTo rfl rfl ⟨by omega, by omega⟩ (fun h99 => ?_) (fun h99 => absurd h99 (by omega))
    exfalso; omega
set_option maxRecDepth 100000 in
set_option maxHeartbeats 4000000 in
theorem c_say_0f {x : Nat} (hm : mOK p1 k1 f1 c1 n1 kp1 l1 nt1 w1 sh1 t1 d1 wa1) (hp6 : p1 ≤ 6) (hd9 : d1 ≤ 999) (htp : tp.length = 96) (rtp : rng tp 255) (hm9 : m ≤ 96) (hwf : wfS tp m x) (hL : tp.getD x 0 = 112) (hB : ¬ (numL tp (x + 3) 2 ≤ 35 ∧ p1 < 6)) : aEv mX6_sayTo 7 0 0 N [.inr 110, .inr 64, .inl (x : Int)] [A0, (moSeg 32 k f c n kp l nt w sh (p : Int) t d wa), (moSeg 64 k1 f1 c1 n1 kp1 l1 nt1 w1 sh1 (p1 : Int) t1 d1 wa1), (miscSeg z fs ss sp la gr (m : Int) tp), B4, A5, C6] ((fun rv h => rv = some (.inl 0) ∧ ∃ B2, thM (k1, f1, c1, n1, kp1, l1, p1, t1, d1) B2 ∧ h = [A0, (moSeg 32 k f c n kp l nt w sh (p : Int) t d wa), B2, (miscSeg z fs ss sp la gr (m : Int) tp), B4, A5, C6])) := by
  obtain ⟨⟨hp7, hk, hf, hc, hn, hkp, hl, rk, rf, rc, rn, rkp, rl, ht0, ht1, hd0, hd1⟩, ⟨hnt, znt⟩, ⟨hw, zw, zwa⟩, ⟨hsh, zsh⟩⟩ := id hm
  have hfm : fmI (tp.getD x 0) = 0 := by rw [hL]; rfl
  have hlen := hwf.2.1
  rw [hfm] at hlen
  have hlen2 : x + 8 ≤ m := hlen
  have b2 := wf_num hwf hfm (a := 2) (b := 1) (by decide) (by decide) (by decide +kernel)
  have b2q : (10 : Int) ^ 1 = 10 := by decide
  rw [b2q] at b2
  have b3 := wf_num hwf hfm (a := 3) (b := 2) (by decide) (by decide) (by decide +kernel)
  have b3q : (10 : Int) ^ 2 = 100 := by decide
  rw [b3q] at b3
  have b5 := wf_num hwf hfm (a := 5) (b := 2) (by decide) (by decide) (by decide +kernel)
  have b5q : (10 : Int) ^ 2 = 100 := by decide
  rw [b5q] at b5
  have bk := hwf.2.2 1 (by decide) (by rw [hfm]; decide)
  rw [hfm, show chr 0 1 = 63 by decide +kernel] at bk
  have bk2 := fit_kind bk
  have ro := rtp (x + 1)
  have rn1 : numL tp (x + 1) 1 = 10 * 0 + tp.getD (x + 1 + 0) 0 - 48 := rfl
  rw [Nat.add_zero] at rn1
  refine aEv_of okX6_sayTo caX6_sayTo (Nat.le_of_ble_eq_true rfl) ?_
  refine aGo okX6_sayTo 5 (f' := (5, [some (.inr 110), some (.inr 64), some (.inl (x : Int)), none, none, none, none, none, none], [.inl 1, .inl ((x : Int) + 1), .inr 110], _)) rfl ?_
  refine b_vE (as := [.inl ((x : Int) + 1), .inl 1]) (rest := []) (k := 110) okX6_sayTo rfl lkX6_85 caX6_number (Nat.le_of_ble_eq_true rfl) rfl (Nat.le_of_ble_eq_true rfl) rfl rfl rfl (c_number (x := (x + 1)) (m := 1) (by omega) (by omega) htp) ?_
  rintro _ _ ⟨rfl, rfl⟩
  refine aGo okX6_sayTo 4 (f' := (14, [some (.inr 110), some (.inr 64), some (.inl (x : Int)), some (.inl (numL tp (x + 1) 1)), none, none, none, none, none], [.inl (x : Int), .inr 111], _)) rfl ?_
  refine b_vV (as := [.inl (x : Int)]) (rest := []) (k := 111) (.inl (tp.getD x 0)) okX6_sayTo rfl lkX6_54 caX4_at (Nat.le_of_ble_eq_true rfl) rfl (Nat.le_of_ble_eq_true rfl) rfl rfl rfl (c_at (i := x) rfl rfl (by first | omega | (simp only [List.length_set]; omega)) (by omega)) ?_
  refine b_cast (f' := (17, [some (.inr 110), some (.inr 64), some (.inl (x : Int)), some (.inl (numL tp (x + 1) 1)), none, none, none, none, none], [.inl (112)], [A0, (moSeg 32 k f c n kp l nt w sh (p : Int) t d wa), (moSeg 64 k1 f1 c1 n1 kp1 l1 nt1 w1 sh1 (p1 : Int) t1 d1 wa1), (miscSeg z fs ss sp la gr (m : Int) tp), B4, A5, C6])) (congrArg (fun q : Int => ((17, [some (.inr 110), some (.inr 64), some (.inl (x : Int)), some (.inl (numL tp (x + 1) 1)), none, none, none, none, none], .inl q :: [], [A0, (moSeg 32 k f c n kp l nt w sh (p : Int) t d wa), (moSeg 64 k1 f1 c1 n1 kp1 l1 nt1 w1 sh1 (p1 : Int) t1 d1 wa1), (miscSeg z fs ss sp la gr (m : Int) tp), B4, A5, C6]) : aF)) (hL)) ?_
  refine b_look (tgt := 68) okX6_sayTo rfl (by decide) ⟨by decide, by decide⟩ rfl rfl ?_
  refine aGo okX6_sayTo 6 (f' := (76, [some (.inr 110), some (.inr 64), some (.inl (x : Int)), some (.inl (numL tp (x + 1) 1)), none, none, none, none, none], [.inl ((x : Int) + 1), .inr 111, .inr 110], _)) rfl ?_
  refine b_vV (as := [.inl ((x : Int) + 1)]) (rest := [.inr 110]) (k := 111) (.inl (tp.getD (x + 1) 0)) okX6_sayTo rfl lkX6_54 caX4_at (Nat.le_of_ble_eq_true rfl) rfl (Nat.le_of_ble_eq_true rfl) rfl rfl rfl (c_at (i := (x + 1)) rfl rfl (by first | omega | (simp only [List.length_set]; omega)) (by omega)) ?_
  refine b_vE (as := [.inl (tp.getD (x + 1) 0)]) (rest := []) (k := 110) okX6_sayTo rfl lkX6_80 caX6_kindOf (Nat.le_of_ble_eq_true rfl) rfl (Nat.le_of_ble_eq_true rfl) rfl rfl rfl (c_textKind (rtp _)) ?_
  rintro _ _ ⟨rfl, rfl⟩
  refine aGo okX6_sayTo 6 (f' := (89, [some (.inr 110), some (.inr 64), some (.inl (x : Int)), some (.inl (numL tp (x + 1) 1)), some (.inl (kdF ((tp.getD (x + 1) 0)))), none, none, none, none], [.inl 2, .inl ((x : Int) + 3), .inr 110], _)) rfl ?_
  refine b_vE (as := [.inl ((x : Int) + 3), .inl 2]) (rest := []) (k := 110) okX6_sayTo rfl lkX6_85 caX6_number (Nat.le_of_ble_eq_true rfl) rfl (Nat.le_of_ble_eq_true rfl) rfl rfl rfl (c_number (x := (x + 3)) (m := 2) (by omega) (by omega) htp) ?_
  rintro _ _ ⟨rfl, rfl⟩
  refine aGo okX6_sayTo 2 (f' := (96, [some (.inr 110), some (.inr 64), some (.inl (x : Int)), some (.inl (numL tp (x + 1) 1)), some (.inl (kdF ((tp.getD (x + 1) 0)))), some (.inl (numL tp (x + 3) 2)), none, none, none], [.inl (numL tp (x + 3) 2)], _)) rfl ?_
  by_cases hc96 : 0 ≤ (numL tp (x + 3) 2) ∧ (numL tp (x + 3) 2) ≤ 35
  · refine b_vT (as := [.inl (numL tp (x + 3) 2)]) (rest := []) (.inl 1) okX6_sayTo rfl lkX6_88 caX7_isCell (Nat.le_of_ble_eq_true rfl) rfl (Nat.le_of_ble_eq_true rfl) rfl (c_isCell_t ⟨by omega, by omega⟩) ?_
    refine b0_eq (tgt := 111) okX6_sayTo rfl rfl ⟨by omega, by omega⟩ (fun h99 => absurd h99 (by omega)) (fun h99 => ?_)
    refine aGo okX6_sayTo 1 (f' := (103, [some (.inr 110), some (.inr 64), some (.inl (x : Int)), some (.inl (numL tp (x + 1) 1)), some (.inl (kdF ((tp.getD (x + 1) 0)))), some (.inl (numL tp (x + 3) 2)), none, none, none], [.inr 64], _)) rfl ?_
    refine b_vV (as := []) (rest := []) (k := 64) (.inl (p1 : Int)) okX6_sayTo rfl lkX6_92 caX3_people (Nat.le_of_ble_eq_true rfl) rfl (Nat.le_of_ble_eq_true rfl) rfl rfl rfl (c_people_2) ?_
    refine aGo okX6_sayTo 1 (f' := (108, [some (.inr 110), some (.inr 64), some (.inl (x : Int)), some (.inl (numL tp (x + 1) 1)), some (.inl (kdF ((tp.getD (x + 1) 0)))), some (.inl (numL tp (x + 3) 2)), none, none, none], [.inl 6, .inl (p1 : Int)], _)) rfl ?_
    refine b_lt (tgt := 113) okX6_sayTo rfl rfl ⟨by omega, by omega⟩ ⟨by omega, by omega⟩ (fun h108 => ?_) (fun h108 => ?_)
    · exfalso; omega
    · refine aGo okX6_sayTo 1 (f' := (112, [some (.inr 110), some (.inr 64), some (.inl (x : Int)), some (.inl (numL tp (x + 1) 1)), some (.inl (kdF ((tp.getD (x + 1) 0)))), some (.inl (numL tp (x + 3) 2)), none, none, none], [.inl 0], _)) rfl ?_
      exact b_ret (v := (some (.inl 0))) ⟨rfl, Or.inr ⟨rfl, Or.inl rfl⟩⟩ ⟨rfl, _, ⟨hp6, hd9, nt1, w1, sh1, wa1, hm, rfl⟩, rfl⟩ rfl
  · refine b_vT (as := [.inl (numL tp (x + 3) 2)]) (rest := []) (.inl 0) okX6_sayTo rfl lkX6_88 caX7_isCell (Nat.le_of_ble_eq_true rfl) rfl (Nat.le_of_ble_eq_true rfl) rfl (c_isCell_f ⟨by omega, by omega⟩ hc96) ?_
    refine b0_eq (tgt := 111) okX6_sayTo rfl rfl ⟨by omega, by omega⟩ (fun h99 => ?_) (fun h99 => absurd h99 (by omega))
    refine aGo okX6_sayTo 1 (f' := (112, [some (.inr 110), some (.inr 64), some (.inl (x : Int)), some (.inl (numL tp (x + 1) 1)), some (.inl (kdF ((tp.getD (x + 1) 0)))), some (.inl (numL tp (x + 3) 2)), none, none, none], [.inl 0], _)) rfl ?_
    exact b_ret (v := (some (.inl 0))) ⟨rfl, Or.inr ⟨rfl, Or.inl rfl⟩⟩ ⟨rfl, _, ⟨hp6, hd9, nt1, w1, sh1, wa1, hm, rfl⟩, rfl⟩ rfl
set_option maxRecDepth 100000 in
set_option maxHeartbeats 4000000 in
theorem c_say_1t {x : Nat} (hm : mOK p1 k1 f1 c1 n1 kp1 l1 nt1 w1 sh1 t1 d1 wa1) (hp6 : p1 ≤ 6) (hd9 : d1 ≤ 999) (htp : tp.length = 96) (rtp : rng tp 255) (hm9 : m ≤ 96) (hwf : wfS tp m x) (hL : tp.getD x 0 = 97) (hB : (numL tp (x + 1) 1 < (p1 : Int) ∧ numL tp (x + 2) 2 ≤ 35)) : aEv mX6_sayTo 7 0 0 N [.inr 110, .inr 64, .inl (x : Int)] [A0, (moSeg 32 k f c n kp l nt w sh (p : Int) t d wa), (moSeg 64 k1 f1 c1 n1 kp1 l1 nt1 w1 sh1 (p1 : Int) t1 d1 wa1), (miscSeg z fs ss sp la gr (m : Int) tp), B4, A5, C6] ((fun rv h => rv = some (.inl 1) ∧ ∃ B2, thM (sayS tp x (k1, f1, c1, n1, kp1, l1, p1, t1, d1)) B2 ∧ h = [A0, (moSeg 32 k f c n kp l nt w sh (p : Int) t d wa), B2, (miscSeg z fs ss sp la gr (m : Int) tp), B4, A5, C6])) := by
  obtain ⟨⟨hp7, hk, hf, hc, hn, hkp, hl, rk, rf, rc, rn, rkp, rl, ht0, ht1, hd0, hd1⟩, ⟨hnt, znt⟩, ⟨hw, zw, zwa⟩, ⟨hsh, zsh⟩⟩ := id hm
  have hfm : fmI (tp.getD x 0) = 1 := by rw [hL]; rfl
  have hlen := hwf.2.1
  rw [hfm] at hlen
  have hlen2 : x + 5 ≤ m := hlen
  have b1 := wf_num hwf hfm (a := 1) (b := 1) (by decide) (by decide) (by decide +kernel)
  have b1q : (10 : Int) ^ 1 = 10 := by decide
  rw [b1q] at b1
  have b2 := wf_num hwf hfm (a := 2) (b := 2) (by decide) (by decide) (by decide +kernel)
  have b2q : (10 : Int) ^ 2 = 100 := by decide
  rw [b2q] at b2
  have ro := rtp (x + 1)
  have rn1 : numL tp (x + 1) 1 = 10 * 0 + tp.getD (x + 1 + 0) 0 - 48 := rfl
  rw [Nat.add_zero] at rn1
  obtain ⟨o1, ho1⟩ : ∃ o1 : Nat, numL tp (x + 1) 1 = (o1 : Int) := ⟨(numL tp (x + 1) 1).toNat, by omega⟩
  refine aEv_of okX6_sayTo caX6_sayTo (Nat.le_of_ble_eq_true rfl) ?_
  refine aGo okX6_sayTo 5 (f' := (5, [some (.inr 110), some (.inr 64), some (.inl (x : Int)), none, none, none, none, none, none], [.inl 1, .inl ((x : Int) + 1), .inr 110], _)) rfl ?_
  refine b_vE (as := [.inl ((x : Int) + 1), .inl 1]) (rest := []) (k := 110) okX6_sayTo rfl lkX6_85 caX6_number (Nat.le_of_ble_eq_true rfl) rfl (Nat.le_of_ble_eq_true rfl) rfl rfl rfl (c_number (x := (x + 1)) (m := 1) (by omega) (by omega) htp) ?_
  rintro _ _ ⟨rfl, rfl⟩
  refine b_cast (f' := (8, [some (.inr 110), some (.inr 64), some (.inl (x : Int)), none, none, none, none, none, none], [.inl (o1 : Int)], [A0, (moSeg 32 k f c n kp l nt w sh (p : Int) t d wa), (moSeg 64 k1 f1 c1 n1 kp1 l1 nt1 w1 sh1 (p1 : Int) t1 d1 wa1), (miscSeg z fs ss sp la gr (m : Int) tp), B4, A5, C6])) (congrArg (fun q : Int => ((8, [some (.inr 110), some (.inr 64), some (.inl (x : Int)), none, none, none, none, none, none], .inl q :: [], [A0, (moSeg 32 k f c n kp l nt w sh (p : Int) t d wa), (moSeg 64 k1 f1 c1 n1 kp1 l1 nt1 w1 sh1 (p1 : Int) t1 d1 wa1), (miscSeg z fs ss sp la gr (m : Int) tp), B4, A5, C6]) : aF)) (ho1)) ?_
  refine aGo okX6_sayTo 4 (f' := (14, [some (.inr 110), some (.inr 64), some (.inl (x : Int)), some (.inl (o1 : Int)), none, none, none, none, none], [.inl (x : Int), .inr 111], _)) rfl ?_
  refine b_vV (as := [.inl (x : Int)]) (rest := []) (k := 111) (.inl (tp.getD x 0)) okX6_sayTo rfl lkX6_54 caX4_at (Nat.le_of_ble_eq_true rfl) rfl (Nat.le_of_ble_eq_true rfl) rfl rfl rfl (c_at (i := x) rfl rfl (by first | omega | (simp only [List.length_set]; omega)) (by omega)) ?_
  refine b_cast (f' := (17, [some (.inr 110), some (.inr 64), some (.inl (x : Int)), some (.inl (o1 : Int)), none, none, none, none, none], [.inl (97)], [A0, (moSeg 32 k f c n kp l nt w sh (p : Int) t d wa), (moSeg 64 k1 f1 c1 n1 kp1 l1 nt1 w1 sh1 (p1 : Int) t1 d1 wa1), (miscSeg z fs ss sp la gr (m : Int) tp), B4, A5, C6])) (congrArg (fun q : Int => ((17, [some (.inr 110), some (.inr 64), some (.inl (x : Int)), some (.inl (o1 : Int)), none, none, none, none, none], .inl q :: [], [A0, (moSeg 32 k f c n kp l nt w sh (p : Int) t d wa), (moSeg 64 k1 f1 c1 n1 kp1 l1 nt1 w1 sh1 (p1 : Int) t1 d1 wa1), (miscSeg z fs ss sp la gr (m : Int) tp), B4, A5, C6]) : aF)) (hL)) ?_
  refine b_look (tgt := 139) okX6_sayTo rfl (by decide) ⟨by decide, by decide⟩ rfl rfl ?_
  refine aGo okX6_sayTo 5 (f' := (144, [some (.inr 110), some (.inr 64), some (.inl (x : Int)), some (.inl (o1 : Int)), none, none, none, none, none], [.inl 2, .inl ((x : Int) + 2), .inr 110], _)) rfl ?_
  refine b_vE (as := [.inl ((x : Int) + 2), .inl 2]) (rest := []) (k := 110) okX6_sayTo rfl lkX6_85 caX6_number (Nat.le_of_ble_eq_true rfl) rfl (Nat.le_of_ble_eq_true rfl) rfl rfl rfl (c_number (x := (x + 2)) (m := 2) (by omega) (by omega) htp) ?_
  rintro _ _ ⟨rfl, rfl⟩
  refine aGo okX6_sayTo 3 (f' := (151, [some (.inr 110), some (.inr 64), some (.inl (x : Int)), some (.inl (o1 : Int)), none, none, some (.inl (numL tp (x + 2) 2)), none, none], [.inl (o1 : Int), .inr 64], _)) rfl ?_
  by_cases hc151 : 0 ≤ (o1 : Int) ∧ (o1 : Int) < (p1 : Int)
  · refine b_vV (as := [.inl (o1 : Int)]) (rest := []) (k := 64) (.inl 1) okX6_sayTo rfl lkX6_101 caX3_isThere (Nat.le_of_ble_eq_true rfl) rfl (Nat.le_of_ble_eq_true rfl) rfl rfl rfl (c_isThere_2_t (x := (o1 : Int)) hp7 hc151.1 hc151.2) ?_
    refine b0_eq (tgt := 165) okX6_sayTo rfl rfl ⟨by omega, by omega⟩ (fun h154 => absurd h154 (by omega)) (fun h154 => ?_)
    refine aGo okX6_sayTo 1 (f' := (159, [some (.inr 110), some (.inr 64), some (.inl (x : Int)), some (.inl (o1 : Int)), none, none, some (.inl (numL tp (x + 2) 2)), none, none], [.inl (numL tp (x + 2) 2)], _)) rfl ?_
    by_cases hc159 : 0 ≤ (numL tp (x + 2) 2) ∧ (numL tp (x + 2) 2) ≤ 35
    · refine b_vT (as := [.inl (numL tp (x + 2) 2)]) (rest := []) (.inl 1) okX6_sayTo rfl lkX6_88 caX7_isCell (Nat.le_of_ble_eq_true rfl) rfl (Nat.le_of_ble_eq_true rfl) rfl (c_isCell_t ⟨by omega, by omega⟩) ?_
      refine b0_ne (tgt := 167) okX6_sayTo rfl rfl ⟨by omega, by omega⟩ (fun h162 => ?_) (fun h162 => absurd h162 (by omega))
      refine aGo okX6_sayTo 3 (f' := (171, [some (.inr 110), some (.inr 64), some (.inl (x : Int)), some (.inl (o1 : Int)), none, none, some (.inl (numL tp (x + 2) 2)), none, none], [.inl (numL tp (x + 2) 2), .inl (o1 : Int), .inr 64], _)) rfl ?_
      refine b_vE (as := [.inl (o1 : Int), .inl (numL tp (x + 2) 2)]) (rest := []) (k := 64) okX6_sayTo rfl lkX6_104 caX3_place (Nat.le_of_ble_eq_true rfl) rfl (Nat.le_of_ble_eq_true rfl) rfl rfl rfl (c_place_2 (mOK_wH hm) (i := o1) (by omega) (v := (numL tp (x + 2) 2)) (by omega) (by omega)) ?_
      rintro _ _ ⟨rfl, w2, sh2, zw2, zs2, rfl⟩
      refine aGo okX6_sayTo 1 (f' := (175, [some (.inr 110), some (.inr 64), some (.inl (x : Int)), some (.inl (o1 : Int)), none, none, some (.inl (numL tp (x + 2) 2)), none, none], [.inl 1], _)) rfl ?_
      exact b_ret (v := (some (.inl 1))) ⟨rfl, Or.inr ⟨rfl, Or.inr rfl⟩⟩ ⟨rfl, _, by rw [sayS_1 hfm, ho1]; exact ⟨hp6, hd9, nt1, w2, sh2, _, mOK_place hm (by omega) (by omega) zw2 zs2, rfl⟩, rfl⟩ rfl
    · refine b_vT (as := [.inl (numL tp (x + 2) 2)]) (rest := []) (.inl 0) okX6_sayTo rfl lkX6_88 caX7_isCell (Nat.le_of_ble_eq_true rfl) rfl (Nat.le_of_ble_eq_true rfl) rfl (c_isCell_f ⟨by omega, by omega⟩ hc159) ?_
      refine b0_ne (tgt := 167) okX6_sayTo rfl rfl ⟨by omega, by omega⟩ (fun h162 => absurd h162 (by omega)) (fun h162 => ?_)
      exfalso; omega
  · refine b_vV (as := [.inl (o1 : Int)]) (rest := []) (k := 64) (.inl 0) okX6_sayTo rfl lkX6_101 caX3_isThere (Nat.le_of_ble_eq_true rfl) rfl (Nat.le_of_ble_eq_true rfl) rfl rfl rfl (c_isThere_2_f (x := (o1 : Int)) hp7 ⟨by omega, by omega⟩ hc151) ?_
    refine b0_eq (tgt := 165) okX6_sayTo rfl rfl ⟨by omega, by omega⟩ (fun h154 => ?_) (fun h154 => absurd h154 (by omega))
    exfalso; omega
set_option maxRecDepth 100000 in
set_option maxHeartbeats 4000000 in
theorem c_say_1f {x : Nat} (hm : mOK p1 k1 f1 c1 n1 kp1 l1 nt1 w1 sh1 t1 d1 wa1) (hp6 : p1 ≤ 6) (hd9 : d1 ≤ 999) (htp : tp.length = 96) (rtp : rng tp 255) (hm9 : m ≤ 96) (hwf : wfS tp m x) (hL : tp.getD x 0 = 97) (hB : ¬ (numL tp (x + 1) 1 < (p1 : Int) ∧ numL tp (x + 2) 2 ≤ 35)) : aEv mX6_sayTo 7 0 0 N [.inr 110, .inr 64, .inl (x : Int)] [A0, (moSeg 32 k f c n kp l nt w sh (p : Int) t d wa), (moSeg 64 k1 f1 c1 n1 kp1 l1 nt1 w1 sh1 (p1 : Int) t1 d1 wa1), (miscSeg z fs ss sp la gr (m : Int) tp), B4, A5, C6] ((fun rv h => rv = some (.inl 0) ∧ ∃ B2, thM (k1, f1, c1, n1, kp1, l1, p1, t1, d1) B2 ∧ h = [A0, (moSeg 32 k f c n kp l nt w sh (p : Int) t d wa), B2, (miscSeg z fs ss sp la gr (m : Int) tp), B4, A5, C6])) := by
  obtain ⟨⟨hp7, hk, hf, hc, hn, hkp, hl, rk, rf, rc, rn, rkp, rl, ht0, ht1, hd0, hd1⟩, ⟨hnt, znt⟩, ⟨hw, zw, zwa⟩, ⟨hsh, zsh⟩⟩ := id hm
  have hfm : fmI (tp.getD x 0) = 1 := by rw [hL]; rfl
  have hlen := hwf.2.1
  rw [hfm] at hlen
  have hlen2 : x + 5 ≤ m := hlen
  have b1 := wf_num hwf hfm (a := 1) (b := 1) (by decide) (by decide) (by decide +kernel)
  have b1q : (10 : Int) ^ 1 = 10 := by decide
  rw [b1q] at b1
  have b2 := wf_num hwf hfm (a := 2) (b := 2) (by decide) (by decide) (by decide +kernel)
  have b2q : (10 : Int) ^ 2 = 100 := by decide
  rw [b2q] at b2
  have ro := rtp (x + 1)
  have rn1 : numL tp (x + 1) 1 = 10 * 0 + tp.getD (x + 1 + 0) 0 - 48 := rfl
  rw [Nat.add_zero] at rn1
  obtain ⟨o1, ho1⟩ : ∃ o1 : Nat, numL tp (x + 1) 1 = (o1 : Int) := ⟨(numL tp (x + 1) 1).toNat, by omega⟩
  refine aEv_of okX6_sayTo caX6_sayTo (Nat.le_of_ble_eq_true rfl) ?_
  refine aGo okX6_sayTo 5 (f' := (5, [some (.inr 110), some (.inr 64), some (.inl (x : Int)), none, none, none, none, none, none], [.inl 1, .inl ((x : Int) + 1), .inr 110], _)) rfl ?_
  refine b_vE (as := [.inl ((x : Int) + 1), .inl 1]) (rest := []) (k := 110) okX6_sayTo rfl lkX6_85 caX6_number (Nat.le_of_ble_eq_true rfl) rfl (Nat.le_of_ble_eq_true rfl) rfl rfl rfl (c_number (x := (x + 1)) (m := 1) (by omega) (by omega) htp) ?_
  rintro _ _ ⟨rfl, rfl⟩
  refine b_cast (f' := (8, [some (.inr 110), some (.inr 64), some (.inl (x : Int)), none, none, none, none, none, none], [.inl (o1 : Int)], [A0, (moSeg 32 k f c n kp l nt w sh (p : Int) t d wa), (moSeg 64 k1 f1 c1 n1 kp1 l1 nt1 w1 sh1 (p1 : Int) t1 d1 wa1), (miscSeg z fs ss sp la gr (m : Int) tp), B4, A5, C6])) (congrArg (fun q : Int => ((8, [some (.inr 110), some (.inr 64), some (.inl (x : Int)), none, none, none, none, none, none], .inl q :: [], [A0, (moSeg 32 k f c n kp l nt w sh (p : Int) t d wa), (moSeg 64 k1 f1 c1 n1 kp1 l1 nt1 w1 sh1 (p1 : Int) t1 d1 wa1), (miscSeg z fs ss sp la gr (m : Int) tp), B4, A5, C6]) : aF)) (ho1)) ?_
  refine aGo okX6_sayTo 4 (f' := (14, [some (.inr 110), some (.inr 64), some (.inl (x : Int)), some (.inl (o1 : Int)), none, none, none, none, none], [.inl (x : Int), .inr 111], _)) rfl ?_
  refine b_vV (as := [.inl (x : Int)]) (rest := []) (k := 111) (.inl (tp.getD x 0)) okX6_sayTo rfl lkX6_54 caX4_at (Nat.le_of_ble_eq_true rfl) rfl (Nat.le_of_ble_eq_true rfl) rfl rfl rfl (c_at (i := x) rfl rfl (by first | omega | (simp only [List.length_set]; omega)) (by omega)) ?_
  refine b_cast (f' := (17, [some (.inr 110), some (.inr 64), some (.inl (x : Int)), some (.inl (o1 : Int)), none, none, none, none, none], [.inl (97)], [A0, (moSeg 32 k f c n kp l nt w sh (p : Int) t d wa), (moSeg 64 k1 f1 c1 n1 kp1 l1 nt1 w1 sh1 (p1 : Int) t1 d1 wa1), (miscSeg z fs ss sp la gr (m : Int) tp), B4, A5, C6])) (congrArg (fun q : Int => ((17, [some (.inr 110), some (.inr 64), some (.inl (x : Int)), some (.inl (o1 : Int)), none, none, none, none, none], .inl q :: [], [A0, (moSeg 32 k f c n kp l nt w sh (p : Int) t d wa), (moSeg 64 k1 f1 c1 n1 kp1 l1 nt1 w1 sh1 (p1 : Int) t1 d1 wa1), (miscSeg z fs ss sp la gr (m : Int) tp), B4, A5, C6]) : aF)) (hL)) ?_
  refine b_look (tgt := 139) okX6_sayTo rfl (by decide) ⟨by decide, by decide⟩ rfl rfl ?_
  refine aGo okX6_sayTo 5 (f' := (144, [some (.inr 110), some (.inr 64), some (.inl (x : Int)), some (.inl (o1 : Int)), none, none, none, none, none], [.inl 2, .inl ((x : Int) + 2), .inr 110], _)) rfl ?_
  refine b_vE (as := [.inl ((x : Int) + 2), .inl 2]) (rest := []) (k := 110) okX6_sayTo rfl lkX6_85 caX6_number (Nat.le_of_ble_eq_true rfl) rfl (Nat.le_of_ble_eq_true rfl) rfl rfl rfl (c_number (x := (x + 2)) (m := 2) (by omega) (by omega) htp) ?_
  rintro _ _ ⟨rfl, rfl⟩
  refine aGo okX6_sayTo 3 (f' := (151, [some (.inr 110), some (.inr 64), some (.inl (x : Int)), some (.inl (o1 : Int)), none, none, some (.inl (numL tp (x + 2) 2)), none, none], [.inl (o1 : Int), .inr 64], _)) rfl ?_
  by_cases hc151 : 0 ≤ (o1 : Int) ∧ (o1 : Int) < (p1 : Int)
  · refine b_vV (as := [.inl (o1 : Int)]) (rest := []) (k := 64) (.inl 1) okX6_sayTo rfl lkX6_101 caX3_isThere (Nat.le_of_ble_eq_true rfl) rfl (Nat.le_of_ble_eq_true rfl) rfl rfl rfl (c_isThere_2_t (x := (o1 : Int)) hp7 hc151.1 hc151.2) ?_
    refine b0_eq (tgt := 165) okX6_sayTo rfl rfl ⟨by omega, by omega⟩ (fun h154 => absurd h154 (by omega)) (fun h154 => ?_)
    refine aGo okX6_sayTo 1 (f' := (159, [some (.inr 110), some (.inr 64), some (.inl (x : Int)), some (.inl (o1 : Int)), none, none, some (.inl (numL tp (x + 2) 2)), none, none], [.inl (numL tp (x + 2) 2)], _)) rfl ?_
    by_cases hc159 : 0 ≤ (numL tp (x + 2) 2) ∧ (numL tp (x + 2) 2) ≤ 35
    · refine b_vT (as := [.inl (numL tp (x + 2) 2)]) (rest := []) (.inl 1) okX6_sayTo rfl lkX6_88 caX7_isCell (Nat.le_of_ble_eq_true rfl) rfl (Nat.le_of_ble_eq_true rfl) rfl (c_isCell_t ⟨by omega, by omega⟩) ?_
      refine b0_ne (tgt := 167) okX6_sayTo rfl rfl ⟨by omega, by omega⟩ (fun h162 => ?_) (fun h162 => absurd h162 (by omega))
      exfalso; omega
    · refine b_vT (as := [.inl (numL tp (x + 2) 2)]) (rest := []) (.inl 0) okX6_sayTo rfl lkX6_88 caX7_isCell (Nat.le_of_ble_eq_true rfl) rfl (Nat.le_of_ble_eq_true rfl) rfl (c_isCell_f ⟨by omega, by omega⟩ hc159) ?_
      refine b0_ne (tgt := 167) okX6_sayTo rfl rfl ⟨by omega, by omega⟩ (fun h162 => absurd h162 (by omega)) (fun h162 => ?_)
      refine aGo okX6_sayTo 1 (f' := (166, [some (.inr 110), some (.inr 64), some (.inl (x : Int)), some (.inl (o1 : Int)), none, none, some (.inl (numL tp (x + 2) 2)), none, none], [.inl 0], _)) rfl ?_
      exact b_ret (v := (some (.inl 0))) ⟨rfl, Or.inr ⟨rfl, Or.inl rfl⟩⟩ ⟨rfl, _, ⟨hp6, hd9, nt1, w1, sh1, wa1, hm, rfl⟩, rfl⟩ rfl
  · refine b_vV (as := [.inl (o1 : Int)]) (rest := []) (k := 64) (.inl 0) okX6_sayTo rfl lkX6_101 caX3_isThere (Nat.le_of_ble_eq_true rfl) rfl (Nat.le_of_ble_eq_true rfl) rfl rfl rfl (c_isThere_2_f (x := (o1 : Int)) hp7 ⟨by omega, by omega⟩ hc151) ?_
    refine b0_eq (tgt := 165) okX6_sayTo rfl rfl ⟨by omega, by omega⟩ (fun h154 => ?_) (fun h154 => absurd h154 (by omega))
    refine aGo okX6_sayTo 1 (f' := (166, [some (.inr 110), some (.inr 64), some (.inl (x : Int)), some (.inl (o1 : Int)), none, none, some (.inl (numL tp (x + 2) 2)), none, none], [.inl 0], _)) rfl ?_
    exact b_ret (v := (some (.inl 0))) ⟨rfl, Or.inr ⟨rfl, Or.inl rfl⟩⟩ ⟨rfl, _, ⟨hp6, hd9, nt1, w1, sh1, wa1, hm, rfl⟩, rfl⟩ rfl
set_option maxRecDepth 100000 in
set_option maxHeartbeats 4000000 in
theorem c_say_2t {x : Nat} (hm : mOK p1 k1 f1 c1 n1 kp1 l1 nt1 w1 sh1 t1 d1 wa1) (hp6 : p1 ≤ 6) (hd9 : d1 ≤ 999) (htp : tp.length = 96) (rtp : rng tp 255) (hm9 : m ≤ 96) (hwf : wfS tp m x) (hL : tp.getD x 0 = 108) (hB : (numL tp (x + 1) 1 < (p1 : Int) ∧ numL tp (x + 2) 1 < (p1 : Int) ∧ numL tp (x + 1) 1 ≠ numL tp (x + 2) 1)) : aEv mX6_sayTo 7 0 0 N [.inr 110, .inr 64, .inl (x : Int)] [A0, (moSeg 32 k f c n kp l nt w sh (p : Int) t d wa), (moSeg 64 k1 f1 c1 n1 kp1 l1 nt1 w1 sh1 (p1 : Int) t1 d1 wa1), (miscSeg z fs ss sp la gr (m : Int) tp), B4, A5, C6] ((fun rv h => rv = some (.inl 1) ∧ ∃ B2, thM (sayS tp x (k1, f1, c1, n1, kp1, l1, p1, t1, d1)) B2 ∧ h = [A0, (moSeg 32 k f c n kp l nt w sh (p : Int) t d wa), B2, (miscSeg z fs ss sp la gr (m : Int) tp), B4, A5, C6])) := by
  obtain ⟨⟨hp7, hk, hf, hc, hn, hkp, hl, rk, rf, rc, rn, rkp, rl, ht0, ht1, hd0, hd1⟩, ⟨hnt, znt⟩, ⟨hw, zw, zwa⟩, ⟨hsh, zsh⟩⟩ := id hm
  have hfm : fmI (tp.getD x 0) = 2 := by rw [hL]; rfl
  have hlen := hwf.2.1
  rw [hfm] at hlen
  have hlen2 : x + 6 ≤ m := hlen
  have b1 := wf_num hwf hfm (a := 1) (b := 1) (by decide) (by decide) (by decide +kernel)
  have b1q : (10 : Int) ^ 1 = 10 := by decide
  rw [b1q] at b1
  have b2 := wf_num hwf hfm (a := 2) (b := 1) (by decide) (by decide) (by decide +kernel)
  have b2q : (10 : Int) ^ 1 = 10 := by decide
  rw [b2q] at b2
  have b3 := wf_num hwf hfm (a := 3) (b := 2) (by decide) (by decide) (by decide +kernel)
  have b3q : (10 : Int) ^ 2 = 100 := by decide
  rw [b3q] at b3
  have ro := rtp (x + 1)
  have rn1 : numL tp (x + 1) 1 = 10 * 0 + tp.getD (x + 1 + 0) 0 - 48 := rfl
  rw [Nat.add_zero] at rn1
  obtain ⟨o1, ho1⟩ : ∃ o1 : Nat, numL tp (x + 1) 1 = (o1 : Int) := ⟨(numL tp (x + 1) 1).toNat, by omega⟩
  obtain ⟨o2, ho2⟩ : ∃ o2 : Nat, numL tp (x + 2) 1 = (o2 : Int) := ⟨(numL tp (x + 2) 1).toNat, by omega⟩
  refine aEv_of okX6_sayTo caX6_sayTo (Nat.le_of_ble_eq_true rfl) ?_
  refine aGo okX6_sayTo 5 (f' := (5, [some (.inr 110), some (.inr 64), some (.inl (x : Int)), none, none, none, none, none, none], [.inl 1, .inl ((x : Int) + 1), .inr 110], _)) rfl ?_
  refine b_vE (as := [.inl ((x : Int) + 1), .inl 1]) (rest := []) (k := 110) okX6_sayTo rfl lkX6_85 caX6_number (Nat.le_of_ble_eq_true rfl) rfl (Nat.le_of_ble_eq_true rfl) rfl rfl rfl (c_number (x := (x + 1)) (m := 1) (by omega) (by omega) htp) ?_
  rintro _ _ ⟨rfl, rfl⟩
  refine b_cast (f' := (8, [some (.inr 110), some (.inr 64), some (.inl (x : Int)), none, none, none, none, none, none], [.inl (o1 : Int)], [A0, (moSeg 32 k f c n kp l nt w sh (p : Int) t d wa), (moSeg 64 k1 f1 c1 n1 kp1 l1 nt1 w1 sh1 (p1 : Int) t1 d1 wa1), (miscSeg z fs ss sp la gr (m : Int) tp), B4, A5, C6])) (congrArg (fun q : Int => ((8, [some (.inr 110), some (.inr 64), some (.inl (x : Int)), none, none, none, none, none, none], .inl q :: [], [A0, (moSeg 32 k f c n kp l nt w sh (p : Int) t d wa), (moSeg 64 k1 f1 c1 n1 kp1 l1 nt1 w1 sh1 (p1 : Int) t1 d1 wa1), (miscSeg z fs ss sp la gr (m : Int) tp), B4, A5, C6]) : aF)) (ho1)) ?_
  refine aGo okX6_sayTo 4 (f' := (14, [some (.inr 110), some (.inr 64), some (.inl (x : Int)), some (.inl (o1 : Int)), none, none, none, none, none], [.inl (x : Int), .inr 111], _)) rfl ?_
  refine b_vV (as := [.inl (x : Int)]) (rest := []) (k := 111) (.inl (tp.getD x 0)) okX6_sayTo rfl lkX6_54 caX4_at (Nat.le_of_ble_eq_true rfl) rfl (Nat.le_of_ble_eq_true rfl) rfl rfl rfl (c_at (i := x) rfl rfl (by first | omega | (simp only [List.length_set]; omega)) (by omega)) ?_
  refine b_cast (f' := (17, [some (.inr 110), some (.inr 64), some (.inl (x : Int)), some (.inl (o1 : Int)), none, none, none, none, none], [.inl (108)], [A0, (moSeg 32 k f c n kp l nt w sh (p : Int) t d wa), (moSeg 64 k1 f1 c1 n1 kp1 l1 nt1 w1 sh1 (p1 : Int) t1 d1 wa1), (miscSeg z fs ss sp la gr (m : Int) tp), B4, A5, C6])) (congrArg (fun q : Int => ((17, [some (.inr 110), some (.inr 64), some (.inl (x : Int)), some (.inl (o1 : Int)), none, none, none, none, none], .inl q :: [], [A0, (moSeg 32 k f c n kp l nt w sh (p : Int) t d wa), (moSeg 64 k1 f1 c1 n1 kp1 l1 nt1 w1 sh1 (p1 : Int) t1 d1 wa1), (miscSeg z fs ss sp la gr (m : Int) tp), B4, A5, C6]) : aF)) (hL)) ?_
  refine b_look (tgt := 176) okX6_sayTo rfl (by decide) ⟨by decide, by decide⟩ rfl rfl ?_
  refine aGo okX6_sayTo 5 (f' := (181, [some (.inr 110), some (.inr 64), some (.inl (x : Int)), some (.inl (o1 : Int)), none, none, none, none, none], [.inl 1, .inl ((x : Int) + 2), .inr 110], _)) rfl ?_
  refine b_vE (as := [.inl ((x : Int) + 2), .inl 1]) (rest := []) (k := 110) okX6_sayTo rfl lkX6_85 caX6_number (Nat.le_of_ble_eq_true rfl) rfl (Nat.le_of_ble_eq_true rfl) rfl rfl rfl (c_number (x := (x + 2)) (m := 1) (by omega) (by omega) htp) ?_
  rintro _ _ ⟨rfl, rfl⟩
  refine b_cast (f' := (184, [some (.inr 110), some (.inr 64), some (.inl (x : Int)), some (.inl (o1 : Int)), none, none, none, none, none], [.inl (o2 : Int)], [A0, (moSeg 32 k f c n kp l nt w sh (p : Int) t d wa), (moSeg 64 k1 f1 c1 n1 kp1 l1 nt1 w1 sh1 (p1 : Int) t1 d1 wa1), (miscSeg z fs ss sp la gr (m : Int) tp), B4, A5, C6])) (congrArg (fun q : Int => ((184, [some (.inr 110), some (.inr 64), some (.inl (x : Int)), some (.inl (o1 : Int)), none, none, none, none, none], .inl q :: [], [A0, (moSeg 32 k f c n kp l nt w sh (p : Int) t d wa), (moSeg 64 k1 f1 c1 n1 kp1 l1 nt1 w1 sh1 (p1 : Int) t1 d1 wa1), (miscSeg z fs ss sp la gr (m : Int) tp), B4, A5, C6]) : aF)) (ho2)) ?_
  refine aGo okX6_sayTo 4 (f' := (190, [some (.inr 110), some (.inr 64), some (.inl (x : Int)), some (.inl (o1 : Int)), none, none, none, some (.inl (o2 : Int)), none], [.inl (o2 : Int), .inl (o1 : Int), .inr 64], _)) rfl ?_
  by_cases hc190 : 0 ≤ (o1 : Int) ∧ (o1 : Int) < (p1 : Int) ∧ 0 ≤ (o2 : Int) ∧ (o2 : Int) < (p1 : Int) ∧ (o1 : Int) ≠ (o2 : Int)
  · refine b_vV (as := [.inl (o1 : Int), .inl (o2 : Int)]) (rest := []) (k := 64) (.inl 1) okX6_sayTo rfl lkX6_107 caX3_areTwo (Nat.le_of_ble_eq_true rfl) rfl (Nat.le_of_ble_eq_true rfl) rfl rfl rfl (c_areTwo_2_t hp7 ⟨by omega, by omega⟩ ⟨by omega, by omega⟩ (by omega)) ?_
    refine b0_ne (tgt := 198) okX6_sayTo rfl rfl ⟨by omega, by omega⟩ (fun h193 => ?_) (fun h193 => absurd h193 (by omega))
    refine aGo okX6_sayTo 8 (f' := (207, [some (.inr 110), some (.inr 64), some (.inl (x : Int)), some (.inl (o1 : Int)), none, none, none, some (.inl (o2 : Int)), none], [.inl 2, .inl ((x : Int) + 3), .inr 110, .inl (o2 : Int), .inl (o1 : Int), .inr 64], _)) rfl ?_
    refine b_vE (as := [.inl ((x : Int) + 3), .inl 2]) (rest := [.inl (o2 : Int), .inl (o1 : Int), .inr 64]) (k := 110) okX6_sayTo rfl lkX6_85 caX6_number (Nat.le_of_ble_eq_true rfl) rfl (Nat.le_of_ble_eq_true rfl) rfl rfl rfl (c_number (x := (x + 3)) (m := 2) (by omega) (by omega) htp) ?_
    rintro _ _ ⟨rfl, rfl⟩
    refine b_vE (as := [.inl (o1 : Int), .inl (o2 : Int), .inl (numL tp (x + 3) 2)]) (rest := []) (k := 64) okX6_sayTo rfl lkX6_110 caX3_setLent (Nat.le_of_ble_eq_true rfl) rfl (Nat.le_of_ble_eq_true rfl) rfl rfl rfl (c_setLent_2 hp7 hnt hl (i := o1) (j := o2) (by omega) (by omega) (numL tp (x + 3) 2)) ?_
    rintro _ _ ⟨rfl, nt2, zn2, rfl⟩
    refine aGo okX6_sayTo 1 (f' := (214, [some (.inr 110), some (.inr 64), some (.inl (x : Int)), some (.inl (o1 : Int)), none, none, none, some (.inl (o2 : Int)), none], [.inl 1], _)) rfl ?_
    exact b_ret (v := (some (.inl 1))) ⟨rfl, Or.inr ⟨rfl, Or.inr rfl⟩⟩ ⟨rfl, _, by rw [sayS_2 hfm, ho1, ho2]; exact ⟨hp6, hd9, nt2, w1, sh1, wa1, mOK_lent hm (by omega) (by omega) zn2, rfl⟩, rfl⟩ rfl
  · refine b_vV (as := [.inl (o1 : Int), .inl (o2 : Int)]) (rest := []) (k := 64) (.inl 0) okX6_sayTo rfl lkX6_107 caX3_areTwo (Nat.le_of_ble_eq_true rfl) rfl (Nat.le_of_ble_eq_true rfl) rfl rfl rfl (c_areTwo_2_f hp7 ⟨by omega, by omega⟩ ⟨by omega, by omega⟩ hc190) ?_
    refine b0_ne (tgt := 198) okX6_sayTo rfl rfl ⟨by omega, by omega⟩ (fun h193 => absurd h193 (by omega)) (fun h193 => ?_)
    exfalso; omega
set_option maxRecDepth 100000 in
set_option maxHeartbeats 4000000 in
theorem c_say_2f {x : Nat} (hm : mOK p1 k1 f1 c1 n1 kp1 l1 nt1 w1 sh1 t1 d1 wa1) (hp6 : p1 ≤ 6) (hd9 : d1 ≤ 999) (htp : tp.length = 96) (rtp : rng tp 255) (hm9 : m ≤ 96) (hwf : wfS tp m x) (hL : tp.getD x 0 = 108) (hB : ¬ (numL tp (x + 1) 1 < (p1 : Int) ∧ numL tp (x + 2) 1 < (p1 : Int) ∧ numL tp (x + 1) 1 ≠ numL tp (x + 2) 1)) : aEv mX6_sayTo 7 0 0 N [.inr 110, .inr 64, .inl (x : Int)] [A0, (moSeg 32 k f c n kp l nt w sh (p : Int) t d wa), (moSeg 64 k1 f1 c1 n1 kp1 l1 nt1 w1 sh1 (p1 : Int) t1 d1 wa1), (miscSeg z fs ss sp la gr (m : Int) tp), B4, A5, C6] ((fun rv h => rv = some (.inl 0) ∧ ∃ B2, thM (k1, f1, c1, n1, kp1, l1, p1, t1, d1) B2 ∧ h = [A0, (moSeg 32 k f c n kp l nt w sh (p : Int) t d wa), B2, (miscSeg z fs ss sp la gr (m : Int) tp), B4, A5, C6])) := by
  obtain ⟨⟨hp7, hk, hf, hc, hn, hkp, hl, rk, rf, rc, rn, rkp, rl, ht0, ht1, hd0, hd1⟩, ⟨hnt, znt⟩, ⟨hw, zw, zwa⟩, ⟨hsh, zsh⟩⟩ := id hm
  have hfm : fmI (tp.getD x 0) = 2 := by rw [hL]; rfl
  have hlen := hwf.2.1
  rw [hfm] at hlen
  have hlen2 : x + 6 ≤ m := hlen
  have b1 := wf_num hwf hfm (a := 1) (b := 1) (by decide) (by decide) (by decide +kernel)
  have b1q : (10 : Int) ^ 1 = 10 := by decide
  rw [b1q] at b1
  have b2 := wf_num hwf hfm (a := 2) (b := 1) (by decide) (by decide) (by decide +kernel)
  have b2q : (10 : Int) ^ 1 = 10 := by decide
  rw [b2q] at b2
  have b3 := wf_num hwf hfm (a := 3) (b := 2) (by decide) (by decide) (by decide +kernel)
  have b3q : (10 : Int) ^ 2 = 100 := by decide
  rw [b3q] at b3
  have ro := rtp (x + 1)
  have rn1 : numL tp (x + 1) 1 = 10 * 0 + tp.getD (x + 1 + 0) 0 - 48 := rfl
  rw [Nat.add_zero] at rn1
  obtain ⟨o1, ho1⟩ : ∃ o1 : Nat, numL tp (x + 1) 1 = (o1 : Int) := ⟨(numL tp (x + 1) 1).toNat, by omega⟩
  obtain ⟨o2, ho2⟩ : ∃ o2 : Nat, numL tp (x + 2) 1 = (o2 : Int) := ⟨(numL tp (x + 2) 1).toNat, by omega⟩
  refine aEv_of okX6_sayTo caX6_sayTo (Nat.le_of_ble_eq_true rfl) ?_
  refine aGo okX6_sayTo 5 (f' := (5, [some (.inr 110), some (.inr 64), some (.inl (x : Int)), none, none, none, none, none, none], [.inl 1, .inl ((x : Int) + 1), .inr 110], _)) rfl ?_
  refine b_vE (as := [.inl ((x : Int) + 1), .inl 1]) (rest := []) (k := 110) okX6_sayTo rfl lkX6_85 caX6_number (Nat.le_of_ble_eq_true rfl) rfl (Nat.le_of_ble_eq_true rfl) rfl rfl rfl (c_number (x := (x + 1)) (m := 1) (by omega) (by omega) htp) ?_
  rintro _ _ ⟨rfl, rfl⟩
  refine b_cast (f' := (8, [some (.inr 110), some (.inr 64), some (.inl (x : Int)), none, none, none, none, none, none], [.inl (o1 : Int)], [A0, (moSeg 32 k f c n kp l nt w sh (p : Int) t d wa), (moSeg 64 k1 f1 c1 n1 kp1 l1 nt1 w1 sh1 (p1 : Int) t1 d1 wa1), (miscSeg z fs ss sp la gr (m : Int) tp), B4, A5, C6])) (congrArg (fun q : Int => ((8, [some (.inr 110), some (.inr 64), some (.inl (x : Int)), none, none, none, none, none, none], .inl q :: [], [A0, (moSeg 32 k f c n kp l nt w sh (p : Int) t d wa), (moSeg 64 k1 f1 c1 n1 kp1 l1 nt1 w1 sh1 (p1 : Int) t1 d1 wa1), (miscSeg z fs ss sp la gr (m : Int) tp), B4, A5, C6]) : aF)) (ho1)) ?_
  refine aGo okX6_sayTo 4 (f' := (14, [some (.inr 110), some (.inr 64), some (.inl (x : Int)), some (.inl (o1 : Int)), none, none, none, none, none], [.inl (x : Int), .inr 111], _)) rfl ?_
  refine b_vV (as := [.inl (x : Int)]) (rest := []) (k := 111) (.inl (tp.getD x 0)) okX6_sayTo rfl lkX6_54 caX4_at (Nat.le_of_ble_eq_true rfl) rfl (Nat.le_of_ble_eq_true rfl) rfl rfl rfl (c_at (i := x) rfl rfl (by first | omega | (simp only [List.length_set]; omega)) (by omega)) ?_
  refine b_cast (f' := (17, [some (.inr 110), some (.inr 64), some (.inl (x : Int)), some (.inl (o1 : Int)), none, none, none, none, none], [.inl (108)], [A0, (moSeg 32 k f c n kp l nt w sh (p : Int) t d wa), (moSeg 64 k1 f1 c1 n1 kp1 l1 nt1 w1 sh1 (p1 : Int) t1 d1 wa1), (miscSeg z fs ss sp la gr (m : Int) tp), B4, A5, C6])) (congrArg (fun q : Int => ((17, [some (.inr 110), some (.inr 64), some (.inl (x : Int)), some (.inl (o1 : Int)), none, none, none, none, none], .inl q :: [], [A0, (moSeg 32 k f c n kp l nt w sh (p : Int) t d wa), (moSeg 64 k1 f1 c1 n1 kp1 l1 nt1 w1 sh1 (p1 : Int) t1 d1 wa1), (miscSeg z fs ss sp la gr (m : Int) tp), B4, A5, C6]) : aF)) (hL)) ?_
  refine b_look (tgt := 176) okX6_sayTo rfl (by decide) ⟨by decide, by decide⟩ rfl rfl ?_
  refine aGo okX6_sayTo 5 (f' := (181, [some (.inr 110), some (.inr 64), some (.inl (x : Int)), some (.inl (o1 : Int)), none, none, none, none, none], [.inl 1, .inl ((x : Int) + 2), .inr 110], _)) rfl ?_
  refine b_vE (as := [.inl ((x : Int) + 2), .inl 1]) (rest := []) (k := 110) okX6_sayTo rfl lkX6_85 caX6_number (Nat.le_of_ble_eq_true rfl) rfl (Nat.le_of_ble_eq_true rfl) rfl rfl rfl (c_number (x := (x + 2)) (m := 1) (by omega) (by omega) htp) ?_
  rintro _ _ ⟨rfl, rfl⟩
  refine b_cast (f' := (184, [some (.inr 110), some (.inr 64), some (.inl (x : Int)), some (.inl (o1 : Int)), none, none, none, none, none], [.inl (o2 : Int)], [A0, (moSeg 32 k f c n kp l nt w sh (p : Int) t d wa), (moSeg 64 k1 f1 c1 n1 kp1 l1 nt1 w1 sh1 (p1 : Int) t1 d1 wa1), (miscSeg z fs ss sp la gr (m : Int) tp), B4, A5, C6])) (congrArg (fun q : Int => ((184, [some (.inr 110), some (.inr 64), some (.inl (x : Int)), some (.inl (o1 : Int)), none, none, none, none, none], .inl q :: [], [A0, (moSeg 32 k f c n kp l nt w sh (p : Int) t d wa), (moSeg 64 k1 f1 c1 n1 kp1 l1 nt1 w1 sh1 (p1 : Int) t1 d1 wa1), (miscSeg z fs ss sp la gr (m : Int) tp), B4, A5, C6]) : aF)) (ho2)) ?_
  refine aGo okX6_sayTo 4 (f' := (190, [some (.inr 110), some (.inr 64), some (.inl (x : Int)), some (.inl (o1 : Int)), none, none, none, some (.inl (o2 : Int)), none], [.inl (o2 : Int), .inl (o1 : Int), .inr 64], _)) rfl ?_
  by_cases hc190 : 0 ≤ (o1 : Int) ∧ (o1 : Int) < (p1 : Int) ∧ 0 ≤ (o2 : Int) ∧ (o2 : Int) < (p1 : Int) ∧ (o1 : Int) ≠ (o2 : Int)
  · refine b_vV (as := [.inl (o1 : Int), .inl (o2 : Int)]) (rest := []) (k := 64) (.inl 1) okX6_sayTo rfl lkX6_107 caX3_areTwo (Nat.le_of_ble_eq_true rfl) rfl (Nat.le_of_ble_eq_true rfl) rfl rfl rfl (c_areTwo_2_t hp7 ⟨by omega, by omega⟩ ⟨by omega, by omega⟩ (by omega)) ?_
    refine b0_ne (tgt := 198) okX6_sayTo rfl rfl ⟨by omega, by omega⟩ (fun h193 => ?_) (fun h193 => absurd h193 (by omega))
    exfalso; omega
  · refine b_vV (as := [.inl (o1 : Int), .inl (o2 : Int)]) (rest := []) (k := 64) (.inl 0) okX6_sayTo rfl lkX6_107 caX3_areTwo (Nat.le_of_ble_eq_true rfl) rfl (Nat.le_of_ble_eq_true rfl) rfl rfl rfl (c_areTwo_2_f hp7 ⟨by omega, by omega⟩ ⟨by omega, by omega⟩ hc190) ?_
    refine b0_ne (tgt := 198) okX6_sayTo rfl rfl ⟨by omega, by omega⟩ (fun h193 => absurd h193 (by omega)) (fun h193 => ?_)
    refine aGo okX6_sayTo 1 (f' := (197, [some (.inr 110), some (.inr 64), some (.inl (x : Int)), some (.inl (o1 : Int)), none, none, none, some (.inl (o2 : Int)), none], [.inl 0], _)) rfl ?_
    exact b_ret (v := (some (.inl 0))) ⟨rfl, Or.inr ⟨rfl, Or.inl rfl⟩⟩ ⟨rfl, _, ⟨hp6, hd9, nt1, w1, sh1, wa1, hm, rfl⟩, rfl⟩ rfl
set_option maxRecDepth 100000 in
set_option maxHeartbeats 4000000 in
theorem c_say_3t {x : Nat} (hm : mOK p1 k1 f1 c1 n1 kp1 l1 nt1 w1 sh1 t1 d1 wa1) (hp6 : p1 ≤ 6) (hd9 : d1 ≤ 999) (htp : tp.length = 96) (rtp : rng tp 255) (hm9 : m ≤ 96) (hwf : wfS tp m x) (hL : tp.getD x 0 = 107) (hB : (numL tp (x + 1) 1 < (p1 : Int))) : aEv mX6_sayTo 7 0 0 N [.inr 110, .inr 64, .inl (x : Int)] [A0, (moSeg 32 k f c n kp l nt w sh (p : Int) t d wa), (moSeg 64 k1 f1 c1 n1 kp1 l1 nt1 w1 sh1 (p1 : Int) t1 d1 wa1), (miscSeg z fs ss sp la gr (m : Int) tp), B4, A5, C6] ((fun rv h => rv = some (.inl 1) ∧ ∃ B2, thM (sayS tp x (k1, f1, c1, n1, kp1, l1, p1, t1, d1)) B2 ∧ h = [A0, (moSeg 32 k f c n kp l nt w sh (p : Int) t d wa), B2, (miscSeg z fs ss sp la gr (m : Int) tp), B4, A5, C6])) := by
  obtain ⟨⟨hp7, hk, hf, hc, hn, hkp, hl, rk, rf, rc, rn, rkp, rl, ht0, ht1, hd0, hd1⟩, ⟨hnt, znt⟩, ⟨hw, zw, zwa⟩, ⟨hsh, zsh⟩⟩ := id hm
  have hfm : fmI (tp.getD x 0) = 3 := by rw [hL]; rfl
  have hlen := hwf.2.1
  rw [hfm] at hlen
  have hlen2 : x + 7 ≤ m := hlen
  have b1 := wf_num hwf hfm (a := 1) (b := 1) (by decide) (by decide) (by decide +kernel)
  have b1q : (10 : Int) ^ 1 = 10 := by decide
  rw [b1q] at b1
  have b2 := wf_num hwf hfm (a := 2) (b := 4) (by decide) (by decide) (by decide +kernel)
  have b2q : (10 : Int) ^ 4 = 10000 := by decide
  rw [b2q] at b2
  have ro := rtp (x + 1)
  have rn1 : numL tp (x + 1) 1 = 10 * 0 + tp.getD (x + 1 + 0) 0 - 48 := rfl
  rw [Nat.add_zero] at rn1
  obtain ⟨o1, ho1⟩ : ∃ o1 : Nat, numL tp (x + 1) 1 = (o1 : Int) := ⟨(numL tp (x + 1) 1).toNat, by omega⟩
  refine aEv_of okX6_sayTo caX6_sayTo (Nat.le_of_ble_eq_true rfl) ?_
  refine aGo okX6_sayTo 5 (f' := (5, [some (.inr 110), some (.inr 64), some (.inl (x : Int)), none, none, none, none, none, none], [.inl 1, .inl ((x : Int) + 1), .inr 110], _)) rfl ?_
  refine b_vE (as := [.inl ((x : Int) + 1), .inl 1]) (rest := []) (k := 110) okX6_sayTo rfl lkX6_85 caX6_number (Nat.le_of_ble_eq_true rfl) rfl (Nat.le_of_ble_eq_true rfl) rfl rfl rfl (c_number (x := (x + 1)) (m := 1) (by omega) (by omega) htp) ?_
  rintro _ _ ⟨rfl, rfl⟩
  refine b_cast (f' := (8, [some (.inr 110), some (.inr 64), some (.inl (x : Int)), none, none, none, none, none, none], [.inl (o1 : Int)], [A0, (moSeg 32 k f c n kp l nt w sh (p : Int) t d wa), (moSeg 64 k1 f1 c1 n1 kp1 l1 nt1 w1 sh1 (p1 : Int) t1 d1 wa1), (miscSeg z fs ss sp la gr (m : Int) tp), B4, A5, C6])) (congrArg (fun q : Int => ((8, [some (.inr 110), some (.inr 64), some (.inl (x : Int)), none, none, none, none, none, none], .inl q :: [], [A0, (moSeg 32 k f c n kp l nt w sh (p : Int) t d wa), (moSeg 64 k1 f1 c1 n1 kp1 l1 nt1 w1 sh1 (p1 : Int) t1 d1 wa1), (miscSeg z fs ss sp la gr (m : Int) tp), B4, A5, C6]) : aF)) (ho1)) ?_
  refine aGo okX6_sayTo 4 (f' := (14, [some (.inr 110), some (.inr 64), some (.inl (x : Int)), some (.inl (o1 : Int)), none, none, none, none, none], [.inl (x : Int), .inr 111], _)) rfl ?_
  refine b_vV (as := [.inl (x : Int)]) (rest := []) (k := 111) (.inl (tp.getD x 0)) okX6_sayTo rfl lkX6_54 caX4_at (Nat.le_of_ble_eq_true rfl) rfl (Nat.le_of_ble_eq_true rfl) rfl rfl rfl (c_at (i := x) rfl rfl (by first | omega | (simp only [List.length_set]; omega)) (by omega)) ?_
  refine b_cast (f' := (17, [some (.inr 110), some (.inr 64), some (.inl (x : Int)), some (.inl (o1 : Int)), none, none, none, none, none], [.inl (107)], [A0, (moSeg 32 k f c n kp l nt w sh (p : Int) t d wa), (moSeg 64 k1 f1 c1 n1 kp1 l1 nt1 w1 sh1 (p1 : Int) t1 d1 wa1), (miscSeg z fs ss sp la gr (m : Int) tp), B4, A5, C6])) (congrArg (fun q : Int => ((17, [some (.inr 110), some (.inr 64), some (.inl (x : Int)), some (.inl (o1 : Int)), none, none, none, none, none], .inl q :: [], [A0, (moSeg 32 k f c n kp l nt w sh (p : Int) t d wa), (moSeg 64 k1 f1 c1 n1 kp1 l1 nt1 w1 sh1 (p1 : Int) t1 d1 wa1), (miscSeg z fs ss sp la gr (m : Int) tp), B4, A5, C6]) : aF)) (hL)) ?_
  refine b_look (tgt := 215) okX6_sayTo rfl (by decide) ⟨by decide, by decide⟩ rfl rfl ?_
  refine aGo okX6_sayTo 2 (f' := (217, [some (.inr 110), some (.inr 64), some (.inl (x : Int)), some (.inl (o1 : Int)), none, none, none, none, none], [.inl (o1 : Int), .inr 64], _)) rfl ?_
  by_cases hc217 : 0 ≤ (o1 : Int) ∧ (o1 : Int) < (p1 : Int)
  · refine b_vV (as := [.inl (o1 : Int)]) (rest := []) (k := 64) (.inl 1) okX6_sayTo rfl lkX6_101 caX3_isThere (Nat.le_of_ble_eq_true rfl) rfl (Nat.le_of_ble_eq_true rfl) rfl rfl rfl (c_isThere_2_t (x := (o1 : Int)) hp7 hc217.1 hc217.2) ?_
    refine b0_ne (tgt := 225) okX6_sayTo rfl rfl ⟨by omega, by omega⟩ (fun h220 => ?_) (fun h220 => absurd h220 (by omega))
    refine aGo okX6_sayTo 7 (f' := (232, [some (.inr 110), some (.inr 64), some (.inl (x : Int)), some (.inl (o1 : Int)), none, none, none, none, none], [.inl 4, .inl ((x : Int) + 2), .inr 110, .inl (o1 : Int), .inr 64], _)) rfl ?_
    refine b_vE (as := [.inl ((x : Int) + 2), .inl 4]) (rest := [.inl (o1 : Int), .inr 64]) (k := 110) okX6_sayTo rfl lkX6_85 caX6_number (Nat.le_of_ble_eq_true rfl) rfl (Nat.le_of_ble_eq_true rfl) rfl rfl rfl (c_number (x := (x + 2)) (m := 4) (by omega) (by omega) htp) ?_
    rintro _ _ ⟨rfl, rfl⟩
    refine b_vN (as := [.inl (o1 : Int), .inl (numL tp (x + 2) 4)]) (rest := []) (k := 64) okX6_sayTo rfl lkX6_114 caX3_setKept (Nat.le_of_ble_eq_true rfl) rfl (Nat.le_of_ble_eq_true rfl) rfl rfl rfl (c_setKept_2 hkp (i := o1) (by omega) (numL tp (x + 2) 4)) ?_
    refine b_cast (f' := (238, [some (.inr 110), some (.inr 64), some (.inl (x : Int)), some (.inl (o1 : Int)), none, none, none, none, none], [], [A0, (moSeg 32 k f c n kp l nt w sh (p : Int) t d wa), (moSeg 64 k1 f1 c1 n1 (kp1.set o1 (numL tp (x + 2) 4)) l1 nt1 w1 sh1 (p1 : Int) t1 d1 wa1), (miscSeg z fs ss sp la gr (m : Int) tp), B4, A5, C6])) rfl ?_
    refine aGo okX6_sayTo 1 (f' := (239, [some (.inr 110), some (.inr 64), some (.inl (x : Int)), some (.inl (o1 : Int)), none, none, none, none, none], [.inl 1], _)) rfl ?_
    exact b_ret (v := (some (.inl 1))) ⟨rfl, Or.inr ⟨rfl, Or.inr rfl⟩⟩ ⟨rfl, _, by rw [sayS_3 hfm, ho1]; exact ⟨hp6, hd9, nt1, w1, sh1, wa1, mOK_kept hm (by omega) (by omega), rfl⟩, rfl⟩ rfl
  · refine b_vV (as := [.inl (o1 : Int)]) (rest := []) (k := 64) (.inl 0) okX6_sayTo rfl lkX6_101 caX3_isThere (Nat.le_of_ble_eq_true rfl) rfl (Nat.le_of_ble_eq_true rfl) rfl rfl rfl (c_isThere_2_f (x := (o1 : Int)) hp7 ⟨by omega, by omega⟩ hc217) ?_
    refine b0_ne (tgt := 225) okX6_sayTo rfl rfl ⟨by omega, by omega⟩ (fun h220 => absurd h220 (by omega)) (fun h220 => ?_)
    exfalso; omega
set_option maxRecDepth 100000 in
set_option maxHeartbeats 4000000 in
theorem c_say_3f {x : Nat} (hm : mOK p1 k1 f1 c1 n1 kp1 l1 nt1 w1 sh1 t1 d1 wa1) (hp6 : p1 ≤ 6) (hd9 : d1 ≤ 999) (htp : tp.length = 96) (rtp : rng tp 255) (hm9 : m ≤ 96) (hwf : wfS tp m x) (hL : tp.getD x 0 = 107) (hB : ¬ (numL tp (x + 1) 1 < (p1 : Int))) : aEv mX6_sayTo 7 0 0 N [.inr 110, .inr 64, .inl (x : Int)] [A0, (moSeg 32 k f c n kp l nt w sh (p : Int) t d wa), (moSeg 64 k1 f1 c1 n1 kp1 l1 nt1 w1 sh1 (p1 : Int) t1 d1 wa1), (miscSeg z fs ss sp la gr (m : Int) tp), B4, A5, C6] ((fun rv h => rv = some (.inl 0) ∧ ∃ B2, thM (k1, f1, c1, n1, kp1, l1, p1, t1, d1) B2 ∧ h = [A0, (moSeg 32 k f c n kp l nt w sh (p : Int) t d wa), B2, (miscSeg z fs ss sp la gr (m : Int) tp), B4, A5, C6])) := by
  obtain ⟨⟨hp7, hk, hf, hc, hn, hkp, hl, rk, rf, rc, rn, rkp, rl, ht0, ht1, hd0, hd1⟩, ⟨hnt, znt⟩, ⟨hw, zw, zwa⟩, ⟨hsh, zsh⟩⟩ := id hm
  have hfm : fmI (tp.getD x 0) = 3 := by rw [hL]; rfl
  have hlen := hwf.2.1
  rw [hfm] at hlen
  have hlen2 : x + 7 ≤ m := hlen
  have b1 := wf_num hwf hfm (a := 1) (b := 1) (by decide) (by decide) (by decide +kernel)
  have b1q : (10 : Int) ^ 1 = 10 := by decide
  rw [b1q] at b1
  have b2 := wf_num hwf hfm (a := 2) (b := 4) (by decide) (by decide) (by decide +kernel)
  have b2q : (10 : Int) ^ 4 = 10000 := by decide
  rw [b2q] at b2
  have ro := rtp (x + 1)
  have rn1 : numL tp (x + 1) 1 = 10 * 0 + tp.getD (x + 1 + 0) 0 - 48 := rfl
  rw [Nat.add_zero] at rn1
  obtain ⟨o1, ho1⟩ : ∃ o1 : Nat, numL tp (x + 1) 1 = (o1 : Int) := ⟨(numL tp (x + 1) 1).toNat, by omega⟩
  refine aEv_of okX6_sayTo caX6_sayTo (Nat.le_of_ble_eq_true rfl) ?_
  refine aGo okX6_sayTo 5 (f' := (5, [some (.inr 110), some (.inr 64), some (.inl (x : Int)), none, none, none, none, none, none], [.inl 1, .inl ((x : Int) + 1), .inr 110], _)) rfl ?_
  refine b_vE (as := [.inl ((x : Int) + 1), .inl 1]) (rest := []) (k := 110) okX6_sayTo rfl lkX6_85 caX6_number (Nat.le_of_ble_eq_true rfl) rfl (Nat.le_of_ble_eq_true rfl) rfl rfl rfl (c_number (x := (x + 1)) (m := 1) (by omega) (by omega) htp) ?_
  rintro _ _ ⟨rfl, rfl⟩
  refine b_cast (f' := (8, [some (.inr 110), some (.inr 64), some (.inl (x : Int)), none, none, none, none, none, none], [.inl (o1 : Int)], [A0, (moSeg 32 k f c n kp l nt w sh (p : Int) t d wa), (moSeg 64 k1 f1 c1 n1 kp1 l1 nt1 w1 sh1 (p1 : Int) t1 d1 wa1), (miscSeg z fs ss sp la gr (m : Int) tp), B4, A5, C6])) (congrArg (fun q : Int => ((8, [some (.inr 110), some (.inr 64), some (.inl (x : Int)), none, none, none, none, none, none], .inl q :: [], [A0, (moSeg 32 k f c n kp l nt w sh (p : Int) t d wa), (moSeg 64 k1 f1 c1 n1 kp1 l1 nt1 w1 sh1 (p1 : Int) t1 d1 wa1), (miscSeg z fs ss sp la gr (m : Int) tp), B4, A5, C6]) : aF)) (ho1)) ?_
  refine aGo okX6_sayTo 4 (f' := (14, [some (.inr 110), some (.inr 64), some (.inl (x : Int)), some (.inl (o1 : Int)), none, none, none, none, none], [.inl (x : Int), .inr 111], _)) rfl ?_
  refine b_vV (as := [.inl (x : Int)]) (rest := []) (k := 111) (.inl (tp.getD x 0)) okX6_sayTo rfl lkX6_54 caX4_at (Nat.le_of_ble_eq_true rfl) rfl (Nat.le_of_ble_eq_true rfl) rfl rfl rfl (c_at (i := x) rfl rfl (by first | omega | (simp only [List.length_set]; omega)) (by omega)) ?_
  refine b_cast (f' := (17, [some (.inr 110), some (.inr 64), some (.inl (x : Int)), some (.inl (o1 : Int)), none, none, none, none, none], [.inl (107)], [A0, (moSeg 32 k f c n kp l nt w sh (p : Int) t d wa), (moSeg 64 k1 f1 c1 n1 kp1 l1 nt1 w1 sh1 (p1 : Int) t1 d1 wa1), (miscSeg z fs ss sp la gr (m : Int) tp), B4, A5, C6])) (congrArg (fun q : Int => ((17, [some (.inr 110), some (.inr 64), some (.inl (x : Int)), some (.inl (o1 : Int)), none, none, none, none, none], .inl q :: [], [A0, (moSeg 32 k f c n kp l nt w sh (p : Int) t d wa), (moSeg 64 k1 f1 c1 n1 kp1 l1 nt1 w1 sh1 (p1 : Int) t1 d1 wa1), (miscSeg z fs ss sp la gr (m : Int) tp), B4, A5, C6]) : aF)) (hL)) ?_
  refine b_look (tgt := 215) okX6_sayTo rfl (by decide) ⟨by decide, by decide⟩ rfl rfl ?_
  refine aGo okX6_sayTo 2 (f' := (217, [some (.inr 110), some (.inr 64), some (.inl (x : Int)), some (.inl (o1 : Int)), none, none, none, none, none], [.inl (o1 : Int), .inr 64], _)) rfl ?_
  by_cases hc217 : 0 ≤ (o1 : Int) ∧ (o1 : Int) < (p1 : Int)
  · refine b_vV (as := [.inl (o1 : Int)]) (rest := []) (k := 64) (.inl 1) okX6_sayTo rfl lkX6_101 caX3_isThere (Nat.le_of_ble_eq_true rfl) rfl (Nat.le_of_ble_eq_true rfl) rfl rfl rfl (c_isThere_2_t (x := (o1 : Int)) hp7 hc217.1 hc217.2) ?_
    refine b0_ne (tgt := 225) okX6_sayTo rfl rfl ⟨by omega, by omega⟩ (fun h220 => ?_) (fun h220 => absurd h220 (by omega))
    exfalso; omega
  · refine b_vV (as := [.inl (o1 : Int)]) (rest := []) (k := 64) (.inl 0) okX6_sayTo rfl lkX6_101 caX3_isThere (Nat.le_of_ble_eq_true rfl) rfl (Nat.le_of_ble_eq_true rfl) rfl rfl rfl (c_isThere_2_f (x := (o1 : Int)) hp7 ⟨by omega, by omega⟩ hc217) ?_
    refine b0_ne (tgt := 225) okX6_sayTo rfl rfl ⟨by omega, by omega⟩ (fun h220 => absurd h220 (by omega)) (fun h220 => ?_)
    refine aGo okX6_sayTo 1 (f' := (224, [some (.inr 110), some (.inr 64), some (.inl (x : Int)), some (.inl (o1 : Int)), none, none, none, none, none], [.inl 0], _)) rfl ?_
    exact b_ret (v := (some (.inl 0))) ⟨rfl, Or.inr ⟨rfl, Or.inl rfl⟩⟩ ⟨rfl, _, ⟨hp6, hd9, nt1, w1, sh1, wa1, hm, rfl⟩, rfl⟩ rfl
set_option maxRecDepth 100000 in
set_option maxHeartbeats 4000000 in
theorem c_say_4t {x : Nat} (hm : mOK p1 k1 f1 c1 n1 kp1 l1 nt1 w1 sh1 t1 d1 wa1) (hp6 : p1 ≤ 6) (hd9 : d1 ≤ 999) (htp : tp.length = 96) (rtp : rng tp 255) (hm9 : m ≤ 96) (hwf : wfS tp m x) (hL : tp.getD x 0 = 115) (hB : (True)) : aEv mX6_sayTo 7 0 0 N [.inr 110, .inr 64, .inl (x : Int)] [A0, (moSeg 32 k f c n kp l nt w sh (p : Int) t d wa), (moSeg 64 k1 f1 c1 n1 kp1 l1 nt1 w1 sh1 (p1 : Int) t1 d1 wa1), (miscSeg z fs ss sp la gr (m : Int) tp), B4, A5, C6] ((fun rv h => rv = some (.inl 1) ∧ ∃ B2, thM (sayS tp x (k1, f1, c1, n1, kp1, l1, p1, t1, d1)) B2 ∧ h = [A0, (moSeg 32 k f c n kp l nt w sh (p : Int) t d wa), B2, (miscSeg z fs ss sp la gr (m : Int) tp), B4, A5, C6])) := by
  obtain ⟨⟨hp7, hk, hf, hc, hn, hkp, hl, rk, rf, rc, rn, rkp, rl, ht0, ht1, hd0, hd1⟩, ⟨hnt, znt⟩, ⟨hw, zw, zwa⟩, ⟨hsh, zsh⟩⟩ := id hm
  have hfm : fmI (tp.getD x 0) = 4 := by rw [hL]; rfl
  have hlen := hwf.2.1
  rw [hfm] at hlen
  have hlen2 : x + 5 ≤ m := hlen
  have b1 := wf_num hwf hfm (a := 1) (b := 3) (by decide) (by decide) (by decide +kernel)
  have b1q : (10 : Int) ^ 3 = 1000 := by decide
  rw [b1q] at b1
  have ro := rtp (x + 1)
  have rn1 : numL tp (x + 1) 1 = 10 * 0 + tp.getD (x + 1 + 0) 0 - 48 := rfl
  rw [Nat.add_zero] at rn1
  refine aEv_of okX6_sayTo caX6_sayTo (Nat.le_of_ble_eq_true rfl) ?_
  refine aGo okX6_sayTo 5 (f' := (5, [some (.inr 110), some (.inr 64), some (.inl (x : Int)), none, none, none, none, none, none], [.inl 1, .inl ((x : Int) + 1), .inr 110], _)) rfl ?_
  refine b_vE (as := [.inl ((x : Int) + 1), .inl 1]) (rest := []) (k := 110) okX6_sayTo rfl lkX6_85 caX6_number (Nat.le_of_ble_eq_true rfl) rfl (Nat.le_of_ble_eq_true rfl) rfl rfl rfl (c_number (x := (x + 1)) (m := 1) (by omega) (by omega) htp) ?_
  rintro _ _ ⟨rfl, rfl⟩
  refine aGo okX6_sayTo 4 (f' := (14, [some (.inr 110), some (.inr 64), some (.inl (x : Int)), some (.inl (numL tp (x + 1) 1)), none, none, none, none, none], [.inl (x : Int), .inr 111], _)) rfl ?_
  refine b_vV (as := [.inl (x : Int)]) (rest := []) (k := 111) (.inl (tp.getD x 0)) okX6_sayTo rfl lkX6_54 caX4_at (Nat.le_of_ble_eq_true rfl) rfl (Nat.le_of_ble_eq_true rfl) rfl rfl rfl (c_at (i := x) rfl rfl (by first | omega | (simp only [List.length_set]; omega)) (by omega)) ?_
  refine b_cast (f' := (17, [some (.inr 110), some (.inr 64), some (.inl (x : Int)), some (.inl (numL tp (x + 1) 1)), none, none, none, none, none], [.inl (115)], [A0, (moSeg 32 k f c n kp l nt w sh (p : Int) t d wa), (moSeg 64 k1 f1 c1 n1 kp1 l1 nt1 w1 sh1 (p1 : Int) t1 d1 wa1), (miscSeg z fs ss sp la gr (m : Int) tp), B4, A5, C6])) (congrArg (fun q : Int => ((17, [some (.inr 110), some (.inr 64), some (.inl (x : Int)), some (.inl (numL tp (x + 1) 1)), none, none, none, none, none], .inl q :: [], [A0, (moSeg 32 k f c n kp l nt w sh (p : Int) t d wa), (moSeg 64 k1 f1 c1 n1 kp1 l1 nt1 w1 sh1 (p1 : Int) t1 d1 wa1), (miscSeg z fs ss sp la gr (m : Int) tp), B4, A5, C6]) : aF)) (hL)) ?_
  refine b_look (tgt := 240) okX6_sayTo rfl (by decide) ⟨by decide, by decide⟩ rfl rfl ?_
  refine aGo okX6_sayTo 6 (f' := (246, [some (.inr 110), some (.inr 64), some (.inl (x : Int)), some (.inl (numL tp (x + 1) 1)), none, none, none, none, none], [.inl 3, .inl ((x : Int) + 1), .inr 110, .inr 64], _)) rfl ?_
  refine b_vE (as := [.inl ((x : Int) + 1), .inl 3]) (rest := [.inr 64]) (k := 110) okX6_sayTo rfl lkX6_85 caX6_number (Nat.le_of_ble_eq_true rfl) rfl (Nat.le_of_ble_eq_true rfl) rfl rfl rfl (c_number (x := (x + 1)) (m := 3) (by omega) (by omega) htp) ?_
  rintro _ _ ⟨rfl, rfl⟩
  refine b_vE (as := [.inl (numL tp (x + 1) 3)]) (rest := []) (k := 64) okX6_sayTo rfl lkX6_117 caX3_setTotal (Nat.le_of_ble_eq_true rfl) rfl (Nat.le_of_ble_eq_true rfl) rfl rfl rfl (c_setTotal_2 (mOK_wH hm) hm.2.2.1 (v := (numL tp (x + 1) 3)) (by omega) (by omega)) ?_
  rintro _ _ ⟨rfl, sh2, zs2, rfl⟩
  refine aGo okX6_sayTo 1 (f' := (253, [some (.inr 110), some (.inr 64), some (.inl (x : Int)), some (.inl (numL tp (x + 1) 1)), none, none, none, none, none], [.inl 1], _)) rfl ?_
  exact b_ret (v := (some (.inl 1))) ⟨rfl, Or.inr ⟨rfl, Or.inr rfl⟩⟩ ⟨rfl, _, by rw [sayS_4 hfm]; exact ⟨hp6, hd9, nt1, w1, sh2, wa1, mOK_total hm (v := numL tp (x + 1) 3) (by omega) (by omega) zs2, rfl⟩, rfl⟩ rfl
set_option maxRecDepth 100000 in
set_option maxHeartbeats 4000000 in
theorem c_say_5t {x : Nat} (hm : mOK p1 k1 f1 c1 n1 kp1 l1 nt1 w1 sh1 t1 d1 wa1) (hp6 : p1 ≤ 6) (hd9 : d1 ≤ 999) (htp : tp.length = 96) (rtp : rng tp 255) (hm9 : m ≤ 96) (hwf : wfS tp m x) (hL : tp.getD x 0 = 100) (hB : (1 ≤ numL tp (x + 1) 2 ∧ numL tp (x + 1) 2 ≤ 60 ∧ d1 + numL tp (x + 1) 2 ≤ 999)) : aEv mX6_sayTo 7 0 0 N [.inr 110, .inr 64, .inl (x : Int)] [A0, (moSeg 32 k f c n kp l nt w sh (p : Int) t d wa), (moSeg 64 k1 f1 c1 n1 kp1 l1 nt1 w1 sh1 (p1 : Int) t1 d1 wa1), (miscSeg z fs ss sp la gr (m : Int) tp), B4, A5, C6] ((fun rv h => rv = some (.inl 1) ∧ ∃ B2, thM (sayS tp x (k1, f1, c1, n1, kp1, l1, p1, t1, d1)) B2 ∧ h = [A0, (moSeg 32 k f c n kp l nt w sh (p : Int) t d wa), B2, (miscSeg z fs ss sp la gr (m : Int) tp), B4, A5, C6])) := by
  obtain ⟨⟨hp7, hk, hf, hc, hn, hkp, hl, rk, rf, rc, rn, rkp, rl, ht0, ht1, hd0, hd1⟩, ⟨hnt, znt⟩, ⟨hw, zw, zwa⟩, ⟨hsh, zsh⟩⟩ := id hm
  have hfm : fmI (tp.getD x 0) = 5 := by rw [hL]; rfl
  have hlen := hwf.2.1
  rw [hfm] at hlen
  have hlen2 : x + 4 ≤ m := hlen
  have b1 := wf_num hwf hfm (a := 1) (b := 2) (by decide) (by decide) (by decide +kernel)
  have b1q : (10 : Int) ^ 2 = 100 := by decide
  rw [b1q] at b1
  have ro := rtp (x + 1)
  have rn1 : numL tp (x + 1) 1 = 10 * 0 + tp.getD (x + 1 + 0) 0 - 48 := rfl
  rw [Nat.add_zero] at rn1
  obtain ⟨o2, ho2⟩ : ∃ o2 : Nat, numL tp (x + 1) 2 = (o2 : Int) := ⟨(numL tp (x + 1) 2).toNat, by omega⟩
  refine aEv_of okX6_sayTo caX6_sayTo (Nat.le_of_ble_eq_true rfl) ?_
  refine aGo okX6_sayTo 5 (f' := (5, [some (.inr 110), some (.inr 64), some (.inl (x : Int)), none, none, none, none, none, none], [.inl 1, .inl ((x : Int) + 1), .inr 110], _)) rfl ?_
  refine b_vE (as := [.inl ((x : Int) + 1), .inl 1]) (rest := []) (k := 110) okX6_sayTo rfl lkX6_85 caX6_number (Nat.le_of_ble_eq_true rfl) rfl (Nat.le_of_ble_eq_true rfl) rfl rfl rfl (c_number (x := (x + 1)) (m := 1) (by omega) (by omega) htp) ?_
  rintro _ _ ⟨rfl, rfl⟩
  refine aGo okX6_sayTo 4 (f' := (14, [some (.inr 110), some (.inr 64), some (.inl (x : Int)), some (.inl (numL tp (x + 1) 1)), none, none, none, none, none], [.inl (x : Int), .inr 111], _)) rfl ?_
  refine b_vV (as := [.inl (x : Int)]) (rest := []) (k := 111) (.inl (tp.getD x 0)) okX6_sayTo rfl lkX6_54 caX4_at (Nat.le_of_ble_eq_true rfl) rfl (Nat.le_of_ble_eq_true rfl) rfl rfl rfl (c_at (i := x) rfl rfl (by first | omega | (simp only [List.length_set]; omega)) (by omega)) ?_
  refine b_cast (f' := (17, [some (.inr 110), some (.inr 64), some (.inl (x : Int)), some (.inl (numL tp (x + 1) 1)), none, none, none, none, none], [.inl (100)], [A0, (moSeg 32 k f c n kp l nt w sh (p : Int) t d wa), (moSeg 64 k1 f1 c1 n1 kp1 l1 nt1 w1 sh1 (p1 : Int) t1 d1 wa1), (miscSeg z fs ss sp la gr (m : Int) tp), B4, A5, C6])) (congrArg (fun q : Int => ((17, [some (.inr 110), some (.inr 64), some (.inl (x : Int)), some (.inl (numL tp (x + 1) 1)), none, none, none, none, none], .inl q :: [], [A0, (moSeg 32 k f c n kp l nt w sh (p : Int) t d wa), (moSeg 64 k1 f1 c1 n1 kp1 l1 nt1 w1 sh1 (p1 : Int) t1 d1 wa1), (miscSeg z fs ss sp la gr (m : Int) tp), B4, A5, C6]) : aF)) (hL)) ?_
  refine b_look (tgt := 254) okX6_sayTo rfl (by decide) ⟨by decide, by decide⟩ rfl rfl ?_
  refine aGo okX6_sayTo 5 (f' := (259, [some (.inr 110), some (.inr 64), some (.inl (x : Int)), some (.inl (numL tp (x + 1) 1)), none, none, none, none, none], [.inl 2, .inl ((x : Int) + 1), .inr 110], _)) rfl ?_
  refine b_vE (as := [.inl ((x : Int) + 1), .inl 2]) (rest := []) (k := 110) okX6_sayTo rfl lkX6_85 caX6_number (Nat.le_of_ble_eq_true rfl) rfl (Nat.le_of_ble_eq_true rfl) rfl rfl rfl (c_number (x := (x + 1)) (m := 2) (by omega) (by omega) htp) ?_
  rintro _ _ ⟨rfl, rfl⟩
  refine b_cast (f' := (262, [some (.inr 110), some (.inr 64), some (.inl (x : Int)), some (.inl (numL tp (x + 1) 1)), none, none, none, none, none], [.inl (o2 : Int)], [A0, (moSeg 32 k f c n kp l nt w sh (p : Int) t d wa), (moSeg 64 k1 f1 c1 n1 kp1 l1 nt1 w1 sh1 (p1 : Int) t1 d1 wa1), (miscSeg z fs ss sp la gr (m : Int) tp), B4, A5, C6])) (congrArg (fun q : Int => ((262, [some (.inr 110), some (.inr 64), some (.inl (x : Int)), some (.inl (numL tp (x + 1) 1)), none, none, none, none, none], .inl q :: [], [A0, (moSeg 32 k f c n kp l nt w sh (p : Int) t d wa), (moSeg 64 k1 f1 c1 n1 kp1 l1 nt1 w1 sh1 (p1 : Int) t1 d1 wa1), (miscSeg z fs ss sp la gr (m : Int) tp), B4, A5, C6]) : aF)) (ho2)) ?_
  refine aGo okX6_sayTo 3 (f' := (267, [some (.inr 110), some (.inr 64), some (.inl (x : Int)), some (.inl (numL tp (x + 1) 1)), none, none, none, none, some (.inl (o2 : Int))], [.inl 1, .inl (o2 : Int)], _)) rfl ?_
  refine b_lt (tgt := 290) okX6_sayTo rfl rfl ⟨by omega, by omega⟩ ⟨by omega, by omega⟩ (fun h267 => ?_) (fun h267 => ?_)
  · exfalso; omega
  · refine aGo okX6_sayTo 2 (f' := (274, [some (.inr 110), some (.inr 64), some (.inl (x : Int)), some (.inl (numL tp (x + 1) 1)), none, none, none, none, some (.inl (o2 : Int))], [.inl 60, .inl (o2 : Int)], _)) rfl ?_
    refine b_gt (tgt := 290) okX6_sayTo rfl rfl ⟨by omega, by omega⟩ ⟨by omega, by omega⟩ (fun h274 => ?_) (fun h274 => ?_)
    · exfalso; omega
    · refine aGo okX6_sayTo 1 (f' := (278, [some (.inr 110), some (.inr 64), some (.inl (x : Int)), some (.inl (numL tp (x + 1) 1)), none, none, none, none, some (.inl (o2 : Int))], [.inr 64], _)) rfl ?_
      refine b_vV (as := []) (rest := []) (k := 64) (.inl d1) okX6_sayTo rfl lkX6_120 caX3_day (Nat.le_of_ble_eq_true rfl) rfl (Nat.le_of_ble_eq_true rfl) rfl rfl rfl (c_day_2) ?_
      refine aGo okX6_sayTo 3 (f' := (287, [some (.inr 110), some (.inr 64), some (.inl (x : Int)), some (.inl (numL tp (x + 1) 1)), none, none, none, none, some (.inl (o2 : Int))], [.inl 999, .inl (d1 + (o2 : Int))], _)) rfl ?_
      refine b_le (tgt := 292) okX6_sayTo rfl rfl ⟨by omega, by omega⟩ ⟨by omega, by omega⟩ (fun h287 => ?_) (fun h287 => ?_)
      · refine aGo okX6_sayTo 2 (f' := (295, [some (.inr 110), some (.inr 64), some (.inl (x : Int)), some (.inl (numL tp (x + 1) 1)), none, none, none, none, some (.inl (o2 : Int))], [.inl (o2 : Int), .inr 64], _)) rfl ?_
        refine b_vE (as := [.inl (o2 : Int)]) (rest := []) (k := 64) okX6_sayTo rfl lkX6_123 caX3_passDays (Nat.le_of_ble_eq_true rfl) rfl (Nat.le_of_ble_eq_true rfl) rfl rfl rfl (c_passDays_2 (m := o2) hp7 (by omega) hkp hn hsh hnt rkp rn (mOK_hle hm)) ?_
        rintro _ _ ⟨rfl, rfl⟩
        refine aGo okX6_sayTo 2 (f' := (300, [some (.inr 110), some (.inr 64), some (.inl (x : Int)), some (.inl (numL tp (x + 1) 1)), none, none, none, none, some (.inl (o2 : Int))], [.inl 1], _)) rfl ?_
        exact b_ret (v := (some (.inl 1))) ⟨rfl, Or.inr ⟨rfl, Or.inr rfl⟩⟩ ⟨rfl, _, by rw [sayS_5 hfm, ho2, mOK_it hm o2]; exact ⟨hp6, by show d1 + (o2 : Int) ≤ 999; omega, nt1, w1, sh1, wa1, mOK_days hm (by omega), rfl⟩, rfl⟩ rfl
      · exfalso; omega
set_option maxRecDepth 100000 in
set_option maxHeartbeats 4000000 in
theorem c_say_5f {x : Nat} (hm : mOK p1 k1 f1 c1 n1 kp1 l1 nt1 w1 sh1 t1 d1 wa1) (hp6 : p1 ≤ 6) (hd9 : d1 ≤ 999) (htp : tp.length = 96) (rtp : rng tp 255) (hm9 : m ≤ 96) (hwf : wfS tp m x) (hL : tp.getD x 0 = 100) (hB : ¬ (1 ≤ numL tp (x + 1) 2 ∧ numL tp (x + 1) 2 ≤ 60 ∧ d1 + numL tp (x + 1) 2 ≤ 999)) : aEv mX6_sayTo 7 0 0 N [.inr 110, .inr 64, .inl (x : Int)] [A0, (moSeg 32 k f c n kp l nt w sh (p : Int) t d wa), (moSeg 64 k1 f1 c1 n1 kp1 l1 nt1 w1 sh1 (p1 : Int) t1 d1 wa1), (miscSeg z fs ss sp la gr (m : Int) tp), B4, A5, C6] ((fun rv h => rv = some (.inl 0) ∧ ∃ B2, thM (k1, f1, c1, n1, kp1, l1, p1, t1, d1) B2 ∧ h = [A0, (moSeg 32 k f c n kp l nt w sh (p : Int) t d wa), B2, (miscSeg z fs ss sp la gr (m : Int) tp), B4, A5, C6])) := by
  obtain ⟨⟨hp7, hk, hf, hc, hn, hkp, hl, rk, rf, rc, rn, rkp, rl, ht0, ht1, hd0, hd1⟩, ⟨hnt, znt⟩, ⟨hw, zw, zwa⟩, ⟨hsh, zsh⟩⟩ := id hm
  have hfm : fmI (tp.getD x 0) = 5 := by rw [hL]; rfl
  have hlen := hwf.2.1
  rw [hfm] at hlen
  have hlen2 : x + 4 ≤ m := hlen
  have b1 := wf_num hwf hfm (a := 1) (b := 2) (by decide) (by decide) (by decide +kernel)
  have b1q : (10 : Int) ^ 2 = 100 := by decide
  rw [b1q] at b1
  have ro := rtp (x + 1)
  have rn1 : numL tp (x + 1) 1 = 10 * 0 + tp.getD (x + 1 + 0) 0 - 48 := rfl
  rw [Nat.add_zero] at rn1
  obtain ⟨o2, ho2⟩ : ∃ o2 : Nat, numL tp (x + 1) 2 = (o2 : Int) := ⟨(numL tp (x + 1) 2).toNat, by omega⟩
  refine aEv_of okX6_sayTo caX6_sayTo (Nat.le_of_ble_eq_true rfl) ?_
  refine aGo okX6_sayTo 5 (f' := (5, [some (.inr 110), some (.inr 64), some (.inl (x : Int)), none, none, none, none, none, none], [.inl 1, .inl ((x : Int) + 1), .inr 110], _)) rfl ?_
  refine b_vE (as := [.inl ((x : Int) + 1), .inl 1]) (rest := []) (k := 110) okX6_sayTo rfl lkX6_85 caX6_number (Nat.le_of_ble_eq_true rfl) rfl (Nat.le_of_ble_eq_true rfl) rfl rfl rfl (c_number (x := (x + 1)) (m := 1) (by omega) (by omega) htp) ?_
  rintro _ _ ⟨rfl, rfl⟩
  refine aGo okX6_sayTo 4 (f' := (14, [some (.inr 110), some (.inr 64), some (.inl (x : Int)), some (.inl (numL tp (x + 1) 1)), none, none, none, none, none], [.inl (x : Int), .inr 111], _)) rfl ?_
  refine b_vV (as := [.inl (x : Int)]) (rest := []) (k := 111) (.inl (tp.getD x 0)) okX6_sayTo rfl lkX6_54 caX4_at (Nat.le_of_ble_eq_true rfl) rfl (Nat.le_of_ble_eq_true rfl) rfl rfl rfl (c_at (i := x) rfl rfl (by first | omega | (simp only [List.length_set]; omega)) (by omega)) ?_
  refine b_cast (f' := (17, [some (.inr 110), some (.inr 64), some (.inl (x : Int)), some (.inl (numL tp (x + 1) 1)), none, none, none, none, none], [.inl (100)], [A0, (moSeg 32 k f c n kp l nt w sh (p : Int) t d wa), (moSeg 64 k1 f1 c1 n1 kp1 l1 nt1 w1 sh1 (p1 : Int) t1 d1 wa1), (miscSeg z fs ss sp la gr (m : Int) tp), B4, A5, C6])) (congrArg (fun q : Int => ((17, [some (.inr 110), some (.inr 64), some (.inl (x : Int)), some (.inl (numL tp (x + 1) 1)), none, none, none, none, none], .inl q :: [], [A0, (moSeg 32 k f c n kp l nt w sh (p : Int) t d wa), (moSeg 64 k1 f1 c1 n1 kp1 l1 nt1 w1 sh1 (p1 : Int) t1 d1 wa1), (miscSeg z fs ss sp la gr (m : Int) tp), B4, A5, C6]) : aF)) (hL)) ?_
  refine b_look (tgt := 254) okX6_sayTo rfl (by decide) ⟨by decide, by decide⟩ rfl rfl ?_
  refine aGo okX6_sayTo 5 (f' := (259, [some (.inr 110), some (.inr 64), some (.inl (x : Int)), some (.inl (numL tp (x + 1) 1)), none, none, none, none, none], [.inl 2, .inl ((x : Int) + 1), .inr 110], _)) rfl ?_
  refine b_vE (as := [.inl ((x : Int) + 1), .inl 2]) (rest := []) (k := 110) okX6_sayTo rfl lkX6_85 caX6_number (Nat.le_of_ble_eq_true rfl) rfl (Nat.le_of_ble_eq_true rfl) rfl rfl rfl (c_number (x := (x + 1)) (m := 2) (by omega) (by omega) htp) ?_
  rintro _ _ ⟨rfl, rfl⟩
  refine b_cast (f' := (262, [some (.inr 110), some (.inr 64), some (.inl (x : Int)), some (.inl (numL tp (x + 1) 1)), none, none, none, none, none], [.inl (o2 : Int)], [A0, (moSeg 32 k f c n kp l nt w sh (p : Int) t d wa), (moSeg 64 k1 f1 c1 n1 kp1 l1 nt1 w1 sh1 (p1 : Int) t1 d1 wa1), (miscSeg z fs ss sp la gr (m : Int) tp), B4, A5, C6])) (congrArg (fun q : Int => ((262, [some (.inr 110), some (.inr 64), some (.inl (x : Int)), some (.inl (numL tp (x + 1) 1)), none, none, none, none, none], .inl q :: [], [A0, (moSeg 32 k f c n kp l nt w sh (p : Int) t d wa), (moSeg 64 k1 f1 c1 n1 kp1 l1 nt1 w1 sh1 (p1 : Int) t1 d1 wa1), (miscSeg z fs ss sp la gr (m : Int) tp), B4, A5, C6]) : aF)) (ho2)) ?_
  refine aGo okX6_sayTo 3 (f' := (267, [some (.inr 110), some (.inr 64), some (.inl (x : Int)), some (.inl (numL tp (x + 1) 1)), none, none, none, none, some (.inl (o2 : Int))], [.inl 1, .inl (o2 : Int)], _)) rfl ?_
  refine b_lt (tgt := 290) okX6_sayTo rfl rfl ⟨by omega, by omega⟩ ⟨by omega, by omega⟩ (fun h267 => ?_) (fun h267 => ?_)
  · refine aGo okX6_sayTo 1 (f' := (291, [some (.inr 110), some (.inr 64), some (.inl (x : Int)), some (.inl (numL tp (x + 1) 1)), none, none, none, none, some (.inl (o2 : Int))], [.inl 0], _)) rfl ?_
    exact b_ret (v := (some (.inl 0))) ⟨rfl, Or.inr ⟨rfl, Or.inl rfl⟩⟩ ⟨rfl, _, ⟨hp6, hd9, nt1, w1, sh1, wa1, hm, rfl⟩, rfl⟩ rfl
  · refine aGo okX6_sayTo 2 (f' := (274, [some (.inr 110), some (.inr 64), some (.inl (x : Int)), some (.inl (numL tp (x + 1) 1)), none, none, none, none, some (.inl (o2 : Int))], [.inl 60, .inl (o2 : Int)], _)) rfl ?_
    refine b_gt (tgt := 290) okX6_sayTo rfl rfl ⟨by omega, by omega⟩ ⟨by omega, by omega⟩ (fun h274 => ?_) (fun h274 => ?_)
    · refine aGo okX6_sayTo 1 (f' := (291, [some (.inr 110), some (.inr 64), some (.inl (x : Int)), some (.inl (numL tp (x + 1) 1)), none, none, none, none, some (.inl (o2 : Int))], [.inl 0], _)) rfl ?_
      exact b_ret (v := (some (.inl 0))) ⟨rfl, Or.inr ⟨rfl, Or.inl rfl⟩⟩ ⟨rfl, _, ⟨hp6, hd9, nt1, w1, sh1, wa1, hm, rfl⟩, rfl⟩ rfl
    · refine aGo okX6_sayTo 1 (f' := (278, [some (.inr 110), some (.inr 64), some (.inl (x : Int)), some (.inl (numL tp (x + 1) 1)), none, none, none, none, some (.inl (o2 : Int))], [.inr 64], _)) rfl ?_
      refine b_vV (as := []) (rest := []) (k := 64) (.inl d1) okX6_sayTo rfl lkX6_120 caX3_day (Nat.le_of_ble_eq_true rfl) rfl (Nat.le_of_ble_eq_true rfl) rfl rfl rfl (c_day_2) ?_
      refine aGo okX6_sayTo 3 (f' := (287, [some (.inr 110), some (.inr 64), some (.inl (x : Int)), some (.inl (numL tp (x + 1) 1)), none, none, none, none, some (.inl (o2 : Int))], [.inl 999, .inl (d1 + (o2 : Int))], _)) rfl ?_
      refine b_le (tgt := 292) okX6_sayTo rfl rfl ⟨by omega, by omega⟩ ⟨by omega, by omega⟩ (fun h287 => ?_) (fun h287 => ?_)
      · exfalso; omega
      · refine aGo okX6_sayTo 1 (f' := (291, [some (.inr 110), some (.inr 64), some (.inl (x : Int)), some (.inl (numL tp (x + 1) 1)), none, none, none, none, some (.inl (o2 : Int))], [.inl 0], _)) rfl ?_
        exact b_ret (v := (some (.inl 0))) ⟨rfl, Or.inr ⟨rfl, Or.inl rfl⟩⟩ ⟨rfl, _, ⟨hp6, hd9, nt1, w1, sh1, wa1, hm, rfl⟩, rfl⟩ rfl
theorem c_sayTo {x : Nat} {s : moT} (hs : thM s B) (htp : tp.length = 96) (rtp : rng tp 255) (hm9 : m ≤ 96) (hwf : wfS tp m x) : aEv mX6_sayTo 7 0 0 N [.inr 110, .inr 64, .inl (x : Int)] [A0, (moSeg 32 k f c n kp l nt w sh (p : Int) t d wa), B, (miscSeg z fs ss sp la gr (m : Int) tp), B4, A5, C6] (fun rv h => rv = some (.inl (if sayB tp x s = true then 1 else 0)) ∧ ∃ B2, thM (if sayB tp x s = true then sayS tp x s else s) B2 ∧ h = [A0, (moSeg 32 k f c n kp l nt w sh (p : Int) t d wa), B2, (miscSeg z fs ss sp la gr (m : Int) tp), B4, A5, C6]) := by
  obtain ⟨k1, f1, c1, n1, kp1, l1, p1, t1, d1⟩ := s
  obtain ⟨hp6, hd9, nt1, w1, sh1, wa1, hm, rfl⟩ := hs
  simp only at hp6 hd9 hm
  rcases fmI_code hwf.1 with hL | hL | hL | hL | hL | hL
  · have hfm : fmI (tp.getD x 0) = 0 := by rw [hL]; rfl
    by_cases hB : numL tp (x + 3) 2 ≤ 35 ∧ p1 < 6
    · have e : sayB tp x (k1, f1, c1, n1, kp1, l1, p1, t1, d1) = true := by rw [sayB_0 hfm]; exact decide_eq_true hB
      rw [if_pos e, if_pos e]; exact c_say_0t hm hp6 hd9 htp rtp hm9 hwf hL hB
    · have e : sayB tp x (k1, f1, c1, n1, kp1, l1, p1, t1, d1) = false := by rw [sayB_0 hfm]; exact decide_eq_false hB
      rw [if_neg (by rw [e]; decide), if_neg (by rw [e]; decide)]; exact c_say_0f hm hp6 hd9 htp rtp hm9 hwf hL hB
  · have hfm : fmI (tp.getD x 0) = 1 := by rw [hL]; rfl
    by_cases hB : numL tp (x + 1) 1 < (p1 : Int) ∧ numL tp (x + 2) 2 ≤ 35
    · have e : sayB tp x (k1, f1, c1, n1, kp1, l1, p1, t1, d1) = true := by rw [sayB_1 hfm]; exact decide_eq_true hB
      rw [if_pos e, if_pos e]; exact c_say_1t hm hp6 hd9 htp rtp hm9 hwf hL hB
    · have e : sayB tp x (k1, f1, c1, n1, kp1, l1, p1, t1, d1) = false := by rw [sayB_1 hfm]; exact decide_eq_false hB
      rw [if_neg (by rw [e]; decide), if_neg (by rw [e]; decide)]; exact c_say_1f hm hp6 hd9 htp rtp hm9 hwf hL hB
  · have hfm : fmI (tp.getD x 0) = 2 := by rw [hL]; rfl
    by_cases hB : numL tp (x + 1) 1 < (p1 : Int) ∧ numL tp (x + 2) 1 < (p1 : Int) ∧ numL tp (x + 1) 1 ≠ numL tp (x + 2) 1
    · have e : sayB tp x (k1, f1, c1, n1, kp1, l1, p1, t1, d1) = true := by rw [sayB_2 hfm]; exact decide_eq_true hB
      rw [if_pos e, if_pos e]; exact c_say_2t hm hp6 hd9 htp rtp hm9 hwf hL hB
    · have e : sayB tp x (k1, f1, c1, n1, kp1, l1, p1, t1, d1) = false := by rw [sayB_2 hfm]; exact decide_eq_false hB
      rw [if_neg (by rw [e]; decide), if_neg (by rw [e]; decide)]; exact c_say_2f hm hp6 hd9 htp rtp hm9 hwf hL hB
  · have hfm : fmI (tp.getD x 0) = 3 := by rw [hL]; rfl
    by_cases hB : numL tp (x + 1) 1 < (p1 : Int)
    · have e : sayB tp x (k1, f1, c1, n1, kp1, l1, p1, t1, d1) = true := by rw [sayB_3 hfm]; exact decide_eq_true hB
      rw [if_pos e, if_pos e]; exact c_say_3t hm hp6 hd9 htp rtp hm9 hwf hL hB
    · have e : sayB tp x (k1, f1, c1, n1, kp1, l1, p1, t1, d1) = false := by rw [sayB_3 hfm]; exact decide_eq_false hB
      rw [if_neg (by rw [e]; decide), if_neg (by rw [e]; decide)]; exact c_say_3f hm hp6 hd9 htp rtp hm9 hwf hL hB
  · have hfm : fmI (tp.getD x 0) = 4 := by rw [hL]; rfl
    by_cases hB : True
    · have e : sayB tp x (k1, f1, c1, n1, kp1, l1, p1, t1, d1) = true := by rw [sayB_4 hfm]
      rw [if_pos e, if_pos e]; exact c_say_4t hm hp6 hd9 htp rtp hm9 hwf hL hB
    · exact absurd trivial hB
  · have hfm : fmI (tp.getD x 0) = 5 := by rw [hL]; rfl
    by_cases hB : 1 ≤ numL tp (x + 1) 2 ∧ numL tp (x + 1) 2 ≤ 60 ∧ d1 + numL tp (x + 1) 2 ≤ 999
    · have e : sayB tp x (k1, f1, c1, n1, kp1, l1, p1, t1, d1) = true := by rw [sayB_5 hfm]; exact decide_eq_true hB
      rw [if_pos e, if_pos e]; exact c_say_5t hm hp6 hd9 htp rtp hm9 hwf hL hB
    · have e : sayB tp x (k1, f1, c1, n1, kp1, l1, p1, t1, d1) = false := by rw [sayB_5 hfm]; exact decide_eq_false hB
      rw [if_neg (by rw [e]; decide), if_neg (by rw [e]; decide)]; exact c_say_5f hm hp6 hd9 htp rtp hm9 hwf hL hB

theorem c_sayTo_t {x : Nat} {s : moT} (hs : thM s B) (htp : tp.length = 96) (rtp : rng tp 255) (hm9 : m ≤ 96) (hwf : wfS tp m x) (hb : sayB tp x s = true) : aEv mX6_sayTo 7 0 0 N [.inr 110, .inr 64, .inl (x : Int)] [A0, (moSeg 32 k f c n kp l nt w sh (p : Int) t d wa), B, (miscSeg z fs ss sp la gr (m : Int) tp), B4, A5, C6] (fun rv h => rv = some (.inl 1) ∧ ∃ B2, thM (sayS tp x s) B2 ∧ h = [A0, (moSeg 32 k f c n kp l nt w sh (p : Int) t d wa), B2, (miscSeg z fs ss sp la gr (m : Int) tp), B4, A5, C6]) := by
  refine aEv_mono (c_sayTo hs htp rtp hm9 hwf) ?_
  rintro v h2 ⟨e1, B2, e2, e3⟩
  rw [if_pos hb] at e1 e2
  exact ⟨e1, B2, e2, e3⟩
theorem c_sayTo_f {x : Nat} {s : moT} (hs : thM s B) (htp : tp.length = 96) (rtp : rng tp 255) (hm9 : m ≤ 96) (hwf : wfS tp m x) (hb : ¬ sayB tp x s = true) : aEv mX6_sayTo 7 0 0 N [.inr 110, .inr 64, .inl (x : Int)] [A0, (moSeg 32 k f c n kp l nt w sh (p : Int) t d wa), B, (miscSeg z fs ss sp la gr (m : Int) tp), B4, A5, C6] (fun rv h => rv = some (.inl 0) ∧ ∃ B2, thM s B2 ∧ h = [A0, (moSeg 32 k f c n kp l nt w sh (p : Int) t d wa), B2, (miscSeg z fs ss sp la gr (m : Int) tp), B4, A5, C6]) := by
  refine aEv_mono (c_sayTo hs htp rtp hm9 hwf) ?_
  rintro v h2 ⟨e1, B2, e2, e3⟩
  rw [if_neg hb] at e1 e2
  exact ⟨e1, B2, e2, e3⟩
def mvT (tp : List Int) (m : Nat) (s : moT) : moT := if 0 ≤ fwF tp m 97 0 then s else (runF tp m 97 0 0 s).2
theorem fwF_le {tp : List Int} {m : Nat} (hm : m ≤ 96) : ∀ s x, x ≤ m + 8 → -1 ≤ fwF tp m s x ∧ fwF tp m s x ≤ 300 := by
  have hi : ∀ f, ∀ x, x ≤ m + 8 → ∀ j i, i + j ≤ 40 → -1 ≤ innF tp m x f j i ∧ innF tp m x f j i ≤ 300 := by
    intro f x hx j
    induction j with
    | zero => intro i _; exact ⟨Int.le_refl _, (by decide : (-1 : Int) ≤ 300)⟩
    | succ j ih =>
      intro i hij
      by_cases z : m ≤ x + i ∨ fitI (tp.getD (x + i) 0) (chr f i) = 0
      · rw [innF_t z]; omega
      · rw [innF_f z]; exact ih (i + 1) (by omega)
  intro s
  induction s with
  | zero => intro x _; show -1 ≤ (if m = 0 then (0 : Int) else -1) ∧ _ ≤ _; simp only [fwF]; split <;> omega
  | succ s ih =>
    intro x hx
    have h8 := tx_len (fmI (tp.getD x 0)) (by have := fmI_le (tp.getD x 0); omega)
    have h1 := hi (fmI (tp.getD x 0)) x hx (aTxLen.getD (fmI (tp.getD x 0)) 0 - 1) 1 (by omega)
    by_cases z : m ≤ x
    · rw [fwF_end z]; split <;> omega
    · simp only [fwF]; rw [if_neg z]
      split
      · omega
      · split
        · rename_i h6 hin
          have hh := innF_ok _ _ hin
          refine ih _ ?_
          by_cases y : aTxLen.getD (fmI (tp.getD x 0)) 0 ≤ 8
          · omega
          · omega
        · exact h1
set_option maxRecDepth 100000 in
set_option maxHeartbeats 4000000 in
theorem c_tellTo {s : moT} (hs : thM s B) (htp : tp.length = 96) (rtp : rng tp 255) (hm9 : m ≤ 96) : aEv mX6_tellTo 9 0 0 N [.inr 110, .inr 64] [A0, (moSeg 32 k f c n kp l nt w sh (p : Int) t d wa), B, (miscSeg z fs ss sp la gr (m : Int) tp), B4, A5, C6] ((fun rv h => rv = some (.inl (mvA tp m s)) ∧ ∃ B2, thM (mvT tp m s) B2 ∧ h = [A0, (moSeg 32 k f c n kp l nt w sh (p : Int) t d wa), B2, (miscSeg z fs ss sp la gr (m : Int) tp), B4, A5, C6])) := by
  have hfl := fwF_le (tp := tp) hm9 97 0 (by omega)
  refine aEv_of okX6_tellTo caX6_tellTo (Nat.le_of_ble_eq_true rfl) ?_
  obtain ⟨AN, AS, hAN⟩ : ∃ AN AS, runF tp m 97 0 0 s = (AN, AS) := ⟨_, _, rfl⟩
  have lp : ∀ (j x : Nat) (a : Int) (s : moT) (B : List (Option aE)), m ≤ x + j → x ≤ m + 8 → fwF tp m j x = -1 → thM s B → 0 ≤ a → a ≤ x → runF tp m j x a s = (AN, AS) → AW mX6_tellTo 9 0 0 N none (fun rv h => rv = some (.inl AN) ∧ ∃ B2, thM AS B2 ∧ h = [A0, (moSeg 32 k f c n kp l nt w sh (p : Int) t d wa), B2, (miscSeg z fs ss sp la gr (m : Int) tp), B4, A5, C6]) (20, [some (.inr 110), some (.inr 64), some (.inl (-1)), some (.inl a), some (.inl (x : Int))], [], [A0, (moSeg 32 k f c n kp l nt w sh (p : Int) t d wa), B, (miscSeg z fs ss sp la gr (m : Int) tp), B4, A5, C6]) := by
    intro j
    induction j with
    | zero =>
      intro x a s B hj hx8 hw hs ha0 ha1 hr
      refine aGo okX6_tellTo 3 (f' := (26, [some (.inr 110), some (.inr 64), some (.inl (-1)), some (.inl a), some (.inl (x : Int))], [.inl (m : Int), .inl (x : Int)], _)) rfl ?_
      refine b_ge (tgt := 70) okX6_tellTo rfl rfl ⟨by omega, by omega⟩ ⟨by omega, by omega⟩ (fun h26 => ?_) (fun h26 => absurd h26 (by omega))
      refine aGo okX6_tellTo 1 (f' := (71, [some (.inr 110), some (.inr 64), some (.inl (-1)), some (.inl a), some (.inl (x : Int))], [.inl a], _)) rfl ?_
      exact b_ret (v := (some (.inl a))) ⟨rfl, Or.inl rfl⟩ ⟨by rw [runF_end (by omega)] at hr; cases hr; rfl, _, by rw [runF_end (by omega)] at hr; cases hr; exact hs, rfl⟩ rfl
    | succ j ih =>
      intro x a s B hj hx8 hw hs ha0 ha1 hr
      refine aGo okX6_tellTo 3 (f' := (26, [some (.inr 110), some (.inr 64), some (.inl (-1)), some (.inl a), some (.inl (x : Int))], [.inl (m : Int), .inl (x : Int)], _)) rfl ?_
      refine b_ge (tgt := 70) okX6_tellTo rfl rfl ⟨by omega, by omega⟩ ⟨by omega, by omega⟩ (fun h26 => ?_) (fun h26 => ?_)
      · refine aGo okX6_tellTo 1 (f' := (71, [some (.inr 110), some (.inr 64), some (.inl (-1)), some (.inl a), some (.inl (x : Int))], [.inl a], _)) rfl ?_
        exact b_ret (v := (some (.inl a))) ⟨rfl, Or.inl rfl⟩ ⟨by rw [runF_end (by omega)] at hr; cases hr; rfl, _, by rw [runF_end (by omega)] at hr; cases hr; exact hs, rfl⟩ rfl
      · obtain ⟨hwf, hw2⟩ := fwF_wf (by omega) hw
        obtain ⟨fo, hfo⟩ : ∃ fo, fo = fmI (tp.getD x 0) := ⟨_, rfl⟩
        have hfo6 : fo < 6 := by rw [hfo]; exact hwf.1
        obtain ⟨L, hL⟩ : ∃ L, aTxLen.getD fo 0 = L := ⟨_, rfl⟩
        have hL8 := tx_len fo (by omega)
        have hL1 := tx_pos fo hfo6
        rw [hL] at hL8 hL1
        have hxL := hwf.2.1
        rw [← hfo, hL] at hxL hw2
        refine aGo okX6_tellTo 3 (f' := (33, [some (.inr 110), some (.inr 64), some (.inl (-1)), some (.inl a), some (.inl (x : Int))], [.inl (x : Int), .inr 64, .inr 110], _)) rfl ?_
        by_cases hc33 : sayB tp x s = true
        · refine b_vE (as := [.inr 64, .inl (x : Int)]) (rest := []) (k := 110) okX6_tellTo rfl lkX6_32 caX6_sayTo (Nat.le_of_ble_eq_true rfl) rfl (Nat.le_of_ble_eq_true rfl) rfl rfl rfl (c_sayTo_t hs htp rtp hm9 hwf hc33) ?_
          rintro _ _ ⟨rfl, B2, hs2, rfl⟩
          refine b0_ne (tgt := 46) okX6_tellTo rfl rfl ⟨by omega, by omega⟩ (fun h36 => ?_) (fun h36 => absurd h36 (by omega))
          refine aGo okX6_tellTo 5 (f' := (55, [some (.inr 110), some (.inr 64), some (.inl (-1)), some (.inl (a + 1)), some (.inl (x : Int))], [.inl (x : Int), .inr 110, .inl 1, .inl (x : Int)], _)) rfl ?_
          refine b_vE (as := [.inl (x : Int)]) (rest := [.inl 1, .inl (x : Int)]) (k := 110) okX6_tellTo rfl lkX6_36 caX6_formAt (Nat.le_of_ble_eq_true rfl) rfl (Nat.le_of_ble_eq_true rfl) rfl rfl rfl (c_formAt (x := x) (by omega) htp rtp) ?_
          rintro _ _ ⟨rfl, rfl⟩
          rw [← hfo]
          refine b_vZ (i := fo) (as := []) (rest := [.inl 1, .inl (x : Int)]) (.inl (L : Int)) okX6_tellTo rfl lkX6_40 caJ0_length_8abf5 (Nat.le_of_ble_eq_true rfl) rfl (Nat.le_of_ble_eq_true rfl) (by omega) rfl rfl (c_strLenV (i := fo) (L := (L : Int)) (by omega) (by rw [hL])) ?_
          refine b_max okX6_tellTo rfl lkX6_44 ma_max_s ma_max_c (Nat.le_of_ble_eq_true rfl) (Nat.le_of_ble_eq_true rfl) ⟨by omega, by omega⟩ ⟨by omega, by omega⟩ ?_
          refine aGo okX6_tellTo 3 (f' := (20, [some (.inr 110), some (.inr 64), some (.inl (-1)), some (.inl (a + 1)), some (.inl ((x : Int) + (max 1 (L : Int))))], [], _)) rfl ?_
          refine b_cast (f' := (20, [some (.inr 110), some (.inr 64), some (.inl (-1)), some (.inl (a + 1)), some (.inl (((x + L) : Nat) : Int))], [], [A0, (moSeg 32 k f c n kp l nt w sh (p : Int) t d wa), B2, (miscSeg z fs ss sp la gr (m : Int) tp), B4, A5, C6])) (by rw [show (x : Int) + max 1 (L : Int) = ((x + L : Nat) : Int) by omega]) ?_
          rw [runF_t (by omega) hc33, ← hfo, hL] at hr
          exact ih (x + L) (a + 1) _ _ (by omega) (by omega) hw2 hs2 (by omega) (by omega) hr
        · refine b_vE (as := [.inr 64, .inl (x : Int)]) (rest := []) (k := 110) okX6_tellTo rfl lkX6_32 caX6_sayTo (Nat.le_of_ble_eq_true rfl) rfl (Nat.le_of_ble_eq_true rfl) rfl rfl rfl (c_sayTo_f hs htp rtp hm9 hwf hc33) ?_
          rintro _ _ ⟨rfl, B2, hs2, rfl⟩
          refine b0_ne (tgt := 46) okX6_tellTo rfl rfl ⟨by omega, by omega⟩ (fun h36 => absurd h36 (by omega)) (fun h36 => ?_)
          refine aGo okX6_tellTo 3 (f' := (45, [some (.inr 110), some (.inr 64), some (.inl (-1)), some (.inl a), some (.inl (x : Int))], [.inl ((-2000) - (x : Int))], _)) rfl ?_
          exact b_ret (v := (some (.inl ((-2000) - (x : Int))))) ⟨rfl, Or.inl rfl⟩ ⟨by rw [runF_f (by omega) hc33] at hr; cases hr; rfl, _, by rw [runF_f (by omega) hc33] at hr; cases hr; exact hs2, rfl⟩ rfl
  refine aGo okX6_tellTo 1 (f' := (1, [some (.inr 110), some (.inr 64), none, none, none], [.inr 110], _)) rfl ?_
  refine b_vE (as := []) (rest := []) (k := 110) okX6_tellTo rfl lkX6_28 caX6_firstWrongLetter (Nat.le_of_ble_eq_true rfl) rfl (Nat.le_of_ble_eq_true rfl) rfl rfl rfl (c_firstWrongLetter hm9 htp rtp) ?_
  rintro _ _ ⟨rfl, rfl⟩
  refine aGo okX6_tellTo 2 (f' := (6, [some (.inr 110), some (.inr 64), some (.inl (fwF tp m 97 0)), none, none], [.inl (fwF tp m 97 0)], _)) rfl ?_
  refine b0_lt (tgt := 15) okX6_tellTo rfl rfl ⟨by omega, by omega⟩ (fun h6 => ?_) (fun h6 => ?_)
  · refine aGo okX6_tellTo 4 (f' := (20, [some (.inr 110), some (.inr 64), some (.inl (fwF tp m 97 0)), some (.inl 0), some (.inl 0)], [], _)) rfl ?_
    have hw : fwF tp m 97 0 = -1 := by omega
    refine b_cast (f' := (20, [some (.inr 110), some (.inr 64), some (.inl (-1)), some (.inl 0), some (.inl 0)], [], [A0, (moSeg 32 k f c n kp l nt w sh (p : Int) t d wa), B, (miscSeg z fs ss sp la gr (m : Int) tp), B4, A5, C6])) (by rw [hw]) ?_
    have e1 : mvA tp m s = AN := by unfold mvA; rw [if_neg (by omega), hAN]
    have e2 : mvT tp m s = AS := by unfold mvT; rw [if_neg (by omega), hAN]
    rw [e1, e2]
    exact lp 97 0 0 s B (by omega) (by omega) hw hs (by omega) (by omega) hAN
  · refine aGo okX6_tellTo 3 (f' := (14, [some (.inr 110), some (.inr 64), some (.inl (fwF tp m 97 0)), none, none], [.inl ((-1000) - (fwF tp m 97 0))], _)) rfl ?_
    exact b_ret (v := (some (.inl ((-1000) - (fwF tp m 97 0))))) ⟨rfl, Or.inl rfl⟩ ⟨congrArg (fun q : Int => (some (.inl q) : Option aV)) (by unfold mvA; rw [if_pos (by omega)]), B, by unfold mvT; rw [if_pos (by omega)]; exact hs, rfl⟩ rfl
end ATZ
