/-! The reference: days, kept and put back, one more; laid by gen_mod2.py -/
theorem lose6of7 (a0 a1 a2 a3 a4 a5 a6 : Option aV) : ∀ (i : Nat) (v : aV), [a0, a1, a2, a3, a4, a5, none][i]? = some (some v) → [a0, a1, a2, a3, a4, a5, a6][i]? = some (some v) := by
  intro i v h
  match i, h with
  | 0, h => exact h
  | 1, h => exact h
  | 2, h => exact h
  | 3, h => exact h
  | 4, h => exact h
  | 5, h => exact h
  | 6, h => simp at h
  | i + 7, h => simp at h
theorem aEv_mono {M : aM} {d kc ks n : Nat} {as : List aV} {h : aH} {Q Q' : Option aV → aH → Prop} (k : aEv M d kc ks n as h Q) (hq : ∀ v h2, Q v h2 → Q' v h2) : aEv M d kc ks n as h Q' := by
  intro l D cI base b0 adK adV p e ha hc hk s m args below hf happ hP hK
  obtain ⟨n2, o, h1, h2, h3, ⟨⟨v, h4, e1, e2, e3, e4⟩, e5⟩, e6⟩ := k l D cI base b0 adK adV p e ha hc hk s m args below hf happ hP hK
  exact ⟨n2, o, h1, h2, h3, ⟨⟨v, h4, e1, hq _ _ e2, e3, e4⟩, e5⟩, e6⟩
/-- a row is written, m of it, from place u on -/
def wrL (kt of : List Int) (u : Nat) : Nat → List Int
  | 0 => kt
  | i + 1 => (wrL kt of u i).set (u + i) (of.getD i 0)
theorem wrL_len (kt of : List Int) (u m : Nat) : (wrL kt of u m).length = kt.length := by
  induction m with
  | zero => rfl
  | succ m ih => simp only [wrL, List.length_set, ih]
theorem wrL_out {kt of : List Int} {u m j : Nat} (h : j < u ∨ u + m ≤ j) : (wrL kt of u m).getD j 0 = kt.getD j 0 := by
  induction m with
  | zero => rfl
  | succ m ih => simp only [wrL]; rw [getD_set_ne (by omega), ih (by omega)]
theorem wrL_in {kt of : List Int} {u m : Nat} (hl : u + m ≤ kt.length) {q : Nat} (hq : q < m) : (wrL kt of u m).getD (u + q) 0 = of.getD q 0 := by
  induction m with
  | zero => omega
  | succ m ih =>
    simp only [wrL]
    rw [getD_set (by rw [wrL_len]; omega)]
    by_cases h : q = m
    · subst h; rw [if_pos rfl]
    · rw [if_neg (by omega), ih (by omega) (by omega)]
/-- a row is read back -/
def rdL (of kt : List Int) (u : Nat) : Nat → List Int
  | 0 => of
  | i + 1 => (rdL of kt u i).set i (kt.getD (u + i) 0)
theorem rdL_len (of kt : List Int) (u m : Nat) : (rdL of kt u m).length = of.length := by
  induction m with
  | zero => rfl
  | succ m ih => simp only [rdL, List.length_set, ih]
theorem rdL_at {of kt : List Int} {u m q : Nat} (hm : m ≤ of.length) (hq : q < m) : (rdL of kt u m).getD q 0 = kt.getD (u + q) 0 := by
  induction m with
  | zero => omega
  | succ m ih =>
    simp only [rdL]
    rw [getD_set (by rw [rdL_len]; omega)]
    by_cases h : q = m
    · subst h; rw [if_pos rfl]
    · rw [if_neg h, ih (by omega) (by omega)]
theorem list_eq {a b : List Int} (hl : a.length = b.length) (h : ∀ q, q < a.length → a.getD q 0 = b.getD q 0) : a = b := by
  apply List.ext_getElem hl
  intro i h1 h2
  have := h i h1
  rw [List.getD_eq_getElem?_getD, List.getD_eq_getElem?_getD, List.getElem?_eq_getElem h1, List.getElem?_eq_getElem h2] at this
  exact this
theorem rd_eq {of kt O : List Int} {u m : Nat} (h1 : of.length = m) (h2 : O.length = m) (h : ∀ q, q < m → kt.getD (u + q) 0 = O.getD q 0) : rdL of kt u m = O := by
  apply list_eq
  · rw [rdL_len]; omega
  · intro q hq
    rw [rdL_len] at hq
    rw [rdL_at (by omega) (by omega), h q (by omega)]
/-- what stands in region w -/
def hld (w : Nat) (kt K F C Nn KP L : List Int) (P T D : Int) : Prop :=
  (∀ q, q < 7 → kt.getD (90 * w + q) 0 = K.getD q 0) ∧ (∀ q, q < 7 → kt.getD (90 * w + 7 + q) 0 = F.getD q 0) ∧ (∀ q, q < 7 → kt.getD (90 * w + 14 + q) 0 = C.getD q 0) ∧ (∀ q, q < 7 → kt.getD (90 * w + 21 + q) 0 = Nn.getD q 0) ∧
  (∀ q, q < 7 → kt.getD (90 * w + 28 + q) 0 = KP.getD q 0) ∧ (∀ q, q < 49 → kt.getD (90 * w + 35 + q) 0 = L.getD q 0) ∧ kt.getD (90 * w + 84) 0 = P ∧ kt.getD (90 * w + 85) 0 = T ∧ kt.getD (90 * w + 86) 0 = D
def keepL (w : Nat) (kt K F C Nn KP L : List Int) (P T D : Int) : List Int :=
  (((wrL (wrL (wrL (wrL (wrL (wrL kt K (90 * w) 7) F (90 * w + 7) 7) C (90 * w + 14) 7) Nn (90 * w + 21) 7) KP (90 * w + 28) 7) L (90 * w + 35) 49).set (90 * w + 84) P).set (90 * w + 85) T).set (90 * w + 86) D
theorem keepL_len (w : Nat) (kt K F C Nn KP L : List Int) (P T D : Int) : (keepL w kt K F C Nn KP L P T D).length = kt.length := by
  unfold keepL; simp only [List.length_set, wrL_len]
theorem keepL_out {w : Nat} {kt K F C Nn KP L : List Int} {P T D : Int} {j : Nat} (h : j < 90 * w ∨ 90 * w + 87 ≤ j) : (keepL w kt K F C Nn KP L P T D).getD j 0 = kt.getD j 0 := by
  unfold keepL
  rw [getD_set_ne (by omega), getD_set_ne (by omega), getD_set_ne (by omega), wrL_out (by omega), wrL_out (by omega), wrL_out (by omega), wrL_out (by omega), wrL_out (by omega), wrL_out (by omega)]
theorem hld_keep {w : Nat} {kt K F C Nn KP L : List Int} {P T D : Int} (hl : 90 * w + 87 ≤ kt.length) : hld w (keepL w kt K F C Nn KP L P T D) K F C Nn KP L P T D := by
  unfold keepL
  refine ⟨fun q hq => ?_, fun q hq => ?_, fun q hq => ?_, fun q hq => ?_, fun q hq => ?_, fun q hq => ?_, ?_, ?_, ?_⟩
  · rw [getD_set_ne (by omega), getD_set_ne (by omega), getD_set_ne (by omega), wrL_out (by omega), wrL_out (by omega), wrL_out (by omega), wrL_out (by omega), wrL_out (by omega), wrL_in (by omega) hq]
  · rw [getD_set_ne (by omega), getD_set_ne (by omega), getD_set_ne (by omega), wrL_out (by omega), wrL_out (by omega), wrL_out (by omega), wrL_out (by omega), wrL_in (by simp only [wrL_len]; omega) hq]
  · rw [getD_set_ne (by omega), getD_set_ne (by omega), getD_set_ne (by omega), wrL_out (by omega), wrL_out (by omega), wrL_out (by omega), wrL_in (by simp only [wrL_len]; omega) hq]
  · rw [getD_set_ne (by omega), getD_set_ne (by omega), getD_set_ne (by omega), wrL_out (by omega), wrL_out (by omega), wrL_in (by simp only [wrL_len]; omega) hq]
  · rw [getD_set_ne (by omega), getD_set_ne (by omega), getD_set_ne (by omega), wrL_out (by omega), wrL_in (by simp only [wrL_len]; omega) hq]
  · rw [getD_set_ne (by omega), getD_set_ne (by omega), getD_set_ne (by omega), wrL_in (by simp only [wrL_len]; omega) hq]
  · rw [getD_set_ne (by omega), getD_set_ne (by omega), getD_set_self (by simp only [wrL_len]; omega)]
  · rw [getD_set_ne (by omega), getD_set_self (by simp only [List.length_set, wrL_len]; omega)]
  · rw [getD_set_self (by simp only [List.length_set, wrL_len]; omega)]
theorem hld_of {w : Nat} {kt kt2 K F C Nn KP L : List Int} {P T D : Int} (h : hld w kt K F C Nn KP L P T D) (e : ∀ j, j < 90 * w + 90 → kt2.getD j 0 = kt.getD j 0) : hld w kt2 K F C Nn KP L P T D := by
  obtain ⟨g1, g2, g3, g4, g5, g6, g7, g8, g9⟩ := h
  exact ⟨fun q hq => by rw [e _ (by omega)]; exact g1 q hq, fun q hq => by rw [e _ (by omega)]; exact g2 q hq, fun q hq => by rw [e _ (by omega)]; exact g3 q hq, fun q hq => by rw [e _ (by omega)]; exact g4 q hq, fun q hq => by rw [e _ (by omega)]; exact g5 q hq, fun q hq => by rw [e _ (by omega)]; exact g6 q hq, by rw [e _ (by omega)]; exact g7, by rw [e _ (by omega)]; exact g8, by rw [e _ (by omega)]; exact g9⟩
/-- short days are counted -/
def soL (P : Nat → Bool) (so : List Int) : Nat → List Int
  | 0 => so
  | i + 1 => (soL P so i).set i ((soL P so i).getD i 0 + if P i = true then 1 else 0)
theorem soL_len (P : Nat → Bool) (so : List Int) (m : Nat) : (soL P so m).length = so.length := by
  induction m with
  | zero => rfl
  | succ m ih => simp only [soL, List.length_set, ih]
theorem soL_out {P : Nat → Bool} {so : List Int} {m q : Nat} (h : m ≤ q) : (soL P so m).getD q 0 = so.getD q 0 := by
  induction m with
  | zero => rfl
  | succ m ih => simp only [soL]; rw [getD_set_ne (by omega), ih (by omega)]
theorem soL_in {P : Nat → Bool} {so : List Int} {m q : Nat} (hl : m ≤ so.length) (h : q < m) : (soL P so m).getD q 0 = so.getD q 0 + if P q = true then 1 else 0 := by
  induction m with
  | zero => omega
  | succ m ih =>
    simp only [soL]
    rw [getD_set (by rw [soL_len]; omega)]
    by_cases e : q = m
    · subst e; rw [if_pos rfl, soL_out (Nat.le_refl q)]
    · rw [if_neg e, ih (by omega) (by omega)]
theorem soL_t {P : Nat → Bool} {so : List Int} {m : Nat} (h : P m = true) : soL P so (m + 1) = (soL P so m).set m ((soL P so m).getD m 0 + 1) := by simp only [soL]; rw [if_pos h]
theorem soL_f {P : Nat → Bool} {so : List Int} {m : Nat} (h : P m = false) : soL P so (m + 1) = (soL P so m).set m ((soL P so m).getD m 0 + 0) := by simp only [soL]; rw [if_neg (by rw [h]; decide)]
theorem cntN_t {P : Nat → Bool} {m : Nat} (h : P m = true) : cntN (m + 1) P = cntN m P + 1 := by unfold cntN; simp only [sumN]; rw [if_pos h]
theorem cntN_f {P : Nat → Bool} {m : Nat} (h : P m = false) : cntN (m + 1) P = cntN m P + 0 := by unfold cntN; simp only [sumN]; rw [if_neg (by rw [h]; decide)]
def zeL (so : List Int) : Nat → List Int
  | 0 => so
  | i + 1 => (zeL so i).set i 0
theorem zeL_len (so : List Int) (m : Nat) : (zeL so m).length = so.length := by
  induction m with
  | zero => rfl
  | succ m ih => simp only [zeL, List.length_set, ih]
theorem zeL_in {so : List Int} {m q : Nat} (hl : m ≤ so.length) (h : q < m) : (zeL so m).getD q 0 = 0 := by
  induction m with
  | zero => omega
  | succ m ih =>
    simp only [zeL]
    rw [getD_set (by rw [zeL_len]; omega)]
    by_cases e : q = m
    · rw [if_pos e]
    · rw [if_neg e, ih (by omega) (by omega)]
/-- where a guest is on the day behind day d -/
def visD (c : List Int) (d : Int) (i g : Nat) : Int := if (d + 1) % 7 = 1 then c.getD i 0 else c.getD g 0
theorem visD_le {c : List Int} (rc : rng c 35) (d : Int) (i g : Nat) : 0 ≤ visD c d i g ∧ visD c d i g ≤ 35 := by
  unfold visD; split
  · exact rc i
  · exact rc g
theorem gH_of {p : Nat} {k f c n kp l : List Int} {t d : Int} (h : bOK p k f c n kp l t d) {sh : List Int} (hs : sh.length = 7) : gH p k f c sh t := by
  obtain ⟨hp7, hk, hf, hc, hn, hkp, hl, rk, rf, rc, rn, rkp, rl, ht0, ht1, hd0, hd1⟩ := h
  exact ⟨hp7, hk, hf, hc, hs, rk, rf, rc, ht0, ht1⟩
theorem gH_c {p : Nat} {k f c sh : List Int} {t : Int} (h : gH p k f c sh t) {i : Nat} {v : Int} (h0 : 0 ≤ v) (h1 : v ≤ 35) : gH p k f (c.set i v) sh t := by
  obtain ⟨hp7, hk, hf, hc, hs, rk, rf, rc, ht0, ht1⟩ := h
  exact ⟨hp7, hk, hf, by rw [List.length_set]; exact hc, hs, rk, rf, rng_set rc h0 h1, ht0, ht1⟩
theorem set_back {l : List Int} {i : Nat} {v : Int} (h : i < l.length) : (l.set i v).set i (l.getD i 0) = l := by rw [List.set_set, set_self h]
section AMD
variable {A0 A1 A2 A3 A4 A5 : List (Option aE)} {re k f c n kp l tp le la td kt sh so had gr fi se to : List Int} {p g : Nat} {t d tl at_ sn him ik cu ou st rm : Int} {N : Nat}
theorem c_findShares (hb : gH p k f c sh t) : aEv mX8_findShares 5 0 0 N [.inr 192] [A0, A1, A2, A3, A4, A5, (modSeg re k f c n kp l tp le la td kt sh so had gr fi se to (p : Int) t d tl at_ sn him ik cu 0 st rm)] (fun rv h => rv = none ∧ ∃ sh2 : List Int, sh2.length = 7 ∧ (∀ q, q < p → sh2.getD q 0 = shr p k f c t q) ∧ h = [A0, A1, A2, A3, A4, A5, (modSeg re k f c n kp l tp le la td kt sh2 so had gr fi se to (p : Int) t d tl at_ sn him ik cu 0 st rm)]) := by
  have hp7 := hb.1
  refine aEv_mono (c_findSharesG (g := 7) hb (by omega)) ?_
  rintro v h2 ⟨e1, sh2, e2, e3, e4⟩
  exact ⟨e1, sh2, e2, fun q hq => by rw [e3 q hq, shG_7 hp7 k f c t hq], e4⟩
theorem c_mNet0 (hp7 : p ≤ 7) (hl : l.length = 49) {i : Nat} (hi : i < 7) : aEx mX8_netOf 2 N [.inr 192, .inl (i : Int)] [A0, A1, A2, A3, A4, A5, (modSeg re k f c n kp l tp le la td kt sh so had gr fi se to (p : Int) t d tl at_ sn him ik cu 0 st rm)] (some (.inl (net p l i))) [A0, A1, A2, A3, A4, A5, (modSeg re k f c n kp l tp le la td kt sh so had gr fi se to (p : Int) t d tl at_ sn him ik cu 0 st rm)] := by
  rw [← netG_7 hp7 l i]
  exact c_mNet (g := 7) hp7 (by omega) hl hi
theorem c_hasNow0 (hp7 : p ≤ 7) (hl : l.length = 49) (hsh : sh.length = 7) {i : Nat} (hi : i < 7) : aEx mX8_hasNow 3 N [.inr 192, .inl (i : Int)] [A0, A1, A2, A3, A4, A5, (modSeg re k f c n kp l tp le la td kt sh so had gr fi se to (p : Int) t d tl at_ sn him ik cu 0 st rm)] (some (.inl (sh.getD i 0 - net p l i))) [A0, A1, A2, A3, A4, A5, (modSeg re k f c n kp l tp le la td kt sh so had gr fi se to (p : Int) t d tl at_ sn him ik cu 0 st rm)] := by
  rw [← netG_7 hp7 l i]
  exact c_hasNow (g := 7) hp7 (by omega) hl hsh hi
theorem c_mWeight0 (hp7 : p ≤ 7) (hk : k.length = 7) (hf : f.length = 7) (hc : c.length = 7) (rk : rng k 5) (rf : rng f 9) (rc : rng c 35) {i : Nat} (hi : i < 7) : aEx mX8_weightOf 3 N [.inr 192, .inl (i : Int)] [A0, A1, A2, A3, A4, A5, (modSeg re k f c n kp l tp le la td kt sh so had gr fi se to (p : Int) t d tl at_ sn him ik cu 0 st rm)] (some (.inl (wt p k f c i))) [A0, A1, A2, A3, A4, A5, (modSeg re k f c n kp l tp le la td kt sh so had gr fi se to (p : Int) t d tl at_ sn him ik cu 0 st rm)] := by
  rw [← wG_7 hp7 k f c i]
  exact c_weightOf (g := 7) hp7 (by omega) hk hf hc rk rf rc hi
theorem c_mAllW0 (hp7 : p ≤ 7) (hk : k.length = 7) (hf : f.length = 7) (hc : c.length = 7) (rk : rng k 5) (rf : rng f 9) (rc : rng c 35) : aEx mX8_allWeights 4 N [.inr 192] [A0, A1, A2, A3, A4, A5, (modSeg re k f c n kp l tp le la td kt sh so had gr fi se to (p : Int) t d tl at_ sn him ik cu 0 st rm)] (some (.inl (wAll p k f c))) [A0, A1, A2, A3, A4, A5, (modSeg re k f c n kp l tp le la td kt sh so had gr fi se to (p : Int) t d tl at_ sn him ik cu 0 st rm)] := by
  rw [show wAll p k f c = sumN p (wZ p k f c 7) from (sumN_congr fun i hi => wZ_7 hp7 k f c hi).symm]
  exact c_allWeights (g := 7) hp7 (by omega) hk hf hc rk rf rc
set_option maxRecDepth 100000 in
set_option maxHeartbeats 4000000 in
theorem c_noShorts (hso : so.length = 7) : aEv mX8_noShorts 0 0 0 N [.inr 192] [A0, A1, A2, A3, A4, A5, (modSeg re k f c n kp l tp le la td kt sh so had gr fi se to (p : Int) t d tl at_ sn him ik cu ou st rm)] ((aQx (none) [A0, A1, A2, A3, A4, A5, (modSeg re k f c n kp l tp le la td kt sh (zeL so 7) had gr fi se to (p : Int) t d tl at_ sn him ik cu ou st rm)])) := by
  refine aEv_of okX8_noShorts caX8_noShorts (Nat.le_of_ble_eq_true rfl) ?_
  have lp : ∀ (j v : Nat), v + j = 7 → AW mX8_noShorts 0 0 0 N none (aQx (none) [A0, A1, A2, A3, A4, A5, (modSeg re k f c n kp l tp le la td kt sh (zeL so 7) had gr fi se to (p : Int) t d tl at_ sn him ik cu ou st rm)]) (2, [some (.inr 192), some (.inl (v : Int))], [], [A0, A1, A2, A3, A4, A5, (modSeg re k f c n kp l tp le la td kt sh (zeL so v) had gr fi se to (p : Int) t d tl at_ sn him ik cu ou st rm)]) := by
    intro j
    induction j with
    | zero =>
      intro v  hij 
      obtain rfl : 7 = v := by omega
      refine aGo okX8_noShorts 2 (f' := (5, [some (.inr 192), some (.inl (7 : Int))], [.inl 7, .inl (7 : Int)], _)) rfl ?_
      refine b_ge (tgt := 21) okX8_noShorts rfl rfl ⟨by omega, by omega⟩ ⟨by omega, by omega⟩ (fun h5 => ?_) (fun h5 => absurd h5 (by omega))
      exact b_ret (v := none) ⟨rfl, rfl⟩ ⟨rfl, rfl⟩ rfl
    | succ j ih =>
      intro v  hij 
      refine aGo okX8_noShorts 2 (f' := (5, [some (.inr 192), some (.inl (v : Int))], [.inl 7, .inl (v : Int)], _)) rfl ?_
      refine b_ge (tgt := 21) okX8_noShorts rfl rfl ⟨by omega, by omega⟩ ⟨by omega, by omega⟩ (fun h5 => absurd h5 (by omega)) (fun h5 => ?_)
      refine aGo okX8_noShorts 4 (f' := (14, [some (.inr 192), some (.inl (v : Int))], [.inl 0, .inl (v : Int), .inr 206], _)) rfl ?_
      refine b_ast (k := 206) (j := v) (a := (zeL so v)) okX8_noShorts rfl rfl (by omega) (by rw [zeL_len]; omega) (by omega) ?_
      refine b_cast (f' := (15, [some (.inr 192), some (.inl (v : Int))], [], [A0, A1, A2, A3, A4, A5, (modSeg re k f c n kp l tp le la td kt sh ((zeL so v).set v 0) had gr fi se to (p : Int) t d tl at_ sn him ik cu ou st rm)])) rfl ?_
      refine aGo okX8_noShorts 2 (f' := (2, [some (.inr 192), some (.inl ((v : Int) + 1))], [], _)) rfl ?_
      exact ih (v + 1) (by omega)
  refine aGo okX8_noShorts 2 (f' := (2, [some (.inr 192), some (.inl 0)], [], _)) rfl ?_
  exact lp 7 0 (by omega)
set_option maxRecDepth 100000 in
set_option maxHeartbeats 4000000 in
theorem c_goesDay (hb : bOK p k f c n kp l t d) (hsh : sh.length = 7) (hso : so.length = 7) : aEv mX8_goesDay 6 0 0 N [.inr 192, .inl (-9), .inl (-9)] [A0, A1, A2, A3, A4, A5, (modSeg re k f c n kp l tp le la td kt sh so had gr fi se to (p : Int) t d tl at_ sn him ik cu 0 st rm)] ((fun rv h => rv = none ∧ ∃ sh2 : List Int, sh2.length = 7 ∧ h = [A0, A1, A2, A3, A4, A5, (modSeg re k f c n (dayL p kp (hasM p k f c l t) n) l tp le la td kt sh2 (soL (fun q => decide (dayV kp (hasM p k f c l t) n q < 0)) so p) had gr fi se to (p : Int) t (d + 1) tl at_ sn him ik cu 0 (cntN p (fun q => decide (dayV kp (hasM p k f c l t) n q < 0))) rm)])) := by
  obtain ⟨hp7, hk, hf, hc, hn, hkp, hl, rk, rf, rc, rn, rkp, rl, ht0, ht1, hd0, hd1⟩ := id hb
  have hV : ∀ v, v < p → -30000 ≤ dayV kp (hasM p k f c l t) n v ∧ dayV kp (hasM p k f c l t) n v ≤ 30000 := fun v hv => by have := hasM_le (k := k) (l := l) hp7 rf rc rl ⟨ht0, ht1⟩ hv; have := rkp v; have := rn v; unfold dayV; omega
  refine aEv_of okX8_goesDay caX8_goesDay (Nat.le_of_ble_eq_true rfl) ?_
  refine aGo okX8_goesDay 7 (f' := (11, [some (.inr 192), some (.inl (-9)), some (.inl (-9)), none, none, none, none], [.inl (-9)], [A0, A1, A2, A3, A4, A5, (modSeg re k f c n kp l tp le la td kt sh so had gr fi se to (p : Int) t (d + 1) tl at_ sn him ik cu 0 st rm)])) rfl ?_
  refine b0_lt (tgt := 29) okX8_goesDay rfl rfl ⟨by omega, by omega⟩ (fun h11 => ?_) (fun h11 => absurd h11 (by omega))
  refine aGo okX8_goesDay 3 (f' := (32, [some (.inr 192), some (.inl (-9)), some (.inl (-9)), some (.inl 0), none, none, none], [.inl 0], _)) rfl ?_
  refine b0_eq (tgt := 44) okX8_goesDay rfl rfl ⟨by omega, by omega⟩ (fun h32 => ?_) (fun h32 => absurd h32 (by omega))
  refine aGo okX8_goesDay 3 (f' := (48, [some (.inr 192), some (.inl (-9)), some (.inl (-9)), some (.inl 0), some (.inl 0), none, none], [.inl 0], _)) rfl ?_
  refine b0_eq (tgt := 63) okX8_goesDay rfl rfl ⟨by omega, by omega⟩ (fun h48 => ?_) (fun h48 => absurd h48 (by omega))
  refine aGo okX8_goesDay 1 (f' := (64, [some (.inr 192), some (.inl (-9)), some (.inl (-9)), some (.inl 0), some (.inl 0), none, none], [.inr 192], _)) rfl ?_
  refine b_vE (as := []) (rest := []) (k := 192) okX8_goesDay rfl lkX8_202 caX8_findShares (Nat.le_of_ble_eq_true rfl) rfl (Nat.le_of_ble_eq_true rfl) rfl rfl rfl (c_findShares (gH_of hb (by omega))) ?_
  rintro _ _ ⟨rfl, sh2, q1, q2, rfl⟩
  refine aGo okX8_goesDay 1 (f' := (68, [some (.inr 192), some (.inl (-9)), some (.inl (-9)), some (.inl 0), some (.inl 0), none, none], [.inl 0], _)) rfl ?_
  refine b0_eq (tgt := 79) okX8_goesDay rfl rfl ⟨by omega, by omega⟩ (fun h68 => ?_) (fun h68 => absurd h68 (by omega))
  refine aGo okX8_goesDay 5 (f' := (87, [some (.inr 192), some (.inl (-9)), some (.inl (-9)), some (.inl 0), some (.inl 0), some (.inl 0), none], [], [A0, A1, A2, A3, A4, A5, (modSeg re k f c n kp l tp le la td kt sh2 so had gr fi se to (p : Int) t (d + 1) tl at_ sn him ik cu 0 0 rm)])) rfl ?_
  have lp : ∀ (j9 v : Nat), v + j9 = p → AW mX8_goesDay 6 0 0 N none (fun rv h => rv = none ∧ ∃ sh2 : List Int, sh2.length = 7 ∧ h = [A0, A1, A2, A3, A4, A5, (modSeg re k f c n (dayL p kp (hasM p k f c l t) n) l tp le la td kt sh2 (soL (fun q => decide (dayV kp (hasM p k f c l t) n q < 0)) so p) had gr fi se to (p : Int) t (d + 1) tl at_ sn him ik cu 0 (cntN p (fun q => decide (dayV kp (hasM p k f c l t) n q < 0))) rm)]) (87, [some (.inr 192), some (.inl (-9)), some (.inl (-9)), some (.inl 0), some (.inl 0), some (.inl (v : Int)), none], [], [A0, A1, A2, A3, A4, A5, (modSeg re k f c n (dayL v kp (hasM p k f c l t) n) l tp le la td kt sh2 (soL (fun q => decide (dayV kp (hasM p k f c l t) n q < 0)) so v) had gr fi se to (p : Int) t (d + 1) tl at_ sn him ik cu 0 (cntN v (fun q => decide (dayV kp (hasM p k f c l t) n q < 0))) rm)]) := by
    intro j9
    induction j9 with
    | zero =>
      intro v  hij 
      obtain rfl : p = v := by omega
      refine aGo okX8_goesDay 3 (f' := (93, [some (.inr 192), some (.inl (-9)), some (.inl (-9)), some (.inl 0), some (.inl 0), some (.inl (p : Int)), none], [.inl (p : Int), .inl (p : Int)], _)) rfl ?_
      refine b_ge (tgt := 197) okX8_goesDay rfl rfl ⟨by omega, by omega⟩ ⟨by omega, by omega⟩ (fun h93 => ?_) (fun h93 => absurd h93 (by omega))
      exact b_ret (v := none) ⟨rfl, rfl⟩ ⟨rfl, sh2, q1, rfl⟩ rfl
    | succ j9 ih =>
      intro v  hij 
      refine aGo okX8_goesDay 3 (f' := (93, [some (.inr 192), some (.inl (-9)), some (.inl (-9)), some (.inl 0), some (.inl 0), some (.inl (v : Int)), none], [.inl (p : Int), .inl (v : Int)], _)) rfl ?_
      refine b_ge (tgt := 197) okX8_goesDay rfl rfl ⟨by omega, by omega⟩ ⟨by omega, by omega⟩ (fun h93 => absurd h93 (by omega)) (fun h93 => ?_)
      refine aGo okX8_goesDay 3 (f' := (102, [some (.inr 192), some (.inl (-9)), some (.inl (-9)), some (.inl 0), some (.inl 0), some (.inl (v : Int)), none], [.inl (v : Int), .inr 198], _)) rfl ?_
      refine b_ald (k := 198) (j := v) (a := (dayL v kp (hasM p k f c l t) n)) okX8_goesDay rfl rfl (by omega) (by rw [dayL_len]; omega) (by omega) ?_
      refine aGo okX8_goesDay 2 (f' := (106, [some (.inr 192), some (.inl (-9)), some (.inl (-9)), some (.inl 0), some (.inl 0), some (.inl (v : Int)), none], [.inl (v : Int), .inr 192, .inl ((dayL v kp (hasM p k f c l t) n).getD v 0)], _)) rfl ?_
      refine b_vV (as := [.inl (v : Int)]) (rest := [.inl ((dayL v kp (hasM p k f c l t) n).getD v 0)]) (k := 192) (.inl ((sh2.getD v 0) - (net p l v))) okX8_goesDay rfl lkX8_208 caX8_hasNow (Nat.le_of_ble_eq_true rfl) rfl (Nat.le_of_ble_eq_true rfl) rfl rfl rfl (c_hasNow0 hp7 hl q1 (i := v) (by omega)) ?_
      refine aGo okX8_goesDay 4 (f' := (116, [some (.inr 192), some (.inl (-9)), some (.inl (-9)), some (.inl 0), some (.inl 0), some (.inl (v : Int)), none], [.inl (v : Int), .inr 197, .inl (((dayL v kp (hasM p k f c l t) n).getD v 0) + ((sh2.getD v 0) - (net p l v)))], _)) rfl ?_
      refine b_ald (k := 197) (j := v) (a := n) okX8_goesDay rfl rfl (by omega) (by omega) (by omega) ?_
      refine aGo okX8_goesDay 1 (f' := (118, [some (.inr 192), some (.inl (-9)), some (.inl (-9)), some (.inl 0), some (.inl 0), some (.inl (v : Int)), none], [.inl ((((dayL v kp (hasM p k f c l t) n).getD v 0) + ((sh2.getD v 0) - (net p l v))) - (n.getD v 0))], _)) rfl ?_
      refine b_cast (f' := (118, [some (.inr 192), some (.inl (-9)), some (.inl (-9)), some (.inl 0), some (.inl 0), some (.inl (v : Int)), none], [.inl (dayV kp (hasM p k f c l t) n v)], [A0, A1, A2, A3, A4, A5, (modSeg re k f c n (dayL v kp (hasM p k f c l t) n) l tp le la td kt sh2 (soL (fun q => decide (dayV kp (hasM p k f c l t) n q < 0)) so v) had gr fi se to (p : Int) t (d + 1) tl at_ sn him ik cu 0 (cntN v (fun q => decide (dayV kp (hasM p k f c l t) n q < 0))) rm)])) (by rw [dayL_at (Nat.le_refl v), q2 v (by omega)]; rfl) ?_
      have e5 := hV v (by omega)
      refine aGo okX8_goesDay 5 (f' := (127, [some (.inr 192), some (.inl (-9)), some (.inl (-9)), some (.inl 0), some (.inl 0), some (.inl (v : Int)), some (.inl (dayV kp (hasM p k f c l t) n v))], [.inl (v : Int), .inr 206, .inl (v : Int), .inr 206], _)) rfl ?_
      refine b_ald (k := 206) (j := v) (a := (soL (fun q => decide (dayV kp (hasM p k f c l t) n q < 0)) so v)) okX8_goesDay rfl rfl (by omega) (by rw [soL_len]; omega) (by omega) ?_
      refine aGo okX8_goesDay 1 (f' := (130, [some (.inr 192), some (.inl (-9)), some (.inl (-9)), some (.inl 0), some (.inl 0), some (.inl (v : Int)), some (.inl (dayV kp (hasM p k f c l t) n v))], [.inl (dayV kp (hasM p k f c l t) n v), .inl ((soL (fun q => decide (dayV kp (hasM p k f c l t) n q < 0)) so v).getD v 0), .inl (v : Int), .inr 206], _)) rfl ?_
      refine b0_ge (tgt := 137) okX8_goesDay rfl rfl ⟨by omega, by omega⟩ (fun h130 => ?_) (fun h130 => ?_)
      · refine aGo okX8_goesDay 2 (f' := (139, [some (.inr 192), some (.inl (-9)), some (.inl (-9)), some (.inl 0), some (.inl 0), some (.inl (v : Int)), some (.inl (dayV kp (hasM p k f c l t) n v))], [.inl (((soL (fun q => decide (dayV kp (hasM p k f c l t) n q < 0)) so v).getD v 0) + 0), .inl (v : Int), .inr 206], _)) rfl ?_
        refine b_ast (k := 206) (j := v) (a := (soL (fun q => decide (dayV kp (hasM p k f c l t) n q < 0)) so v)) okX8_goesDay rfl rfl (by omega) (by rw [soL_len]; omega) (by omega) ?_
        refine b_cast (f' := (140, [some (.inr 192), some (.inl (-9)), some (.inl (-9)), some (.inl 0), some (.inl 0), some (.inl (v : Int)), some (.inl (dayV kp (hasM p k f c l t) n v))], [], [A0, A1, A2, A3, A4, A5, (modSeg re k f c n (dayL v kp (hasM p k f c l t) n) l tp le la td kt sh2 ((soL (fun q => decide (dayV kp (hasM p k f c l t) n q < 0)) so v).set v (((soL (fun q => decide (dayV kp (hasM p k f c l t) n q < 0)) so v).getD v 0) + 0)) had gr fi se to (p : Int) t (d + 1) tl at_ sn him ik cu 0 (cntN v (fun q => decide (dayV kp (hasM p k f c l t) n q < 0))) rm)])) rfl ?_
        refine aGo okX8_goesDay 4 (f' := (147, [some (.inr 192), some (.inl (-9)), some (.inl (-9)), some (.inl 0), some (.inl 0), some (.inl (v : Int)), some (.inl (dayV kp (hasM p k f c l t) n v))], [.inl (dayV kp (hasM p k f c l t) n v), .inl (cntN v (fun q => decide (dayV kp (hasM p k f c l t) n q < 0))), .inr 192], _)) rfl ?_
        refine b0_ge (tgt := 154) okX8_goesDay rfl rfl ⟨by omega, by omega⟩ (fun h147 => ?_) (fun h147 => absurd h147 (by omega))
        refine aGo okX8_goesDay 7 (f' := (167, [some (.inr 192), some (.inl (-9)), some (.inl (-9)), some (.inl 0), some (.inl 0), some (.inl (v : Int)), some (.inl (dayV kp (hasM p k f c l t) n v))], [.inl (dayV kp (hasM p k f c l t) n v), .inl (v : Int), .inr 198], [A0, A1, A2, A3, A4, A5, (modSeg re k f c n (dayL v kp (hasM p k f c l t) n) l tp le la td kt sh2 ((soL (fun q => decide (dayV kp (hasM p k f c l t) n q < 0)) so v).set v (((soL (fun q => decide (dayV kp (hasM p k f c l t) n q < 0)) so v).getD v 0) + 0)) had gr fi se to (p : Int) t (d + 1) tl at_ sn him ik cu 0 ((cntN v (fun q => decide (dayV kp (hasM p k f c l t) n q < 0))) + 0) rm)])) rfl ?_
        refine b0_ge (tgt := 174) okX8_goesDay rfl rfl ⟨by omega, by omega⟩ (fun h167 => ?_) (fun h167 => absurd h167 (by omega))
        refine aGo okX8_goesDay 2 (f' := (179, [some (.inr 192), some (.inl (-9)), some (.inl (-9)), some (.inl 0), some (.inl 0), some (.inl (v : Int)), some (.inl (dayV kp (hasM p k f c l t) n v))], [.inl 9999, .inl (dayV kp (hasM p k f c l t) n v), .inl (v : Int), .inr 198], _)) rfl ?_
        refine b_le (tgt := 188) okX8_goesDay rfl rfl ⟨by omega, by omega⟩ ⟨by omega, by omega⟩ (fun h179 => ?_) (fun h179 => ?_)
        · refine aGo okX8_goesDay 1 (f' := (190, [some (.inr 192), some (.inl (-9)), some (.inl (-9)), some (.inl 0), some (.inl 0), some (.inl (v : Int)), some (.inl (dayV kp (hasM p k f c l t) n v))], [.inl (dayV kp (hasM p k f c l t) n v), .inl (v : Int), .inr 198], _)) rfl ?_
          refine b_ast (k := 198) (j := v) (a := (dayL v kp (hasM p k f c l t) n)) okX8_goesDay rfl rfl (by omega) (by rw [dayL_len]; omega) (by omega) ?_
          refine b_cast (f' := (191, [some (.inr 192), some (.inl (-9)), some (.inl (-9)), some (.inl 0), some (.inl 0), some (.inl (v : Int)), some (.inl (dayV kp (hasM p k f c l t) n v))], [], [A0, A1, A2, A3, A4, A5, (modSeg re k f c n ((dayL v kp (hasM p k f c l t) n).set v (dayV kp (hasM p k f c l t) n v)) l tp le la td kt sh2 ((soL (fun q => decide (dayV kp (hasM p k f c l t) n q < 0)) so v).set v (((soL (fun q => decide (dayV kp (hasM p k f c l t) n q < 0)) so v).getD v 0) + 0)) had gr fi se to (p : Int) t (d + 1) tl at_ sn him ik cu 0 ((cntN v (fun q => decide (dayV kp (hasM p k f c l t) n q < 0))) + 0) rm)])) rfl ?_
          refine aGo okX8_goesDay 2 (f' := (87, [some (.inr 192), some (.inl (-9)), some (.inl (-9)), some (.inl 0), some (.inl 0), some (.inl ((v : Int) + 1)), some (.inl (dayV kp (hasM p k f c l t) n v))], [], _)) rfl ?_
          have e8 : dayL (v + 1) kp (hasM p k f c l t) n = (dayL v kp (hasM p k f c l t) n).set v (dayV kp (hasM p k f c l t) n v) := congrArg (fun z : Int => (dayL v kp (hasM p k f c l t) n).set v z) (by omega)
          refine b_cast (f' := (87, [some (.inr 192), some (.inl (-9)), some (.inl (-9)), some (.inl 0), some (.inl 0), some (.inl ((v : Int) + 1)), some (.inl (dayV kp (hasM p k f c l t) n v))], [], [A0, A1, A2, A3, A4, A5, (modSeg re k f c n (dayL (v + 1) kp (hasM p k f c l t) n) l tp le la td kt sh2 (soL (fun q => decide (dayV kp (hasM p k f c l t) n q < 0)) so (v + 1)) had gr fi se to (p : Int) t (d + 1) tl at_ sn him ik cu 0 (cntN (v + 1) (fun q => decide (dayV kp (hasM p k f c l t) n q < 0))) rm)])) (by rw [e8, soL_f (P := (fun q => decide (dayV kp (hasM p k f c l t) n q < 0))) (decide_eq_false (by omega)), cntN_f (P := (fun q => decide (dayV kp (hasM p k f c l t) n q < 0))) (decide_eq_false (by omega))]) ?_
          refine b_lose (ls' := [some (.inr 192), some (.inl (-9)), some (.inl (-9)), some (.inl 0), some (.inl 0), some (.inl ((v : Int) + 1)), none]) (lose6of7 _ _ _ _ _ _ _) ?_
          exact ih (v + 1) (by omega)
        · refine aGo okX8_goesDay 2 (f' := (190, [some (.inr 192), some (.inl (-9)), some (.inl (-9)), some (.inl 0), some (.inl 0), some (.inl (v : Int)), some (.inl (dayV kp (hasM p k f c l t) n v))], [.inl 9999, .inl (v : Int), .inr 198], _)) rfl ?_
          refine b_ast (k := 198) (j := v) (a := (dayL v kp (hasM p k f c l t) n)) okX8_goesDay rfl rfl (by omega) (by rw [dayL_len]; omega) (by omega) ?_
          refine b_cast (f' := (191, [some (.inr 192), some (.inl (-9)), some (.inl (-9)), some (.inl 0), some (.inl 0), some (.inl (v : Int)), some (.inl (dayV kp (hasM p k f c l t) n v))], [], [A0, A1, A2, A3, A4, A5, (modSeg re k f c n ((dayL v kp (hasM p k f c l t) n).set v 9999) l tp le la td kt sh2 ((soL (fun q => decide (dayV kp (hasM p k f c l t) n q < 0)) so v).set v (((soL (fun q => decide (dayV kp (hasM p k f c l t) n q < 0)) so v).getD v 0) + 0)) had gr fi se to (p : Int) t (d + 1) tl at_ sn him ik cu 0 ((cntN v (fun q => decide (dayV kp (hasM p k f c l t) n q < 0))) + 0) rm)])) rfl ?_
          refine aGo okX8_goesDay 2 (f' := (87, [some (.inr 192), some (.inl (-9)), some (.inl (-9)), some (.inl 0), some (.inl 0), some (.inl ((v : Int) + 1)), some (.inl (dayV kp (hasM p k f c l t) n v))], [], _)) rfl ?_
          have e8 : dayL (v + 1) kp (hasM p k f c l t) n = (dayL v kp (hasM p k f c l t) n).set v 9999 := congrArg (fun z : Int => (dayL v kp (hasM p k f c l t) n).set v z) (by omega)
          refine b_cast (f' := (87, [some (.inr 192), some (.inl (-9)), some (.inl (-9)), some (.inl 0), some (.inl 0), some (.inl ((v : Int) + 1)), some (.inl (dayV kp (hasM p k f c l t) n v))], [], [A0, A1, A2, A3, A4, A5, (modSeg re k f c n (dayL (v + 1) kp (hasM p k f c l t) n) l tp le la td kt sh2 (soL (fun q => decide (dayV kp (hasM p k f c l t) n q < 0)) so (v + 1)) had gr fi se to (p : Int) t (d + 1) tl at_ sn him ik cu 0 (cntN (v + 1) (fun q => decide (dayV kp (hasM p k f c l t) n q < 0))) rm)])) (by rw [e8, soL_f (P := (fun q => decide (dayV kp (hasM p k f c l t) n q < 0))) (decide_eq_false (by omega)), cntN_f (P := (fun q => decide (dayV kp (hasM p k f c l t) n q < 0))) (decide_eq_false (by omega))]) ?_
          refine b_lose (ls' := [some (.inr 192), some (.inl (-9)), some (.inl (-9)), some (.inl 0), some (.inl 0), some (.inl ((v : Int) + 1)), none]) (lose6of7 _ _ _ _ _ _ _) ?_
          exact ih (v + 1) (by omega)
      · refine aGo okX8_goesDay 3 (f' := (139, [some (.inr 192), some (.inl (-9)), some (.inl (-9)), some (.inl 0), some (.inl 0), some (.inl (v : Int)), some (.inl (dayV kp (hasM p k f c l t) n v))], [.inl (((soL (fun q => decide (dayV kp (hasM p k f c l t) n q < 0)) so v).getD v 0) + 1), .inl (v : Int), .inr 206], _)) rfl ?_
        refine b_ast (k := 206) (j := v) (a := (soL (fun q => decide (dayV kp (hasM p k f c l t) n q < 0)) so v)) okX8_goesDay rfl rfl (by omega) (by rw [soL_len]; omega) (by omega) ?_
        refine b_cast (f' := (140, [some (.inr 192), some (.inl (-9)), some (.inl (-9)), some (.inl 0), some (.inl 0), some (.inl (v : Int)), some (.inl (dayV kp (hasM p k f c l t) n v))], [], [A0, A1, A2, A3, A4, A5, (modSeg re k f c n (dayL v kp (hasM p k f c l t) n) l tp le la td kt sh2 ((soL (fun q => decide (dayV kp (hasM p k f c l t) n q < 0)) so v).set v (((soL (fun q => decide (dayV kp (hasM p k f c l t) n q < 0)) so v).getD v 0) + 1)) had gr fi se to (p : Int) t (d + 1) tl at_ sn him ik cu 0 (cntN v (fun q => decide (dayV kp (hasM p k f c l t) n q < 0))) rm)])) rfl ?_
        refine aGo okX8_goesDay 4 (f' := (147, [some (.inr 192), some (.inl (-9)), some (.inl (-9)), some (.inl 0), some (.inl 0), some (.inl (v : Int)), some (.inl (dayV kp (hasM p k f c l t) n v))], [.inl (dayV kp (hasM p k f c l t) n v), .inl (cntN v (fun q => decide (dayV kp (hasM p k f c l t) n q < 0))), .inr 192], _)) rfl ?_
        refine b0_ge (tgt := 154) okX8_goesDay rfl rfl ⟨by omega, by omega⟩ (fun h147 => absurd h147 (by omega)) (fun h147 => ?_)
        refine aGo okX8_goesDay 8 (f' := (167, [some (.inr 192), some (.inl (-9)), some (.inl (-9)), some (.inl 0), some (.inl 0), some (.inl (v : Int)), some (.inl (dayV kp (hasM p k f c l t) n v))], [.inl (dayV kp (hasM p k f c l t) n v), .inl (v : Int), .inr 198], [A0, A1, A2, A3, A4, A5, (modSeg re k f c n (dayL v kp (hasM p k f c l t) n) l tp le la td kt sh2 ((soL (fun q => decide (dayV kp (hasM p k f c l t) n q < 0)) so v).set v (((soL (fun q => decide (dayV kp (hasM p k f c l t) n q < 0)) so v).getD v 0) + 1)) had gr fi se to (p : Int) t (d + 1) tl at_ sn him ik cu 0 ((cntN v (fun q => decide (dayV kp (hasM p k f c l t) n q < 0))) + 1) rm)])) rfl ?_
        refine b0_ge (tgt := 174) okX8_goesDay rfl rfl ⟨by omega, by omega⟩ (fun h167 => absurd h167 (by omega)) (fun h167 => ?_)
        refine aGo okX8_goesDay 2 (f' := (190, [some (.inr 192), some (.inl (-9)), some (.inl (-9)), some (.inl 0), some (.inl 0), some (.inl (v : Int)), some (.inl (dayV kp (hasM p k f c l t) n v))], [.inl 0, .inl (v : Int), .inr 198], _)) rfl ?_
        refine b_ast (k := 198) (j := v) (a := (dayL v kp (hasM p k f c l t) n)) okX8_goesDay rfl rfl (by omega) (by rw [dayL_len]; omega) (by omega) ?_
        refine b_cast (f' := (191, [some (.inr 192), some (.inl (-9)), some (.inl (-9)), some (.inl 0), some (.inl 0), some (.inl (v : Int)), some (.inl (dayV kp (hasM p k f c l t) n v))], [], [A0, A1, A2, A3, A4, A5, (modSeg re k f c n ((dayL v kp (hasM p k f c l t) n).set v 0) l tp le la td kt sh2 ((soL (fun q => decide (dayV kp (hasM p k f c l t) n q < 0)) so v).set v (((soL (fun q => decide (dayV kp (hasM p k f c l t) n q < 0)) so v).getD v 0) + 1)) had gr fi se to (p : Int) t (d + 1) tl at_ sn him ik cu 0 ((cntN v (fun q => decide (dayV kp (hasM p k f c l t) n q < 0))) + 1) rm)])) rfl ?_
        refine aGo okX8_goesDay 2 (f' := (87, [some (.inr 192), some (.inl (-9)), some (.inl (-9)), some (.inl 0), some (.inl 0), some (.inl ((v : Int) + 1)), some (.inl (dayV kp (hasM p k f c l t) n v))], [], _)) rfl ?_
        have e8 : dayL (v + 1) kp (hasM p k f c l t) n = (dayL v kp (hasM p k f c l t) n).set v 0 := congrArg (fun z : Int => (dayL v kp (hasM p k f c l t) n).set v z) (by omega)
        refine b_cast (f' := (87, [some (.inr 192), some (.inl (-9)), some (.inl (-9)), some (.inl 0), some (.inl 0), some (.inl ((v : Int) + 1)), some (.inl (dayV kp (hasM p k f c l t) n v))], [], [A0, A1, A2, A3, A4, A5, (modSeg re k f c n (dayL (v + 1) kp (hasM p k f c l t) n) l tp le la td kt sh2 (soL (fun q => decide (dayV kp (hasM p k f c l t) n q < 0)) so (v + 1)) had gr fi se to (p : Int) t (d + 1) tl at_ sn him ik cu 0 (cntN (v + 1) (fun q => decide (dayV kp (hasM p k f c l t) n q < 0))) rm)])) (by rw [e8, soL_t (P := (fun q => decide (dayV kp (hasM p k f c l t) n q < 0))) (decide_eq_true (by omega)), cntN_t (P := (fun q => decide (dayV kp (hasM p k f c l t) n q < 0))) (decide_eq_true (by omega))]) ?_
        refine b_lose (ls' := [some (.inr 192), some (.inl (-9)), some (.inl (-9)), some (.inl 0), some (.inl 0), some (.inl ((v : Int) + 1)), none]) (lose6of7 _ _ _ _ _ _ _) ?_
        exact ih (v + 1) (by omega)
  exact lp p 0 (by omega)
set_option maxRecDepth 100000 in
set_option maxHeartbeats 4000000 in
theorem c_goesDayV (hb : bOK p k f c n kp l t d) (hsh : sh.length = 7) (hso : so.length = 7) {i j : Nat} (hi : i < 7) (hj : j < 7) : aEv mX8_goesDay 6 0 0 N [.inr 192, .inl (i : Int), .inl (j : Int)] [A0, A1, A2, A3, A4, A5, (modSeg re k f c n kp l tp le la td kt sh so had gr fi se to (p : Int) t d tl at_ sn him ik cu 0 st rm)] ((fun rv h => rv = none ∧ ∃ sh2 : List Int, sh2.length = 7 ∧ h = [A0, A1, A2, A3, A4, A5, (modSeg re k f c n (dayL p kp (fun q => shr p k f (c.set j (visD c d i j)) t q - net p l q) n) l tp le la td kt sh2 (soL (fun q => decide (dayV kp (fun q => shr p k f (c.set j (visD c d i j)) t q - net p l q) n q < 0)) so p) had gr fi se to (p : Int) t (d + 1) tl at_ sn him ik cu 0 (cntN p (fun q => decide (dayV kp (fun q => shr p k f (c.set j (visD c d i j)) t q - net p l q) n q < 0))) rm)])) := by
  obtain ⟨hp7, hk, hf, hc, hn, hkp, hl, rk, rf, rc, rn, rkp, rl, ht0, ht1, hd0, hd1⟩ := id hb
  have hvd := visD_le rc d i j
  have hV : ∀ v, v < p → -30000 ≤ dayV kp (fun q => shr p k f (c.set j (visD c d i j)) t q - net p l q) n v ∧ dayV kp (fun q => shr p k f (c.set j (visD c d i j)) t q - net p l q) n v ≤ 30000 := fun v hv => by have := shr_le (k := k) (f := f) (c := c.set j (visD c d i j)) hp7 rf (rng_set rc hvd.1 hvd.2) ⟨ht0, ht1⟩ hv; have := net_le hp7 rl v; have := rkp v; have := rn v; unfold dayV; simp only; omega
  refine aEv_of okX8_goesDay caX8_goesDay (Nat.le_of_ble_eq_true rfl) ?_
  have rci := rc i
  have rcj := rc j
  refine aGo okX8_goesDay 7 (f' := (11, [some (.inr 192), some (.inl (i : Int)), some (.inl (j : Int)), none, none, none, none], [.inl (i : Int)], [A0, A1, A2, A3, A4, A5, (modSeg re k f c n kp l tp le la td kt sh so had gr fi se to (p : Int) t (d + 1) tl at_ sn him ik cu 0 st rm)])) rfl ?_
  refine b0_lt (tgt := 29) okX8_goesDay rfl rfl ⟨by omega, by omega⟩ (fun h11 => ?_) (fun h11 => ?_)
  · refine aGo okX8_goesDay 3 (f' := (32, [some (.inr 192), some (.inl (i : Int)), some (.inl (j : Int)), some (.inl 0), none, none, none], [.inl 0], _)) rfl ?_
    refine b0_eq (tgt := 44) okX8_goesDay rfl rfl ⟨by omega, by omega⟩ (fun h32 => ?_) (fun h32 => absurd h32 (by omega))
    refine aGo okX8_goesDay 3 (f' := (48, [some (.inr 192), some (.inl (i : Int)), some (.inl (j : Int)), some (.inl 0), some (.inl 0), none, none], [.inl 0], _)) rfl ?_
    refine b0_eq (tgt := 63) okX8_goesDay rfl rfl ⟨by omega, by omega⟩ (fun h48 => ?_) (fun h48 => absurd h48 (by omega))
    refine aGo okX8_goesDay 1 (f' := (64, [some (.inr 192), some (.inl (i : Int)), some (.inl (j : Int)), some (.inl 0), some (.inl 0), none, none], [.inr 192], _)) rfl ?_
    refine b_vE (as := []) (rest := []) (k := 192) okX8_goesDay rfl lkX8_202 caX8_findShares (Nat.le_of_ble_eq_true rfl) rfl (Nat.le_of_ble_eq_true rfl) rfl rfl rfl (c_findShares (gH_of hb (by omega))) ?_
    rintro _ _ ⟨rfl, sh2, q1, q2, rfl⟩
    refine aGo okX8_goesDay 1 (f' := (68, [some (.inr 192), some (.inl (i : Int)), some (.inl (j : Int)), some (.inl 0), some (.inl 0), none, none], [.inl 0], _)) rfl ?_
    refine b0_eq (tgt := 79) okX8_goesDay rfl rfl ⟨by omega, by omega⟩ (fun h68 => ?_) (fun h68 => absurd h68 (by omega))
    refine aGo okX8_goesDay 5 (f' := (87, [some (.inr 192), some (.inl (i : Int)), some (.inl (j : Int)), some (.inl 0), some (.inl 0), some (.inl 0), none], [], [A0, A1, A2, A3, A4, A5, (modSeg re k f c n kp l tp le la td kt sh2 so had gr fi se to (p : Int) t (d + 1) tl at_ sn him ik cu 0 0 rm)])) rfl ?_
    have e7 : visD c d i j = c.getD j 0 := if_neg (by omega)
    have q3 : ∀ q, q < p → sh2.getD q 0 = shr p k f (c.set j (visD c d i j)) t q := by rw [e7, set_self (by omega)]; exact q2
    clear q2
    have q2 := q3
    have lp : ∀ (j9 v : Nat), v + j9 = p → AW mX8_goesDay 6 0 0 N none (fun rv h => rv = none ∧ ∃ sh2 : List Int, sh2.length = 7 ∧ h = [A0, A1, A2, A3, A4, A5, (modSeg re k f c n (dayL p kp (fun q => shr p k f (c.set j (visD c d i j)) t q - net p l q) n) l tp le la td kt sh2 (soL (fun q => decide (dayV kp (fun q => shr p k f (c.set j (visD c d i j)) t q - net p l q) n q < 0)) so p) had gr fi se to (p : Int) t (d + 1) tl at_ sn him ik cu 0 (cntN p (fun q => decide (dayV kp (fun q => shr p k f (c.set j (visD c d i j)) t q - net p l q) n q < 0))) rm)]) (87, [some (.inr 192), some (.inl (i : Int)), some (.inl (j : Int)), some (.inl 0), some (.inl 0), some (.inl (v : Int)), none], [], [A0, A1, A2, A3, A4, A5, (modSeg re k f c n (dayL v kp (fun q => shr p k f (c.set j (visD c d i j)) t q - net p l q) n) l tp le la td kt sh2 (soL (fun q => decide (dayV kp (fun q => shr p k f (c.set j (visD c d i j)) t q - net p l q) n q < 0)) so v) had gr fi se to (p : Int) t (d + 1) tl at_ sn him ik cu 0 (cntN v (fun q => decide (dayV kp (fun q => shr p k f (c.set j (visD c d i j)) t q - net p l q) n q < 0))) rm)]) := by
      intro j9
      induction j9 with
      | zero =>
        intro v  hij 
        obtain rfl : p = v := by omega
        refine aGo okX8_goesDay 3 (f' := (93, [some (.inr 192), some (.inl (i : Int)), some (.inl (j : Int)), some (.inl 0), some (.inl 0), some (.inl (p : Int)), none], [.inl (p : Int), .inl (p : Int)], _)) rfl ?_
        refine b_ge (tgt := 197) okX8_goesDay rfl rfl ⟨by omega, by omega⟩ ⟨by omega, by omega⟩ (fun h93 => ?_) (fun h93 => absurd h93 (by omega))
        exact b_ret (v := none) ⟨rfl, rfl⟩ ⟨rfl, sh2, q1, rfl⟩ rfl
      | succ j9 ih =>
        intro v  hij 
        refine aGo okX8_goesDay 3 (f' := (93, [some (.inr 192), some (.inl (i : Int)), some (.inl (j : Int)), some (.inl 0), some (.inl 0), some (.inl (v : Int)), none], [.inl (p : Int), .inl (v : Int)], _)) rfl ?_
        refine b_ge (tgt := 197) okX8_goesDay rfl rfl ⟨by omega, by omega⟩ ⟨by omega, by omega⟩ (fun h93 => absurd h93 (by omega)) (fun h93 => ?_)
        refine aGo okX8_goesDay 3 (f' := (102, [some (.inr 192), some (.inl (i : Int)), some (.inl (j : Int)), some (.inl 0), some (.inl 0), some (.inl (v : Int)), none], [.inl (v : Int), .inr 198], _)) rfl ?_
        refine b_ald (k := 198) (j := v) (a := (dayL v kp (fun q => shr p k f (c.set j (visD c d i j)) t q - net p l q) n)) okX8_goesDay rfl rfl (by omega) (by rw [dayL_len]; omega) (by omega) ?_
        refine aGo okX8_goesDay 2 (f' := (106, [some (.inr 192), some (.inl (i : Int)), some (.inl (j : Int)), some (.inl 0), some (.inl 0), some (.inl (v : Int)), none], [.inl (v : Int), .inr 192, .inl ((dayL v kp (fun q => shr p k f (c.set j (visD c d i j)) t q - net p l q) n).getD v 0)], _)) rfl ?_
        refine b_vV (as := [.inl (v : Int)]) (rest := [.inl ((dayL v kp (fun q => shr p k f (c.set j (visD c d i j)) t q - net p l q) n).getD v 0)]) (k := 192) (.inl ((sh2.getD v 0) - (net p l v))) okX8_goesDay rfl lkX8_208 caX8_hasNow (Nat.le_of_ble_eq_true rfl) rfl (Nat.le_of_ble_eq_true rfl) rfl rfl rfl (c_hasNow0 hp7 hl q1 (i := v) (by omega)) ?_
        refine aGo okX8_goesDay 4 (f' := (116, [some (.inr 192), some (.inl (i : Int)), some (.inl (j : Int)), some (.inl 0), some (.inl 0), some (.inl (v : Int)), none], [.inl (v : Int), .inr 197, .inl (((dayL v kp (fun q => shr p k f (c.set j (visD c d i j)) t q - net p l q) n).getD v 0) + ((sh2.getD v 0) - (net p l v)))], _)) rfl ?_
        refine b_ald (k := 197) (j := v) (a := n) okX8_goesDay rfl rfl (by omega) (by omega) (by omega) ?_
        refine aGo okX8_goesDay 1 (f' := (118, [some (.inr 192), some (.inl (i : Int)), some (.inl (j : Int)), some (.inl 0), some (.inl 0), some (.inl (v : Int)), none], [.inl ((((dayL v kp (fun q => shr p k f (c.set j (visD c d i j)) t q - net p l q) n).getD v 0) + ((sh2.getD v 0) - (net p l v))) - (n.getD v 0))], _)) rfl ?_
        refine b_cast (f' := (118, [some (.inr 192), some (.inl (i : Int)), some (.inl (j : Int)), some (.inl 0), some (.inl 0), some (.inl (v : Int)), none], [.inl (dayV kp (fun q => shr p k f (c.set j (visD c d i j)) t q - net p l q) n v)], [A0, A1, A2, A3, A4, A5, (modSeg re k f c n (dayL v kp (fun q => shr p k f (c.set j (visD c d i j)) t q - net p l q) n) l tp le la td kt sh2 (soL (fun q => decide (dayV kp (fun q => shr p k f (c.set j (visD c d i j)) t q - net p l q) n q < 0)) so v) had gr fi se to (p : Int) t (d + 1) tl at_ sn him ik cu 0 (cntN v (fun q => decide (dayV kp (fun q => shr p k f (c.set j (visD c d i j)) t q - net p l q) n q < 0))) rm)])) (by rw [dayL_at (Nat.le_refl v), q2 v (by omega)]; rfl) ?_
        have e5 := hV v (by omega)
        refine aGo okX8_goesDay 5 (f' := (127, [some (.inr 192), some (.inl (i : Int)), some (.inl (j : Int)), some (.inl 0), some (.inl 0), some (.inl (v : Int)), some (.inl (dayV kp (fun q => shr p k f (c.set j (visD c d i j)) t q - net p l q) n v))], [.inl (v : Int), .inr 206, .inl (v : Int), .inr 206], _)) rfl ?_
        refine b_ald (k := 206) (j := v) (a := (soL (fun q => decide (dayV kp (fun q => shr p k f (c.set j (visD c d i j)) t q - net p l q) n q < 0)) so v)) okX8_goesDay rfl rfl (by omega) (by rw [soL_len]; omega) (by omega) ?_
        refine aGo okX8_goesDay 1 (f' := (130, [some (.inr 192), some (.inl (i : Int)), some (.inl (j : Int)), some (.inl 0), some (.inl 0), some (.inl (v : Int)), some (.inl (dayV kp (fun q => shr p k f (c.set j (visD c d i j)) t q - net p l q) n v))], [.inl (dayV kp (fun q => shr p k f (c.set j (visD c d i j)) t q - net p l q) n v), .inl ((soL (fun q => decide (dayV kp (fun q => shr p k f (c.set j (visD c d i j)) t q - net p l q) n q < 0)) so v).getD v 0), .inl (v : Int), .inr 206], _)) rfl ?_
        refine b0_ge (tgt := 137) okX8_goesDay rfl rfl ⟨by omega, by omega⟩ (fun h130 => ?_) (fun h130 => ?_)
        · refine aGo okX8_goesDay 2 (f' := (139, [some (.inr 192), some (.inl (i : Int)), some (.inl (j : Int)), some (.inl 0), some (.inl 0), some (.inl (v : Int)), some (.inl (dayV kp (fun q => shr p k f (c.set j (visD c d i j)) t q - net p l q) n v))], [.inl (((soL (fun q => decide (dayV kp (fun q => shr p k f (c.set j (visD c d i j)) t q - net p l q) n q < 0)) so v).getD v 0) + 0), .inl (v : Int), .inr 206], _)) rfl ?_
          refine b_ast (k := 206) (j := v) (a := (soL (fun q => decide (dayV kp (fun q => shr p k f (c.set j (visD c d i j)) t q - net p l q) n q < 0)) so v)) okX8_goesDay rfl rfl (by omega) (by rw [soL_len]; omega) (by omega) ?_
          refine b_cast (f' := (140, [some (.inr 192), some (.inl (i : Int)), some (.inl (j : Int)), some (.inl 0), some (.inl 0), some (.inl (v : Int)), some (.inl (dayV kp (fun q => shr p k f (c.set j (visD c d i j)) t q - net p l q) n v))], [], [A0, A1, A2, A3, A4, A5, (modSeg re k f c n (dayL v kp (fun q => shr p k f (c.set j (visD c d i j)) t q - net p l q) n) l tp le la td kt sh2 ((soL (fun q => decide (dayV kp (fun q => shr p k f (c.set j (visD c d i j)) t q - net p l q) n q < 0)) so v).set v (((soL (fun q => decide (dayV kp (fun q => shr p k f (c.set j (visD c d i j)) t q - net p l q) n q < 0)) so v).getD v 0) + 0)) had gr fi se to (p : Int) t (d + 1) tl at_ sn him ik cu 0 (cntN v (fun q => decide (dayV kp (fun q => shr p k f (c.set j (visD c d i j)) t q - net p l q) n q < 0))) rm)])) rfl ?_
          refine aGo okX8_goesDay 4 (f' := (147, [some (.inr 192), some (.inl (i : Int)), some (.inl (j : Int)), some (.inl 0), some (.inl 0), some (.inl (v : Int)), some (.inl (dayV kp (fun q => shr p k f (c.set j (visD c d i j)) t q - net p l q) n v))], [.inl (dayV kp (fun q => shr p k f (c.set j (visD c d i j)) t q - net p l q) n v), .inl (cntN v (fun q => decide (dayV kp (fun q => shr p k f (c.set j (visD c d i j)) t q - net p l q) n q < 0))), .inr 192], _)) rfl ?_
          refine b0_ge (tgt := 154) okX8_goesDay rfl rfl ⟨by omega, by omega⟩ (fun h147 => ?_) (fun h147 => absurd h147 (by omega))
          refine aGo okX8_goesDay 7 (f' := (167, [some (.inr 192), some (.inl (i : Int)), some (.inl (j : Int)), some (.inl 0), some (.inl 0), some (.inl (v : Int)), some (.inl (dayV kp (fun q => shr p k f (c.set j (visD c d i j)) t q - net p l q) n v))], [.inl (dayV kp (fun q => shr p k f (c.set j (visD c d i j)) t q - net p l q) n v), .inl (v : Int), .inr 198], [A0, A1, A2, A3, A4, A5, (modSeg re k f c n (dayL v kp (fun q => shr p k f (c.set j (visD c d i j)) t q - net p l q) n) l tp le la td kt sh2 ((soL (fun q => decide (dayV kp (fun q => shr p k f (c.set j (visD c d i j)) t q - net p l q) n q < 0)) so v).set v (((soL (fun q => decide (dayV kp (fun q => shr p k f (c.set j (visD c d i j)) t q - net p l q) n q < 0)) so v).getD v 0) + 0)) had gr fi se to (p : Int) t (d + 1) tl at_ sn him ik cu 0 ((cntN v (fun q => decide (dayV kp (fun q => shr p k f (c.set j (visD c d i j)) t q - net p l q) n q < 0))) + 0) rm)])) rfl ?_
          refine b0_ge (tgt := 174) okX8_goesDay rfl rfl ⟨by omega, by omega⟩ (fun h167 => ?_) (fun h167 => absurd h167 (by omega))
          refine aGo okX8_goesDay 2 (f' := (179, [some (.inr 192), some (.inl (i : Int)), some (.inl (j : Int)), some (.inl 0), some (.inl 0), some (.inl (v : Int)), some (.inl (dayV kp (fun q => shr p k f (c.set j (visD c d i j)) t q - net p l q) n v))], [.inl 9999, .inl (dayV kp (fun q => shr p k f (c.set j (visD c d i j)) t q - net p l q) n v), .inl (v : Int), .inr 198], _)) rfl ?_
          refine b_le (tgt := 188) okX8_goesDay rfl rfl ⟨by omega, by omega⟩ ⟨by omega, by omega⟩ (fun h179 => ?_) (fun h179 => ?_)
          · refine aGo okX8_goesDay 1 (f' := (190, [some (.inr 192), some (.inl (i : Int)), some (.inl (j : Int)), some (.inl 0), some (.inl 0), some (.inl (v : Int)), some (.inl (dayV kp (fun q => shr p k f (c.set j (visD c d i j)) t q - net p l q) n v))], [.inl (dayV kp (fun q => shr p k f (c.set j (visD c d i j)) t q - net p l q) n v), .inl (v : Int), .inr 198], _)) rfl ?_
            refine b_ast (k := 198) (j := v) (a := (dayL v kp (fun q => shr p k f (c.set j (visD c d i j)) t q - net p l q) n)) okX8_goesDay rfl rfl (by omega) (by rw [dayL_len]; omega) (by omega) ?_
            refine b_cast (f' := (191, [some (.inr 192), some (.inl (i : Int)), some (.inl (j : Int)), some (.inl 0), some (.inl 0), some (.inl (v : Int)), some (.inl (dayV kp (fun q => shr p k f (c.set j (visD c d i j)) t q - net p l q) n v))], [], [A0, A1, A2, A3, A4, A5, (modSeg re k f c n ((dayL v kp (fun q => shr p k f (c.set j (visD c d i j)) t q - net p l q) n).set v (dayV kp (fun q => shr p k f (c.set j (visD c d i j)) t q - net p l q) n v)) l tp le la td kt sh2 ((soL (fun q => decide (dayV kp (fun q => shr p k f (c.set j (visD c d i j)) t q - net p l q) n q < 0)) so v).set v (((soL (fun q => decide (dayV kp (fun q => shr p k f (c.set j (visD c d i j)) t q - net p l q) n q < 0)) so v).getD v 0) + 0)) had gr fi se to (p : Int) t (d + 1) tl at_ sn him ik cu 0 ((cntN v (fun q => decide (dayV kp (fun q => shr p k f (c.set j (visD c d i j)) t q - net p l q) n q < 0))) + 0) rm)])) rfl ?_
            refine aGo okX8_goesDay 2 (f' := (87, [some (.inr 192), some (.inl (i : Int)), some (.inl (j : Int)), some (.inl 0), some (.inl 0), some (.inl ((v : Int) + 1)), some (.inl (dayV kp (fun q => shr p k f (c.set j (visD c d i j)) t q - net p l q) n v))], [], _)) rfl ?_
            have e8 : dayL (v + 1) kp (fun q => shr p k f (c.set j (visD c d i j)) t q - net p l q) n = (dayL v kp (fun q => shr p k f (c.set j (visD c d i j)) t q - net p l q) n).set v (dayV kp (fun q => shr p k f (c.set j (visD c d i j)) t q - net p l q) n v) := congrArg (fun z : Int => (dayL v kp (fun q => shr p k f (c.set j (visD c d i j)) t q - net p l q) n).set v z) (by omega)
            refine b_cast (f' := (87, [some (.inr 192), some (.inl (i : Int)), some (.inl (j : Int)), some (.inl 0), some (.inl 0), some (.inl ((v : Int) + 1)), some (.inl (dayV kp (fun q => shr p k f (c.set j (visD c d i j)) t q - net p l q) n v))], [], [A0, A1, A2, A3, A4, A5, (modSeg re k f c n (dayL (v + 1) kp (fun q => shr p k f (c.set j (visD c d i j)) t q - net p l q) n) l tp le la td kt sh2 (soL (fun q => decide (dayV kp (fun q => shr p k f (c.set j (visD c d i j)) t q - net p l q) n q < 0)) so (v + 1)) had gr fi se to (p : Int) t (d + 1) tl at_ sn him ik cu 0 (cntN (v + 1) (fun q => decide (dayV kp (fun q => shr p k f (c.set j (visD c d i j)) t q - net p l q) n q < 0))) rm)])) (by rw [e8, soL_f (P := (fun q => decide (dayV kp (fun q => shr p k f (c.set j (visD c d i j)) t q - net p l q) n q < 0))) (decide_eq_false (by omega)), cntN_f (P := (fun q => decide (dayV kp (fun q => shr p k f (c.set j (visD c d i j)) t q - net p l q) n q < 0))) (decide_eq_false (by omega))]) ?_
            refine b_lose (ls' := [some (.inr 192), some (.inl (i : Int)), some (.inl (j : Int)), some (.inl 0), some (.inl 0), some (.inl ((v : Int) + 1)), none]) (lose6of7 _ _ _ _ _ _ _) ?_
            exact ih (v + 1) (by omega)
          · refine aGo okX8_goesDay 2 (f' := (190, [some (.inr 192), some (.inl (i : Int)), some (.inl (j : Int)), some (.inl 0), some (.inl 0), some (.inl (v : Int)), some (.inl (dayV kp (fun q => shr p k f (c.set j (visD c d i j)) t q - net p l q) n v))], [.inl 9999, .inl (v : Int), .inr 198], _)) rfl ?_
            refine b_ast (k := 198) (j := v) (a := (dayL v kp (fun q => shr p k f (c.set j (visD c d i j)) t q - net p l q) n)) okX8_goesDay rfl rfl (by omega) (by rw [dayL_len]; omega) (by omega) ?_
            refine b_cast (f' := (191, [some (.inr 192), some (.inl (i : Int)), some (.inl (j : Int)), some (.inl 0), some (.inl 0), some (.inl (v : Int)), some (.inl (dayV kp (fun q => shr p k f (c.set j (visD c d i j)) t q - net p l q) n v))], [], [A0, A1, A2, A3, A4, A5, (modSeg re k f c n ((dayL v kp (fun q => shr p k f (c.set j (visD c d i j)) t q - net p l q) n).set v 9999) l tp le la td kt sh2 ((soL (fun q => decide (dayV kp (fun q => shr p k f (c.set j (visD c d i j)) t q - net p l q) n q < 0)) so v).set v (((soL (fun q => decide (dayV kp (fun q => shr p k f (c.set j (visD c d i j)) t q - net p l q) n q < 0)) so v).getD v 0) + 0)) had gr fi se to (p : Int) t (d + 1) tl at_ sn him ik cu 0 ((cntN v (fun q => decide (dayV kp (fun q => shr p k f (c.set j (visD c d i j)) t q - net p l q) n q < 0))) + 0) rm)])) rfl ?_
            refine aGo okX8_goesDay 2 (f' := (87, [some (.inr 192), some (.inl (i : Int)), some (.inl (j : Int)), some (.inl 0), some (.inl 0), some (.inl ((v : Int) + 1)), some (.inl (dayV kp (fun q => shr p k f (c.set j (visD c d i j)) t q - net p l q) n v))], [], _)) rfl ?_
            have e8 : dayL (v + 1) kp (fun q => shr p k f (c.set j (visD c d i j)) t q - net p l q) n = (dayL v kp (fun q => shr p k f (c.set j (visD c d i j)) t q - net p l q) n).set v 9999 := congrArg (fun z : Int => (dayL v kp (fun q => shr p k f (c.set j (visD c d i j)) t q - net p l q) n).set v z) (by omega)
            refine b_cast (f' := (87, [some (.inr 192), some (.inl (i : Int)), some (.inl (j : Int)), some (.inl 0), some (.inl 0), some (.inl ((v : Int) + 1)), some (.inl (dayV kp (fun q => shr p k f (c.set j (visD c d i j)) t q - net p l q) n v))], [], [A0, A1, A2, A3, A4, A5, (modSeg re k f c n (dayL (v + 1) kp (fun q => shr p k f (c.set j (visD c d i j)) t q - net p l q) n) l tp le la td kt sh2 (soL (fun q => decide (dayV kp (fun q => shr p k f (c.set j (visD c d i j)) t q - net p l q) n q < 0)) so (v + 1)) had gr fi se to (p : Int) t (d + 1) tl at_ sn him ik cu 0 (cntN (v + 1) (fun q => decide (dayV kp (fun q => shr p k f (c.set j (visD c d i j)) t q - net p l q) n q < 0))) rm)])) (by rw [e8, soL_f (P := (fun q => decide (dayV kp (fun q => shr p k f (c.set j (visD c d i j)) t q - net p l q) n q < 0))) (decide_eq_false (by omega)), cntN_f (P := (fun q => decide (dayV kp (fun q => shr p k f (c.set j (visD c d i j)) t q - net p l q) n q < 0))) (decide_eq_false (by omega))]) ?_
            refine b_lose (ls' := [some (.inr 192), some (.inl (i : Int)), some (.inl (j : Int)), some (.inl 0), some (.inl 0), some (.inl ((v : Int) + 1)), none]) (lose6of7 _ _ _ _ _ _ _) ?_
            exact ih (v + 1) (by omega)
        · refine aGo okX8_goesDay 3 (f' := (139, [some (.inr 192), some (.inl (i : Int)), some (.inl (j : Int)), some (.inl 0), some (.inl 0), some (.inl (v : Int)), some (.inl (dayV kp (fun q => shr p k f (c.set j (visD c d i j)) t q - net p l q) n v))], [.inl (((soL (fun q => decide (dayV kp (fun q => shr p k f (c.set j (visD c d i j)) t q - net p l q) n q < 0)) so v).getD v 0) + 1), .inl (v : Int), .inr 206], _)) rfl ?_
          refine b_ast (k := 206) (j := v) (a := (soL (fun q => decide (dayV kp (fun q => shr p k f (c.set j (visD c d i j)) t q - net p l q) n q < 0)) so v)) okX8_goesDay rfl rfl (by omega) (by rw [soL_len]; omega) (by omega) ?_
          refine b_cast (f' := (140, [some (.inr 192), some (.inl (i : Int)), some (.inl (j : Int)), some (.inl 0), some (.inl 0), some (.inl (v : Int)), some (.inl (dayV kp (fun q => shr p k f (c.set j (visD c d i j)) t q - net p l q) n v))], [], [A0, A1, A2, A3, A4, A5, (modSeg re k f c n (dayL v kp (fun q => shr p k f (c.set j (visD c d i j)) t q - net p l q) n) l tp le la td kt sh2 ((soL (fun q => decide (dayV kp (fun q => shr p k f (c.set j (visD c d i j)) t q - net p l q) n q < 0)) so v).set v (((soL (fun q => decide (dayV kp (fun q => shr p k f (c.set j (visD c d i j)) t q - net p l q) n q < 0)) so v).getD v 0) + 1)) had gr fi se to (p : Int) t (d + 1) tl at_ sn him ik cu 0 (cntN v (fun q => decide (dayV kp (fun q => shr p k f (c.set j (visD c d i j)) t q - net p l q) n q < 0))) rm)])) rfl ?_
          refine aGo okX8_goesDay 4 (f' := (147, [some (.inr 192), some (.inl (i : Int)), some (.inl (j : Int)), some (.inl 0), some (.inl 0), some (.inl (v : Int)), some (.inl (dayV kp (fun q => shr p k f (c.set j (visD c d i j)) t q - net p l q) n v))], [.inl (dayV kp (fun q => shr p k f (c.set j (visD c d i j)) t q - net p l q) n v), .inl (cntN v (fun q => decide (dayV kp (fun q => shr p k f (c.set j (visD c d i j)) t q - net p l q) n q < 0))), .inr 192], _)) rfl ?_
          refine b0_ge (tgt := 154) okX8_goesDay rfl rfl ⟨by omega, by omega⟩ (fun h147 => absurd h147 (by omega)) (fun h147 => ?_)
          refine aGo okX8_goesDay 8 (f' := (167, [some (.inr 192), some (.inl (i : Int)), some (.inl (j : Int)), some (.inl 0), some (.inl 0), some (.inl (v : Int)), some (.inl (dayV kp (fun q => shr p k f (c.set j (visD c d i j)) t q - net p l q) n v))], [.inl (dayV kp (fun q => shr p k f (c.set j (visD c d i j)) t q - net p l q) n v), .inl (v : Int), .inr 198], [A0, A1, A2, A3, A4, A5, (modSeg re k f c n (dayL v kp (fun q => shr p k f (c.set j (visD c d i j)) t q - net p l q) n) l tp le la td kt sh2 ((soL (fun q => decide (dayV kp (fun q => shr p k f (c.set j (visD c d i j)) t q - net p l q) n q < 0)) so v).set v (((soL (fun q => decide (dayV kp (fun q => shr p k f (c.set j (visD c d i j)) t q - net p l q) n q < 0)) so v).getD v 0) + 1)) had gr fi se to (p : Int) t (d + 1) tl at_ sn him ik cu 0 ((cntN v (fun q => decide (dayV kp (fun q => shr p k f (c.set j (visD c d i j)) t q - net p l q) n q < 0))) + 1) rm)])) rfl ?_
          refine b0_ge (tgt := 174) okX8_goesDay rfl rfl ⟨by omega, by omega⟩ (fun h167 => absurd h167 (by omega)) (fun h167 => ?_)
          refine aGo okX8_goesDay 2 (f' := (190, [some (.inr 192), some (.inl (i : Int)), some (.inl (j : Int)), some (.inl 0), some (.inl 0), some (.inl (v : Int)), some (.inl (dayV kp (fun q => shr p k f (c.set j (visD c d i j)) t q - net p l q) n v))], [.inl 0, .inl (v : Int), .inr 198], _)) rfl ?_
          refine b_ast (k := 198) (j := v) (a := (dayL v kp (fun q => shr p k f (c.set j (visD c d i j)) t q - net p l q) n)) okX8_goesDay rfl rfl (by omega) (by rw [dayL_len]; omega) (by omega) ?_
          refine b_cast (f' := (191, [some (.inr 192), some (.inl (i : Int)), some (.inl (j : Int)), some (.inl 0), some (.inl 0), some (.inl (v : Int)), some (.inl (dayV kp (fun q => shr p k f (c.set j (visD c d i j)) t q - net p l q) n v))], [], [A0, A1, A2, A3, A4, A5, (modSeg re k f c n ((dayL v kp (fun q => shr p k f (c.set j (visD c d i j)) t q - net p l q) n).set v 0) l tp le la td kt sh2 ((soL (fun q => decide (dayV kp (fun q => shr p k f (c.set j (visD c d i j)) t q - net p l q) n q < 0)) so v).set v (((soL (fun q => decide (dayV kp (fun q => shr p k f (c.set j (visD c d i j)) t q - net p l q) n q < 0)) so v).getD v 0) + 1)) had gr fi se to (p : Int) t (d + 1) tl at_ sn him ik cu 0 ((cntN v (fun q => decide (dayV kp (fun q => shr p k f (c.set j (visD c d i j)) t q - net p l q) n q < 0))) + 1) rm)])) rfl ?_
          refine aGo okX8_goesDay 2 (f' := (87, [some (.inr 192), some (.inl (i : Int)), some (.inl (j : Int)), some (.inl 0), some (.inl 0), some (.inl ((v : Int) + 1)), some (.inl (dayV kp (fun q => shr p k f (c.set j (visD c d i j)) t q - net p l q) n v))], [], _)) rfl ?_
          have e8 : dayL (v + 1) kp (fun q => shr p k f (c.set j (visD c d i j)) t q - net p l q) n = (dayL v kp (fun q => shr p k f (c.set j (visD c d i j)) t q - net p l q) n).set v 0 := congrArg (fun z : Int => (dayL v kp (fun q => shr p k f (c.set j (visD c d i j)) t q - net p l q) n).set v z) (by omega)
          refine b_cast (f' := (87, [some (.inr 192), some (.inl (i : Int)), some (.inl (j : Int)), some (.inl 0), some (.inl 0), some (.inl ((v : Int) + 1)), some (.inl (dayV kp (fun q => shr p k f (c.set j (visD c d i j)) t q - net p l q) n v))], [], [A0, A1, A2, A3, A4, A5, (modSeg re k f c n (dayL (v + 1) kp (fun q => shr p k f (c.set j (visD c d i j)) t q - net p l q) n) l tp le la td kt sh2 (soL (fun q => decide (dayV kp (fun q => shr p k f (c.set j (visD c d i j)) t q - net p l q) n q < 0)) so (v + 1)) had gr fi se to (p : Int) t (d + 1) tl at_ sn him ik cu 0 (cntN (v + 1) (fun q => decide (dayV kp (fun q => shr p k f (c.set j (visD c d i j)) t q - net p l q) n q < 0))) rm)])) (by rw [e8, soL_t (P := (fun q => decide (dayV kp (fun q => shr p k f (c.set j (visD c d i j)) t q - net p l q) n q < 0))) (decide_eq_true (by omega)), cntN_t (P := (fun q => decide (dayV kp (fun q => shr p k f (c.set j (visD c d i j)) t q - net p l q) n q < 0))) (decide_eq_true (by omega))]) ?_
          refine b_lose (ls' := [some (.inr 192), some (.inl (i : Int)), some (.inl (j : Int)), some (.inl 0), some (.inl 0), some (.inl ((v : Int) + 1)), none]) (lose6of7 _ _ _ _ _ _ _) ?_
          exact ih (v + 1) (by omega)
    exact lp p 0 (by omega)
  · refine aGo okX8_goesDay 3 (f' := (20, [some (.inr 192), some (.inl (i : Int)), some (.inl (j : Int)), none, none, none, none], [.inl 7, .inl (d + 1)], _)) rfl ?_
    refine b_rem okX8_goesDay rfl ⟨by omega, by omega⟩ ⟨by omega, by omega⟩ ?_
    refine aGo okX8_goesDay 1 (f' := (22, [some (.inr 192), some (.inl (i : Int)), some (.inl (j : Int)), none, none, none, none], [.inl 1, .inl ((d + 1) % 7)], _)) rfl ?_
    refine b_ne (tgt := 29) okX8_goesDay rfl rfl ⟨by omega, by omega⟩ ⟨by omega, by omega⟩ (fun h22 => ?_) (fun h22 => ?_)
    · refine aGo okX8_goesDay 3 (f' := (32, [some (.inr 192), some (.inl (i : Int)), some (.inl (j : Int)), some (.inl 0), none, none, none], [.inl 0], _)) rfl ?_
      refine b0_eq (tgt := 44) okX8_goesDay rfl rfl ⟨by omega, by omega⟩ (fun h32 => ?_) (fun h32 => absurd h32 (by omega))
      refine aGo okX8_goesDay 3 (f' := (48, [some (.inr 192), some (.inl (i : Int)), some (.inl (j : Int)), some (.inl 0), some (.inl 0), none, none], [.inl 0], _)) rfl ?_
      refine b0_eq (tgt := 63) okX8_goesDay rfl rfl ⟨by omega, by omega⟩ (fun h48 => ?_) (fun h48 => absurd h48 (by omega))
      refine aGo okX8_goesDay 1 (f' := (64, [some (.inr 192), some (.inl (i : Int)), some (.inl (j : Int)), some (.inl 0), some (.inl 0), none, none], [.inr 192], _)) rfl ?_
      refine b_vE (as := []) (rest := []) (k := 192) okX8_goesDay rfl lkX8_202 caX8_findShares (Nat.le_of_ble_eq_true rfl) rfl (Nat.le_of_ble_eq_true rfl) rfl rfl rfl (c_findShares (gH_of hb (by omega))) ?_
      rintro _ _ ⟨rfl, sh2, q1, q2, rfl⟩
      refine aGo okX8_goesDay 1 (f' := (68, [some (.inr 192), some (.inl (i : Int)), some (.inl (j : Int)), some (.inl 0), some (.inl 0), none, none], [.inl 0], _)) rfl ?_
      refine b0_eq (tgt := 79) okX8_goesDay rfl rfl ⟨by omega, by omega⟩ (fun h68 => ?_) (fun h68 => absurd h68 (by omega))
      refine aGo okX8_goesDay 5 (f' := (87, [some (.inr 192), some (.inl (i : Int)), some (.inl (j : Int)), some (.inl 0), some (.inl 0), some (.inl 0), none], [], [A0, A1, A2, A3, A4, A5, (modSeg re k f c n kp l tp le la td kt sh2 so had gr fi se to (p : Int) t (d + 1) tl at_ sn him ik cu 0 0 rm)])) rfl ?_
      have e7 : visD c d i j = c.getD j 0 := if_neg (by omega)
      have q3 : ∀ q, q < p → sh2.getD q 0 = shr p k f (c.set j (visD c d i j)) t q := by rw [e7, set_self (by omega)]; exact q2
      clear q2
      have q2 := q3
      have lp : ∀ (j9 v : Nat), v + j9 = p → AW mX8_goesDay 6 0 0 N none (fun rv h => rv = none ∧ ∃ sh2 : List Int, sh2.length = 7 ∧ h = [A0, A1, A2, A3, A4, A5, (modSeg re k f c n (dayL p kp (fun q => shr p k f (c.set j (visD c d i j)) t q - net p l q) n) l tp le la td kt sh2 (soL (fun q => decide (dayV kp (fun q => shr p k f (c.set j (visD c d i j)) t q - net p l q) n q < 0)) so p) had gr fi se to (p : Int) t (d + 1) tl at_ sn him ik cu 0 (cntN p (fun q => decide (dayV kp (fun q => shr p k f (c.set j (visD c d i j)) t q - net p l q) n q < 0))) rm)]) (87, [some (.inr 192), some (.inl (i : Int)), some (.inl (j : Int)), some (.inl 0), some (.inl 0), some (.inl (v : Int)), none], [], [A0, A1, A2, A3, A4, A5, (modSeg re k f c n (dayL v kp (fun q => shr p k f (c.set j (visD c d i j)) t q - net p l q) n) l tp le la td kt sh2 (soL (fun q => decide (dayV kp (fun q => shr p k f (c.set j (visD c d i j)) t q - net p l q) n q < 0)) so v) had gr fi se to (p : Int) t (d + 1) tl at_ sn him ik cu 0 (cntN v (fun q => decide (dayV kp (fun q => shr p k f (c.set j (visD c d i j)) t q - net p l q) n q < 0))) rm)]) := by
        intro j9
        induction j9 with
        | zero =>
          intro v  hij 
          obtain rfl : p = v := by omega
          refine aGo okX8_goesDay 3 (f' := (93, [some (.inr 192), some (.inl (i : Int)), some (.inl (j : Int)), some (.inl 0), some (.inl 0), some (.inl (p : Int)), none], [.inl (p : Int), .inl (p : Int)], _)) rfl ?_
          refine b_ge (tgt := 197) okX8_goesDay rfl rfl ⟨by omega, by omega⟩ ⟨by omega, by omega⟩ (fun h93 => ?_) (fun h93 => absurd h93 (by omega))
          exact b_ret (v := none) ⟨rfl, rfl⟩ ⟨rfl, sh2, q1, rfl⟩ rfl
        | succ j9 ih =>
          intro v  hij 
          refine aGo okX8_goesDay 3 (f' := (93, [some (.inr 192), some (.inl (i : Int)), some (.inl (j : Int)), some (.inl 0), some (.inl 0), some (.inl (v : Int)), none], [.inl (p : Int), .inl (v : Int)], _)) rfl ?_
          refine b_ge (tgt := 197) okX8_goesDay rfl rfl ⟨by omega, by omega⟩ ⟨by omega, by omega⟩ (fun h93 => absurd h93 (by omega)) (fun h93 => ?_)
          refine aGo okX8_goesDay 3 (f' := (102, [some (.inr 192), some (.inl (i : Int)), some (.inl (j : Int)), some (.inl 0), some (.inl 0), some (.inl (v : Int)), none], [.inl (v : Int), .inr 198], _)) rfl ?_
          refine b_ald (k := 198) (j := v) (a := (dayL v kp (fun q => shr p k f (c.set j (visD c d i j)) t q - net p l q) n)) okX8_goesDay rfl rfl (by omega) (by rw [dayL_len]; omega) (by omega) ?_
          refine aGo okX8_goesDay 2 (f' := (106, [some (.inr 192), some (.inl (i : Int)), some (.inl (j : Int)), some (.inl 0), some (.inl 0), some (.inl (v : Int)), none], [.inl (v : Int), .inr 192, .inl ((dayL v kp (fun q => shr p k f (c.set j (visD c d i j)) t q - net p l q) n).getD v 0)], _)) rfl ?_
          refine b_vV (as := [.inl (v : Int)]) (rest := [.inl ((dayL v kp (fun q => shr p k f (c.set j (visD c d i j)) t q - net p l q) n).getD v 0)]) (k := 192) (.inl ((sh2.getD v 0) - (net p l v))) okX8_goesDay rfl lkX8_208 caX8_hasNow (Nat.le_of_ble_eq_true rfl) rfl (Nat.le_of_ble_eq_true rfl) rfl rfl rfl (c_hasNow0 hp7 hl q1 (i := v) (by omega)) ?_
          refine aGo okX8_goesDay 4 (f' := (116, [some (.inr 192), some (.inl (i : Int)), some (.inl (j : Int)), some (.inl 0), some (.inl 0), some (.inl (v : Int)), none], [.inl (v : Int), .inr 197, .inl (((dayL v kp (fun q => shr p k f (c.set j (visD c d i j)) t q - net p l q) n).getD v 0) + ((sh2.getD v 0) - (net p l v)))], _)) rfl ?_
          refine b_ald (k := 197) (j := v) (a := n) okX8_goesDay rfl rfl (by omega) (by omega) (by omega) ?_
          refine aGo okX8_goesDay 1 (f' := (118, [some (.inr 192), some (.inl (i : Int)), some (.inl (j : Int)), some (.inl 0), some (.inl 0), some (.inl (v : Int)), none], [.inl ((((dayL v kp (fun q => shr p k f (c.set j (visD c d i j)) t q - net p l q) n).getD v 0) + ((sh2.getD v 0) - (net p l v))) - (n.getD v 0))], _)) rfl ?_
          refine b_cast (f' := (118, [some (.inr 192), some (.inl (i : Int)), some (.inl (j : Int)), some (.inl 0), some (.inl 0), some (.inl (v : Int)), none], [.inl (dayV kp (fun q => shr p k f (c.set j (visD c d i j)) t q - net p l q) n v)], [A0, A1, A2, A3, A4, A5, (modSeg re k f c n (dayL v kp (fun q => shr p k f (c.set j (visD c d i j)) t q - net p l q) n) l tp le la td kt sh2 (soL (fun q => decide (dayV kp (fun q => shr p k f (c.set j (visD c d i j)) t q - net p l q) n q < 0)) so v) had gr fi se to (p : Int) t (d + 1) tl at_ sn him ik cu 0 (cntN v (fun q => decide (dayV kp (fun q => shr p k f (c.set j (visD c d i j)) t q - net p l q) n q < 0))) rm)])) (by rw [dayL_at (Nat.le_refl v), q2 v (by omega)]; rfl) ?_
          have e5 := hV v (by omega)
          refine aGo okX8_goesDay 5 (f' := (127, [some (.inr 192), some (.inl (i : Int)), some (.inl (j : Int)), some (.inl 0), some (.inl 0), some (.inl (v : Int)), some (.inl (dayV kp (fun q => shr p k f (c.set j (visD c d i j)) t q - net p l q) n v))], [.inl (v : Int), .inr 206, .inl (v : Int), .inr 206], _)) rfl ?_
          refine b_ald (k := 206) (j := v) (a := (soL (fun q => decide (dayV kp (fun q => shr p k f (c.set j (visD c d i j)) t q - net p l q) n q < 0)) so v)) okX8_goesDay rfl rfl (by omega) (by rw [soL_len]; omega) (by omega) ?_
          refine aGo okX8_goesDay 1 (f' := (130, [some (.inr 192), some (.inl (i : Int)), some (.inl (j : Int)), some (.inl 0), some (.inl 0), some (.inl (v : Int)), some (.inl (dayV kp (fun q => shr p k f (c.set j (visD c d i j)) t q - net p l q) n v))], [.inl (dayV kp (fun q => shr p k f (c.set j (visD c d i j)) t q - net p l q) n v), .inl ((soL (fun q => decide (dayV kp (fun q => shr p k f (c.set j (visD c d i j)) t q - net p l q) n q < 0)) so v).getD v 0), .inl (v : Int), .inr 206], _)) rfl ?_
          refine b0_ge (tgt := 137) okX8_goesDay rfl rfl ⟨by omega, by omega⟩ (fun h130 => ?_) (fun h130 => ?_)
          · refine aGo okX8_goesDay 2 (f' := (139, [some (.inr 192), some (.inl (i : Int)), some (.inl (j : Int)), some (.inl 0), some (.inl 0), some (.inl (v : Int)), some (.inl (dayV kp (fun q => shr p k f (c.set j (visD c d i j)) t q - net p l q) n v))], [.inl (((soL (fun q => decide (dayV kp (fun q => shr p k f (c.set j (visD c d i j)) t q - net p l q) n q < 0)) so v).getD v 0) + 0), .inl (v : Int), .inr 206], _)) rfl ?_
            refine b_ast (k := 206) (j := v) (a := (soL (fun q => decide (dayV kp (fun q => shr p k f (c.set j (visD c d i j)) t q - net p l q) n q < 0)) so v)) okX8_goesDay rfl rfl (by omega) (by rw [soL_len]; omega) (by omega) ?_
            refine b_cast (f' := (140, [some (.inr 192), some (.inl (i : Int)), some (.inl (j : Int)), some (.inl 0), some (.inl 0), some (.inl (v : Int)), some (.inl (dayV kp (fun q => shr p k f (c.set j (visD c d i j)) t q - net p l q) n v))], [], [A0, A1, A2, A3, A4, A5, (modSeg re k f c n (dayL v kp (fun q => shr p k f (c.set j (visD c d i j)) t q - net p l q) n) l tp le la td kt sh2 ((soL (fun q => decide (dayV kp (fun q => shr p k f (c.set j (visD c d i j)) t q - net p l q) n q < 0)) so v).set v (((soL (fun q => decide (dayV kp (fun q => shr p k f (c.set j (visD c d i j)) t q - net p l q) n q < 0)) so v).getD v 0) + 0)) had gr fi se to (p : Int) t (d + 1) tl at_ sn him ik cu 0 (cntN v (fun q => decide (dayV kp (fun q => shr p k f (c.set j (visD c d i j)) t q - net p l q) n q < 0))) rm)])) rfl ?_
            refine aGo okX8_goesDay 4 (f' := (147, [some (.inr 192), some (.inl (i : Int)), some (.inl (j : Int)), some (.inl 0), some (.inl 0), some (.inl (v : Int)), some (.inl (dayV kp (fun q => shr p k f (c.set j (visD c d i j)) t q - net p l q) n v))], [.inl (dayV kp (fun q => shr p k f (c.set j (visD c d i j)) t q - net p l q) n v), .inl (cntN v (fun q => decide (dayV kp (fun q => shr p k f (c.set j (visD c d i j)) t q - net p l q) n q < 0))), .inr 192], _)) rfl ?_
            refine b0_ge (tgt := 154) okX8_goesDay rfl rfl ⟨by omega, by omega⟩ (fun h147 => ?_) (fun h147 => absurd h147 (by omega))
            refine aGo okX8_goesDay 7 (f' := (167, [some (.inr 192), some (.inl (i : Int)), some (.inl (j : Int)), some (.inl 0), some (.inl 0), some (.inl (v : Int)), some (.inl (dayV kp (fun q => shr p k f (c.set j (visD c d i j)) t q - net p l q) n v))], [.inl (dayV kp (fun q => shr p k f (c.set j (visD c d i j)) t q - net p l q) n v), .inl (v : Int), .inr 198], [A0, A1, A2, A3, A4, A5, (modSeg re k f c n (dayL v kp (fun q => shr p k f (c.set j (visD c d i j)) t q - net p l q) n) l tp le la td kt sh2 ((soL (fun q => decide (dayV kp (fun q => shr p k f (c.set j (visD c d i j)) t q - net p l q) n q < 0)) so v).set v (((soL (fun q => decide (dayV kp (fun q => shr p k f (c.set j (visD c d i j)) t q - net p l q) n q < 0)) so v).getD v 0) + 0)) had gr fi se to (p : Int) t (d + 1) tl at_ sn him ik cu 0 ((cntN v (fun q => decide (dayV kp (fun q => shr p k f (c.set j (visD c d i j)) t q - net p l q) n q < 0))) + 0) rm)])) rfl ?_
            refine b0_ge (tgt := 174) okX8_goesDay rfl rfl ⟨by omega, by omega⟩ (fun h167 => ?_) (fun h167 => absurd h167 (by omega))
            refine aGo okX8_goesDay 2 (f' := (179, [some (.inr 192), some (.inl (i : Int)), some (.inl (j : Int)), some (.inl 0), some (.inl 0), some (.inl (v : Int)), some (.inl (dayV kp (fun q => shr p k f (c.set j (visD c d i j)) t q - net p l q) n v))], [.inl 9999, .inl (dayV kp (fun q => shr p k f (c.set j (visD c d i j)) t q - net p l q) n v), .inl (v : Int), .inr 198], _)) rfl ?_
            refine b_le (tgt := 188) okX8_goesDay rfl rfl ⟨by omega, by omega⟩ ⟨by omega, by omega⟩ (fun h179 => ?_) (fun h179 => ?_)
            · refine aGo okX8_goesDay 1 (f' := (190, [some (.inr 192), some (.inl (i : Int)), some (.inl (j : Int)), some (.inl 0), some (.inl 0), some (.inl (v : Int)), some (.inl (dayV kp (fun q => shr p k f (c.set j (visD c d i j)) t q - net p l q) n v))], [.inl (dayV kp (fun q => shr p k f (c.set j (visD c d i j)) t q - net p l q) n v), .inl (v : Int), .inr 198], _)) rfl ?_
              refine b_ast (k := 198) (j := v) (a := (dayL v kp (fun q => shr p k f (c.set j (visD c d i j)) t q - net p l q) n)) okX8_goesDay rfl rfl (by omega) (by rw [dayL_len]; omega) (by omega) ?_
              refine b_cast (f' := (191, [some (.inr 192), some (.inl (i : Int)), some (.inl (j : Int)), some (.inl 0), some (.inl 0), some (.inl (v : Int)), some (.inl (dayV kp (fun q => shr p k f (c.set j (visD c d i j)) t q - net p l q) n v))], [], [A0, A1, A2, A3, A4, A5, (modSeg re k f c n ((dayL v kp (fun q => shr p k f (c.set j (visD c d i j)) t q - net p l q) n).set v (dayV kp (fun q => shr p k f (c.set j (visD c d i j)) t q - net p l q) n v)) l tp le la td kt sh2 ((soL (fun q => decide (dayV kp (fun q => shr p k f (c.set j (visD c d i j)) t q - net p l q) n q < 0)) so v).set v (((soL (fun q => decide (dayV kp (fun q => shr p k f (c.set j (visD c d i j)) t q - net p l q) n q < 0)) so v).getD v 0) + 0)) had gr fi se to (p : Int) t (d + 1) tl at_ sn him ik cu 0 ((cntN v (fun q => decide (dayV kp (fun q => shr p k f (c.set j (visD c d i j)) t q - net p l q) n q < 0))) + 0) rm)])) rfl ?_
              refine aGo okX8_goesDay 2 (f' := (87, [some (.inr 192), some (.inl (i : Int)), some (.inl (j : Int)), some (.inl 0), some (.inl 0), some (.inl ((v : Int) + 1)), some (.inl (dayV kp (fun q => shr p k f (c.set j (visD c d i j)) t q - net p l q) n v))], [], _)) rfl ?_
              have e8 : dayL (v + 1) kp (fun q => shr p k f (c.set j (visD c d i j)) t q - net p l q) n = (dayL v kp (fun q => shr p k f (c.set j (visD c d i j)) t q - net p l q) n).set v (dayV kp (fun q => shr p k f (c.set j (visD c d i j)) t q - net p l q) n v) := congrArg (fun z : Int => (dayL v kp (fun q => shr p k f (c.set j (visD c d i j)) t q - net p l q) n).set v z) (by omega)
              refine b_cast (f' := (87, [some (.inr 192), some (.inl (i : Int)), some (.inl (j : Int)), some (.inl 0), some (.inl 0), some (.inl ((v : Int) + 1)), some (.inl (dayV kp (fun q => shr p k f (c.set j (visD c d i j)) t q - net p l q) n v))], [], [A0, A1, A2, A3, A4, A5, (modSeg re k f c n (dayL (v + 1) kp (fun q => shr p k f (c.set j (visD c d i j)) t q - net p l q) n) l tp le la td kt sh2 (soL (fun q => decide (dayV kp (fun q => shr p k f (c.set j (visD c d i j)) t q - net p l q) n q < 0)) so (v + 1)) had gr fi se to (p : Int) t (d + 1) tl at_ sn him ik cu 0 (cntN (v + 1) (fun q => decide (dayV kp (fun q => shr p k f (c.set j (visD c d i j)) t q - net p l q) n q < 0))) rm)])) (by rw [e8, soL_f (P := (fun q => decide (dayV kp (fun q => shr p k f (c.set j (visD c d i j)) t q - net p l q) n q < 0))) (decide_eq_false (by omega)), cntN_f (P := (fun q => decide (dayV kp (fun q => shr p k f (c.set j (visD c d i j)) t q - net p l q) n q < 0))) (decide_eq_false (by omega))]) ?_
              refine b_lose (ls' := [some (.inr 192), some (.inl (i : Int)), some (.inl (j : Int)), some (.inl 0), some (.inl 0), some (.inl ((v : Int) + 1)), none]) (lose6of7 _ _ _ _ _ _ _) ?_
              exact ih (v + 1) (by omega)
            · refine aGo okX8_goesDay 2 (f' := (190, [some (.inr 192), some (.inl (i : Int)), some (.inl (j : Int)), some (.inl 0), some (.inl 0), some (.inl (v : Int)), some (.inl (dayV kp (fun q => shr p k f (c.set j (visD c d i j)) t q - net p l q) n v))], [.inl 9999, .inl (v : Int), .inr 198], _)) rfl ?_
              refine b_ast (k := 198) (j := v) (a := (dayL v kp (fun q => shr p k f (c.set j (visD c d i j)) t q - net p l q) n)) okX8_goesDay rfl rfl (by omega) (by rw [dayL_len]; omega) (by omega) ?_
              refine b_cast (f' := (191, [some (.inr 192), some (.inl (i : Int)), some (.inl (j : Int)), some (.inl 0), some (.inl 0), some (.inl (v : Int)), some (.inl (dayV kp (fun q => shr p k f (c.set j (visD c d i j)) t q - net p l q) n v))], [], [A0, A1, A2, A3, A4, A5, (modSeg re k f c n ((dayL v kp (fun q => shr p k f (c.set j (visD c d i j)) t q - net p l q) n).set v 9999) l tp le la td kt sh2 ((soL (fun q => decide (dayV kp (fun q => shr p k f (c.set j (visD c d i j)) t q - net p l q) n q < 0)) so v).set v (((soL (fun q => decide (dayV kp (fun q => shr p k f (c.set j (visD c d i j)) t q - net p l q) n q < 0)) so v).getD v 0) + 0)) had gr fi se to (p : Int) t (d + 1) tl at_ sn him ik cu 0 ((cntN v (fun q => decide (dayV kp (fun q => shr p k f (c.set j (visD c d i j)) t q - net p l q) n q < 0))) + 0) rm)])) rfl ?_
              refine aGo okX8_goesDay 2 (f' := (87, [some (.inr 192), some (.inl (i : Int)), some (.inl (j : Int)), some (.inl 0), some (.inl 0), some (.inl ((v : Int) + 1)), some (.inl (dayV kp (fun q => shr p k f (c.set j (visD c d i j)) t q - net p l q) n v))], [], _)) rfl ?_
              have e8 : dayL (v + 1) kp (fun q => shr p k f (c.set j (visD c d i j)) t q - net p l q) n = (dayL v kp (fun q => shr p k f (c.set j (visD c d i j)) t q - net p l q) n).set v 9999 := congrArg (fun z : Int => (dayL v kp (fun q => shr p k f (c.set j (visD c d i j)) t q - net p l q) n).set v z) (by omega)
              refine b_cast (f' := (87, [some (.inr 192), some (.inl (i : Int)), some (.inl (j : Int)), some (.inl 0), some (.inl 0), some (.inl ((v : Int) + 1)), some (.inl (dayV kp (fun q => shr p k f (c.set j (visD c d i j)) t q - net p l q) n v))], [], [A0, A1, A2, A3, A4, A5, (modSeg re k f c n (dayL (v + 1) kp (fun q => shr p k f (c.set j (visD c d i j)) t q - net p l q) n) l tp le la td kt sh2 (soL (fun q => decide (dayV kp (fun q => shr p k f (c.set j (visD c d i j)) t q - net p l q) n q < 0)) so (v + 1)) had gr fi se to (p : Int) t (d + 1) tl at_ sn him ik cu 0 (cntN (v + 1) (fun q => decide (dayV kp (fun q => shr p k f (c.set j (visD c d i j)) t q - net p l q) n q < 0))) rm)])) (by rw [e8, soL_f (P := (fun q => decide (dayV kp (fun q => shr p k f (c.set j (visD c d i j)) t q - net p l q) n q < 0))) (decide_eq_false (by omega)), cntN_f (P := (fun q => decide (dayV kp (fun q => shr p k f (c.set j (visD c d i j)) t q - net p l q) n q < 0))) (decide_eq_false (by omega))]) ?_
              refine b_lose (ls' := [some (.inr 192), some (.inl (i : Int)), some (.inl (j : Int)), some (.inl 0), some (.inl 0), some (.inl ((v : Int) + 1)), none]) (lose6of7 _ _ _ _ _ _ _) ?_
              exact ih (v + 1) (by omega)
          · refine aGo okX8_goesDay 3 (f' := (139, [some (.inr 192), some (.inl (i : Int)), some (.inl (j : Int)), some (.inl 0), some (.inl 0), some (.inl (v : Int)), some (.inl (dayV kp (fun q => shr p k f (c.set j (visD c d i j)) t q - net p l q) n v))], [.inl (((soL (fun q => decide (dayV kp (fun q => shr p k f (c.set j (visD c d i j)) t q - net p l q) n q < 0)) so v).getD v 0) + 1), .inl (v : Int), .inr 206], _)) rfl ?_
            refine b_ast (k := 206) (j := v) (a := (soL (fun q => decide (dayV kp (fun q => shr p k f (c.set j (visD c d i j)) t q - net p l q) n q < 0)) so v)) okX8_goesDay rfl rfl (by omega) (by rw [soL_len]; omega) (by omega) ?_
            refine b_cast (f' := (140, [some (.inr 192), some (.inl (i : Int)), some (.inl (j : Int)), some (.inl 0), some (.inl 0), some (.inl (v : Int)), some (.inl (dayV kp (fun q => shr p k f (c.set j (visD c d i j)) t q - net p l q) n v))], [], [A0, A1, A2, A3, A4, A5, (modSeg re k f c n (dayL v kp (fun q => shr p k f (c.set j (visD c d i j)) t q - net p l q) n) l tp le la td kt sh2 ((soL (fun q => decide (dayV kp (fun q => shr p k f (c.set j (visD c d i j)) t q - net p l q) n q < 0)) so v).set v (((soL (fun q => decide (dayV kp (fun q => shr p k f (c.set j (visD c d i j)) t q - net p l q) n q < 0)) so v).getD v 0) + 1)) had gr fi se to (p : Int) t (d + 1) tl at_ sn him ik cu 0 (cntN v (fun q => decide (dayV kp (fun q => shr p k f (c.set j (visD c d i j)) t q - net p l q) n q < 0))) rm)])) rfl ?_
            refine aGo okX8_goesDay 4 (f' := (147, [some (.inr 192), some (.inl (i : Int)), some (.inl (j : Int)), some (.inl 0), some (.inl 0), some (.inl (v : Int)), some (.inl (dayV kp (fun q => shr p k f (c.set j (visD c d i j)) t q - net p l q) n v))], [.inl (dayV kp (fun q => shr p k f (c.set j (visD c d i j)) t q - net p l q) n v), .inl (cntN v (fun q => decide (dayV kp (fun q => shr p k f (c.set j (visD c d i j)) t q - net p l q) n q < 0))), .inr 192], _)) rfl ?_
            refine b0_ge (tgt := 154) okX8_goesDay rfl rfl ⟨by omega, by omega⟩ (fun h147 => absurd h147 (by omega)) (fun h147 => ?_)
            refine aGo okX8_goesDay 8 (f' := (167, [some (.inr 192), some (.inl (i : Int)), some (.inl (j : Int)), some (.inl 0), some (.inl 0), some (.inl (v : Int)), some (.inl (dayV kp (fun q => shr p k f (c.set j (visD c d i j)) t q - net p l q) n v))], [.inl (dayV kp (fun q => shr p k f (c.set j (visD c d i j)) t q - net p l q) n v), .inl (v : Int), .inr 198], [A0, A1, A2, A3, A4, A5, (modSeg re k f c n (dayL v kp (fun q => shr p k f (c.set j (visD c d i j)) t q - net p l q) n) l tp le la td kt sh2 ((soL (fun q => decide (dayV kp (fun q => shr p k f (c.set j (visD c d i j)) t q - net p l q) n q < 0)) so v).set v (((soL (fun q => decide (dayV kp (fun q => shr p k f (c.set j (visD c d i j)) t q - net p l q) n q < 0)) so v).getD v 0) + 1)) had gr fi se to (p : Int) t (d + 1) tl at_ sn him ik cu 0 ((cntN v (fun q => decide (dayV kp (fun q => shr p k f (c.set j (visD c d i j)) t q - net p l q) n q < 0))) + 1) rm)])) rfl ?_
            refine b0_ge (tgt := 174) okX8_goesDay rfl rfl ⟨by omega, by omega⟩ (fun h167 => absurd h167 (by omega)) (fun h167 => ?_)
            refine aGo okX8_goesDay 2 (f' := (190, [some (.inr 192), some (.inl (i : Int)), some (.inl (j : Int)), some (.inl 0), some (.inl 0), some (.inl (v : Int)), some (.inl (dayV kp (fun q => shr p k f (c.set j (visD c d i j)) t q - net p l q) n v))], [.inl 0, .inl (v : Int), .inr 198], _)) rfl ?_
            refine b_ast (k := 198) (j := v) (a := (dayL v kp (fun q => shr p k f (c.set j (visD c d i j)) t q - net p l q) n)) okX8_goesDay rfl rfl (by omega) (by rw [dayL_len]; omega) (by omega) ?_
            refine b_cast (f' := (191, [some (.inr 192), some (.inl (i : Int)), some (.inl (j : Int)), some (.inl 0), some (.inl 0), some (.inl (v : Int)), some (.inl (dayV kp (fun q => shr p k f (c.set j (visD c d i j)) t q - net p l q) n v))], [], [A0, A1, A2, A3, A4, A5, (modSeg re k f c n ((dayL v kp (fun q => shr p k f (c.set j (visD c d i j)) t q - net p l q) n).set v 0) l tp le la td kt sh2 ((soL (fun q => decide (dayV kp (fun q => shr p k f (c.set j (visD c d i j)) t q - net p l q) n q < 0)) so v).set v (((soL (fun q => decide (dayV kp (fun q => shr p k f (c.set j (visD c d i j)) t q - net p l q) n q < 0)) so v).getD v 0) + 1)) had gr fi se to (p : Int) t (d + 1) tl at_ sn him ik cu 0 ((cntN v (fun q => decide (dayV kp (fun q => shr p k f (c.set j (visD c d i j)) t q - net p l q) n q < 0))) + 1) rm)])) rfl ?_
            refine aGo okX8_goesDay 2 (f' := (87, [some (.inr 192), some (.inl (i : Int)), some (.inl (j : Int)), some (.inl 0), some (.inl 0), some (.inl ((v : Int) + 1)), some (.inl (dayV kp (fun q => shr p k f (c.set j (visD c d i j)) t q - net p l q) n v))], [], _)) rfl ?_
            have e8 : dayL (v + 1) kp (fun q => shr p k f (c.set j (visD c d i j)) t q - net p l q) n = (dayL v kp (fun q => shr p k f (c.set j (visD c d i j)) t q - net p l q) n).set v 0 := congrArg (fun z : Int => (dayL v kp (fun q => shr p k f (c.set j (visD c d i j)) t q - net p l q) n).set v z) (by omega)
            refine b_cast (f' := (87, [some (.inr 192), some (.inl (i : Int)), some (.inl (j : Int)), some (.inl 0), some (.inl 0), some (.inl ((v : Int) + 1)), some (.inl (dayV kp (fun q => shr p k f (c.set j (visD c d i j)) t q - net p l q) n v))], [], [A0, A1, A2, A3, A4, A5, (modSeg re k f c n (dayL (v + 1) kp (fun q => shr p k f (c.set j (visD c d i j)) t q - net p l q) n) l tp le la td kt sh2 (soL (fun q => decide (dayV kp (fun q => shr p k f (c.set j (visD c d i j)) t q - net p l q) n q < 0)) so (v + 1)) had gr fi se to (p : Int) t (d + 1) tl at_ sn him ik cu 0 (cntN (v + 1) (fun q => decide (dayV kp (fun q => shr p k f (c.set j (visD c d i j)) t q - net p l q) n q < 0))) rm)])) (by rw [e8, soL_t (P := (fun q => decide (dayV kp (fun q => shr p k f (c.set j (visD c d i j)) t q - net p l q) n q < 0))) (decide_eq_true (by omega)), cntN_t (P := (fun q => decide (dayV kp (fun q => shr p k f (c.set j (visD c d i j)) t q - net p l q) n q < 0))) (decide_eq_true (by omega))]) ?_
            refine b_lose (ls' := [some (.inr 192), some (.inl (i : Int)), some (.inl (j : Int)), some (.inl 0), some (.inl 0), some (.inl ((v : Int) + 1)), none]) (lose6of7 _ _ _ _ _ _ _) ?_
            exact ih (v + 1) (by omega)
      exact lp p 0 (by omega)
    · refine aGo okX8_goesDay 4 (f' := (32, [some (.inr 192), some (.inl (i : Int)), some (.inl (j : Int)), some (.inl 1), none, none, none], [.inl 1], _)) rfl ?_
      refine b0_eq (tgt := 44) okX8_goesDay rfl rfl ⟨by omega, by omega⟩ (fun h32 => absurd h32 (by omega)) (fun h32 => ?_)
      refine aGo okX8_goesDay 3 (f' := (40, [some (.inr 192), some (.inl (i : Int)), some (.inl (j : Int)), some (.inl 1), none, none, none], [.inl (j : Int), .inr 196], _)) rfl ?_
      refine b_ald (k := 196) (j := j) (a := c) okX8_goesDay rfl rfl (by omega) (by omega) (by omega) ?_
      refine aGo okX8_goesDay 3 (f' := (48, [some (.inr 192), some (.inl (i : Int)), some (.inl (j : Int)), some (.inl 1), some (.inl (c.getD j 0)), none, none], [.inl 1], _)) rfl ?_
      refine b0_eq (tgt := 63) okX8_goesDay rfl rfl ⟨by omega, by omega⟩ (fun h48 => absurd h48 (by omega)) (fun h48 => ?_)
      refine aGo okX8_goesDay 6 (f' := (61, [some (.inr 192), some (.inl (i : Int)), some (.inl (j : Int)), some (.inl 1), some (.inl (c.getD j 0)), none, none], [.inl (i : Int), .inr 196, .inl (j : Int), .inr 196], _)) rfl ?_
      refine b_ald (k := 196) (j := i) (a := c) okX8_goesDay rfl rfl (by omega) (by omega) (by omega) ?_
      refine b_ast (k := 196) (j := j) (a := c) okX8_goesDay rfl rfl (by omega) (by omega) (by omega) ?_
      refine b_cast (f' := (63, [some (.inr 192), some (.inl (i : Int)), some (.inl (j : Int)), some (.inl 1), some (.inl (c.getD j 0)), none, none], [], [A0, A1, A2, A3, A4, A5, (modSeg re k f (c.set j (c.getD i 0)) n kp l tp le la td kt sh so had gr fi se to (p : Int) t (d + 1) tl at_ sn him ik cu 0 st rm)])) rfl ?_
      refine aGo okX8_goesDay 1 (f' := (64, [some (.inr 192), some (.inl (i : Int)), some (.inl (j : Int)), some (.inl 1), some (.inl (c.getD j 0)), none, none], [.inr 192], _)) rfl ?_
      refine b_vE (as := []) (rest := []) (k := 192) okX8_goesDay rfl lkX8_202 caX8_findShares (Nat.le_of_ble_eq_true rfl) rfl (Nat.le_of_ble_eq_true rfl) rfl rfl rfl (c_findShares (gH_c (gH_of hb (by omega)) (by omega) (by omega))) ?_
      rintro _ _ ⟨rfl, sh2, q1, q2, rfl⟩
      refine aGo okX8_goesDay 1 (f' := (68, [some (.inr 192), some (.inl (i : Int)), some (.inl (j : Int)), some (.inl 1), some (.inl (c.getD j 0)), none, none], [.inl 1], _)) rfl ?_
      refine b0_eq (tgt := 79) okX8_goesDay rfl rfl ⟨by omega, by omega⟩ (fun h68 => absurd h68 (by omega)) (fun h68 => ?_)
      refine aGo okX8_goesDay 4 (f' := (78, [some (.inr 192), some (.inl (i : Int)), some (.inl (j : Int)), some (.inl 1), some (.inl (c.getD j 0)), none, none], [.inl (c.getD j 0), .inl (j : Int), .inr 196], _)) rfl ?_
      refine b_ast (k := 196) (j := j) (a := c.set j (c.getD i 0)) okX8_goesDay rfl rfl (by omega) (by rw [List.length_set]; omega) (by omega) ?_
      refine b_cast (f' := (79, [some (.inr 192), some (.inl (i : Int)), some (.inl (j : Int)), some (.inl 1), some (.inl (c.getD j 0)), none, none], [], [A0, A1, A2, A3, A4, A5, (modSeg re k f ((c.set j (c.getD i 0)).set j (c.getD j 0)) n kp l tp le la td kt sh2 so had gr fi se to (p : Int) t (d + 1) tl at_ sn him ik cu 0 st rm)])) rfl ?_
      refine b_cast (f' := (79, [some (.inr 192), some (.inl (i : Int)), some (.inl (j : Int)), some (.inl 1), some (.inl (c.getD j 0)), none, none], [], [A0, A1, A2, A3, A4, A5, (modSeg re k f c n kp l tp le la td kt sh2 so had gr fi se to (p : Int) t (d + 1) tl at_ sn him ik cu 0 st rm)])) (by rw [set_back (by omega)]) ?_
      refine aGo okX8_goesDay 5 (f' := (87, [some (.inr 192), some (.inl (i : Int)), some (.inl (j : Int)), some (.inl 1), some (.inl (c.getD j 0)), some (.inl 0), none], [], [A0, A1, A2, A3, A4, A5, (modSeg re k f c n kp l tp le la td kt sh2 so had gr fi se to (p : Int) t (d + 1) tl at_ sn him ik cu 0 0 rm)])) rfl ?_
      have e7 : visD c d i j = c.getD i 0 := if_pos (by omega)
      rw [← e7] at q2
      have lp : ∀ (j9 v : Nat), v + j9 = p → AW mX8_goesDay 6 0 0 N none (fun rv h => rv = none ∧ ∃ sh2 : List Int, sh2.length = 7 ∧ h = [A0, A1, A2, A3, A4, A5, (modSeg re k f c n (dayL p kp (fun q => shr p k f (c.set j (visD c d i j)) t q - net p l q) n) l tp le la td kt sh2 (soL (fun q => decide (dayV kp (fun q => shr p k f (c.set j (visD c d i j)) t q - net p l q) n q < 0)) so p) had gr fi se to (p : Int) t (d + 1) tl at_ sn him ik cu 0 (cntN p (fun q => decide (dayV kp (fun q => shr p k f (c.set j (visD c d i j)) t q - net p l q) n q < 0))) rm)]) (87, [some (.inr 192), some (.inl (i : Int)), some (.inl (j : Int)), some (.inl 1), some (.inl (c.getD j 0)), some (.inl (v : Int)), none], [], [A0, A1, A2, A3, A4, A5, (modSeg re k f c n (dayL v kp (fun q => shr p k f (c.set j (visD c d i j)) t q - net p l q) n) l tp le la td kt sh2 (soL (fun q => decide (dayV kp (fun q => shr p k f (c.set j (visD c d i j)) t q - net p l q) n q < 0)) so v) had gr fi se to (p : Int) t (d + 1) tl at_ sn him ik cu 0 (cntN v (fun q => decide (dayV kp (fun q => shr p k f (c.set j (visD c d i j)) t q - net p l q) n q < 0))) rm)]) := by
        intro j9
        induction j9 with
        | zero =>
          intro v  hij 
          obtain rfl : p = v := by omega
          refine aGo okX8_goesDay 3 (f' := (93, [some (.inr 192), some (.inl (i : Int)), some (.inl (j : Int)), some (.inl 1), some (.inl (c.getD j 0)), some (.inl (p : Int)), none], [.inl (p : Int), .inl (p : Int)], _)) rfl ?_
          refine b_ge (tgt := 197) okX8_goesDay rfl rfl ⟨by omega, by omega⟩ ⟨by omega, by omega⟩ (fun h93 => ?_) (fun h93 => absurd h93 (by omega))
          exact b_ret (v := none) ⟨rfl, rfl⟩ ⟨rfl, sh2, q1, rfl⟩ rfl
        | succ j9 ih =>
          intro v  hij 
          refine aGo okX8_goesDay 3 (f' := (93, [some (.inr 192), some (.inl (i : Int)), some (.inl (j : Int)), some (.inl 1), some (.inl (c.getD j 0)), some (.inl (v : Int)), none], [.inl (p : Int), .inl (v : Int)], _)) rfl ?_
          refine b_ge (tgt := 197) okX8_goesDay rfl rfl ⟨by omega, by omega⟩ ⟨by omega, by omega⟩ (fun h93 => absurd h93 (by omega)) (fun h93 => ?_)
          refine aGo okX8_goesDay 3 (f' := (102, [some (.inr 192), some (.inl (i : Int)), some (.inl (j : Int)), some (.inl 1), some (.inl (c.getD j 0)), some (.inl (v : Int)), none], [.inl (v : Int), .inr 198], _)) rfl ?_
          refine b_ald (k := 198) (j := v) (a := (dayL v kp (fun q => shr p k f (c.set j (visD c d i j)) t q - net p l q) n)) okX8_goesDay rfl rfl (by omega) (by rw [dayL_len]; omega) (by omega) ?_
          refine aGo okX8_goesDay 2 (f' := (106, [some (.inr 192), some (.inl (i : Int)), some (.inl (j : Int)), some (.inl 1), some (.inl (c.getD j 0)), some (.inl (v : Int)), none], [.inl (v : Int), .inr 192, .inl ((dayL v kp (fun q => shr p k f (c.set j (visD c d i j)) t q - net p l q) n).getD v 0)], _)) rfl ?_
          refine b_vV (as := [.inl (v : Int)]) (rest := [.inl ((dayL v kp (fun q => shr p k f (c.set j (visD c d i j)) t q - net p l q) n).getD v 0)]) (k := 192) (.inl ((sh2.getD v 0) - (net p l v))) okX8_goesDay rfl lkX8_208 caX8_hasNow (Nat.le_of_ble_eq_true rfl) rfl (Nat.le_of_ble_eq_true rfl) rfl rfl rfl (c_hasNow0 hp7 hl q1 (i := v) (by omega)) ?_
          refine aGo okX8_goesDay 4 (f' := (116, [some (.inr 192), some (.inl (i : Int)), some (.inl (j : Int)), some (.inl 1), some (.inl (c.getD j 0)), some (.inl (v : Int)), none], [.inl (v : Int), .inr 197, .inl (((dayL v kp (fun q => shr p k f (c.set j (visD c d i j)) t q - net p l q) n).getD v 0) + ((sh2.getD v 0) - (net p l v)))], _)) rfl ?_
          refine b_ald (k := 197) (j := v) (a := n) okX8_goesDay rfl rfl (by omega) (by omega) (by omega) ?_
          refine aGo okX8_goesDay 1 (f' := (118, [some (.inr 192), some (.inl (i : Int)), some (.inl (j : Int)), some (.inl 1), some (.inl (c.getD j 0)), some (.inl (v : Int)), none], [.inl ((((dayL v kp (fun q => shr p k f (c.set j (visD c d i j)) t q - net p l q) n).getD v 0) + ((sh2.getD v 0) - (net p l v))) - (n.getD v 0))], _)) rfl ?_
          refine b_cast (f' := (118, [some (.inr 192), some (.inl (i : Int)), some (.inl (j : Int)), some (.inl 1), some (.inl (c.getD j 0)), some (.inl (v : Int)), none], [.inl (dayV kp (fun q => shr p k f (c.set j (visD c d i j)) t q - net p l q) n v)], [A0, A1, A2, A3, A4, A5, (modSeg re k f c n (dayL v kp (fun q => shr p k f (c.set j (visD c d i j)) t q - net p l q) n) l tp le la td kt sh2 (soL (fun q => decide (dayV kp (fun q => shr p k f (c.set j (visD c d i j)) t q - net p l q) n q < 0)) so v) had gr fi se to (p : Int) t (d + 1) tl at_ sn him ik cu 0 (cntN v (fun q => decide (dayV kp (fun q => shr p k f (c.set j (visD c d i j)) t q - net p l q) n q < 0))) rm)])) (by rw [dayL_at (Nat.le_refl v), q2 v (by omega)]; rfl) ?_
          have e5 := hV v (by omega)
          refine aGo okX8_goesDay 5 (f' := (127, [some (.inr 192), some (.inl (i : Int)), some (.inl (j : Int)), some (.inl 1), some (.inl (c.getD j 0)), some (.inl (v : Int)), some (.inl (dayV kp (fun q => shr p k f (c.set j (visD c d i j)) t q - net p l q) n v))], [.inl (v : Int), .inr 206, .inl (v : Int), .inr 206], _)) rfl ?_
          refine b_ald (k := 206) (j := v) (a := (soL (fun q => decide (dayV kp (fun q => shr p k f (c.set j (visD c d i j)) t q - net p l q) n q < 0)) so v)) okX8_goesDay rfl rfl (by omega) (by rw [soL_len]; omega) (by omega) ?_
          refine aGo okX8_goesDay 1 (f' := (130, [some (.inr 192), some (.inl (i : Int)), some (.inl (j : Int)), some (.inl 1), some (.inl (c.getD j 0)), some (.inl (v : Int)), some (.inl (dayV kp (fun q => shr p k f (c.set j (visD c d i j)) t q - net p l q) n v))], [.inl (dayV kp (fun q => shr p k f (c.set j (visD c d i j)) t q - net p l q) n v), .inl ((soL (fun q => decide (dayV kp (fun q => shr p k f (c.set j (visD c d i j)) t q - net p l q) n q < 0)) so v).getD v 0), .inl (v : Int), .inr 206], _)) rfl ?_
          refine b0_ge (tgt := 137) okX8_goesDay rfl rfl ⟨by omega, by omega⟩ (fun h130 => ?_) (fun h130 => ?_)
          · refine aGo okX8_goesDay 2 (f' := (139, [some (.inr 192), some (.inl (i : Int)), some (.inl (j : Int)), some (.inl 1), some (.inl (c.getD j 0)), some (.inl (v : Int)), some (.inl (dayV kp (fun q => shr p k f (c.set j (visD c d i j)) t q - net p l q) n v))], [.inl (((soL (fun q => decide (dayV kp (fun q => shr p k f (c.set j (visD c d i j)) t q - net p l q) n q < 0)) so v).getD v 0) + 0), .inl (v : Int), .inr 206], _)) rfl ?_
            refine b_ast (k := 206) (j := v) (a := (soL (fun q => decide (dayV kp (fun q => shr p k f (c.set j (visD c d i j)) t q - net p l q) n q < 0)) so v)) okX8_goesDay rfl rfl (by omega) (by rw [soL_len]; omega) (by omega) ?_
            refine b_cast (f' := (140, [some (.inr 192), some (.inl (i : Int)), some (.inl (j : Int)), some (.inl 1), some (.inl (c.getD j 0)), some (.inl (v : Int)), some (.inl (dayV kp (fun q => shr p k f (c.set j (visD c d i j)) t q - net p l q) n v))], [], [A0, A1, A2, A3, A4, A5, (modSeg re k f c n (dayL v kp (fun q => shr p k f (c.set j (visD c d i j)) t q - net p l q) n) l tp le la td kt sh2 ((soL (fun q => decide (dayV kp (fun q => shr p k f (c.set j (visD c d i j)) t q - net p l q) n q < 0)) so v).set v (((soL (fun q => decide (dayV kp (fun q => shr p k f (c.set j (visD c d i j)) t q - net p l q) n q < 0)) so v).getD v 0) + 0)) had gr fi se to (p : Int) t (d + 1) tl at_ sn him ik cu 0 (cntN v (fun q => decide (dayV kp (fun q => shr p k f (c.set j (visD c d i j)) t q - net p l q) n q < 0))) rm)])) rfl ?_
            refine aGo okX8_goesDay 4 (f' := (147, [some (.inr 192), some (.inl (i : Int)), some (.inl (j : Int)), some (.inl 1), some (.inl (c.getD j 0)), some (.inl (v : Int)), some (.inl (dayV kp (fun q => shr p k f (c.set j (visD c d i j)) t q - net p l q) n v))], [.inl (dayV kp (fun q => shr p k f (c.set j (visD c d i j)) t q - net p l q) n v), .inl (cntN v (fun q => decide (dayV kp (fun q => shr p k f (c.set j (visD c d i j)) t q - net p l q) n q < 0))), .inr 192], _)) rfl ?_
            refine b0_ge (tgt := 154) okX8_goesDay rfl rfl ⟨by omega, by omega⟩ (fun h147 => ?_) (fun h147 => absurd h147 (by omega))
            refine aGo okX8_goesDay 7 (f' := (167, [some (.inr 192), some (.inl (i : Int)), some (.inl (j : Int)), some (.inl 1), some (.inl (c.getD j 0)), some (.inl (v : Int)), some (.inl (dayV kp (fun q => shr p k f (c.set j (visD c d i j)) t q - net p l q) n v))], [.inl (dayV kp (fun q => shr p k f (c.set j (visD c d i j)) t q - net p l q) n v), .inl (v : Int), .inr 198], [A0, A1, A2, A3, A4, A5, (modSeg re k f c n (dayL v kp (fun q => shr p k f (c.set j (visD c d i j)) t q - net p l q) n) l tp le la td kt sh2 ((soL (fun q => decide (dayV kp (fun q => shr p k f (c.set j (visD c d i j)) t q - net p l q) n q < 0)) so v).set v (((soL (fun q => decide (dayV kp (fun q => shr p k f (c.set j (visD c d i j)) t q - net p l q) n q < 0)) so v).getD v 0) + 0)) had gr fi se to (p : Int) t (d + 1) tl at_ sn him ik cu 0 ((cntN v (fun q => decide (dayV kp (fun q => shr p k f (c.set j (visD c d i j)) t q - net p l q) n q < 0))) + 0) rm)])) rfl ?_
            refine b0_ge (tgt := 174) okX8_goesDay rfl rfl ⟨by omega, by omega⟩ (fun h167 => ?_) (fun h167 => absurd h167 (by omega))
            refine aGo okX8_goesDay 2 (f' := (179, [some (.inr 192), some (.inl (i : Int)), some (.inl (j : Int)), some (.inl 1), some (.inl (c.getD j 0)), some (.inl (v : Int)), some (.inl (dayV kp (fun q => shr p k f (c.set j (visD c d i j)) t q - net p l q) n v))], [.inl 9999, .inl (dayV kp (fun q => shr p k f (c.set j (visD c d i j)) t q - net p l q) n v), .inl (v : Int), .inr 198], _)) rfl ?_
            refine b_le (tgt := 188) okX8_goesDay rfl rfl ⟨by omega, by omega⟩ ⟨by omega, by omega⟩ (fun h179 => ?_) (fun h179 => ?_)
            · refine aGo okX8_goesDay 1 (f' := (190, [some (.inr 192), some (.inl (i : Int)), some (.inl (j : Int)), some (.inl 1), some (.inl (c.getD j 0)), some (.inl (v : Int)), some (.inl (dayV kp (fun q => shr p k f (c.set j (visD c d i j)) t q - net p l q) n v))], [.inl (dayV kp (fun q => shr p k f (c.set j (visD c d i j)) t q - net p l q) n v), .inl (v : Int), .inr 198], _)) rfl ?_
              refine b_ast (k := 198) (j := v) (a := (dayL v kp (fun q => shr p k f (c.set j (visD c d i j)) t q - net p l q) n)) okX8_goesDay rfl rfl (by omega) (by rw [dayL_len]; omega) (by omega) ?_
              refine b_cast (f' := (191, [some (.inr 192), some (.inl (i : Int)), some (.inl (j : Int)), some (.inl 1), some (.inl (c.getD j 0)), some (.inl (v : Int)), some (.inl (dayV kp (fun q => shr p k f (c.set j (visD c d i j)) t q - net p l q) n v))], [], [A0, A1, A2, A3, A4, A5, (modSeg re k f c n ((dayL v kp (fun q => shr p k f (c.set j (visD c d i j)) t q - net p l q) n).set v (dayV kp (fun q => shr p k f (c.set j (visD c d i j)) t q - net p l q) n v)) l tp le la td kt sh2 ((soL (fun q => decide (dayV kp (fun q => shr p k f (c.set j (visD c d i j)) t q - net p l q) n q < 0)) so v).set v (((soL (fun q => decide (dayV kp (fun q => shr p k f (c.set j (visD c d i j)) t q - net p l q) n q < 0)) so v).getD v 0) + 0)) had gr fi se to (p : Int) t (d + 1) tl at_ sn him ik cu 0 ((cntN v (fun q => decide (dayV kp (fun q => shr p k f (c.set j (visD c d i j)) t q - net p l q) n q < 0))) + 0) rm)])) rfl ?_
              refine aGo okX8_goesDay 2 (f' := (87, [some (.inr 192), some (.inl (i : Int)), some (.inl (j : Int)), some (.inl 1), some (.inl (c.getD j 0)), some (.inl ((v : Int) + 1)), some (.inl (dayV kp (fun q => shr p k f (c.set j (visD c d i j)) t q - net p l q) n v))], [], _)) rfl ?_
              have e8 : dayL (v + 1) kp (fun q => shr p k f (c.set j (visD c d i j)) t q - net p l q) n = (dayL v kp (fun q => shr p k f (c.set j (visD c d i j)) t q - net p l q) n).set v (dayV kp (fun q => shr p k f (c.set j (visD c d i j)) t q - net p l q) n v) := congrArg (fun z : Int => (dayL v kp (fun q => shr p k f (c.set j (visD c d i j)) t q - net p l q) n).set v z) (by omega)
              refine b_cast (f' := (87, [some (.inr 192), some (.inl (i : Int)), some (.inl (j : Int)), some (.inl 1), some (.inl (c.getD j 0)), some (.inl ((v : Int) + 1)), some (.inl (dayV kp (fun q => shr p k f (c.set j (visD c d i j)) t q - net p l q) n v))], [], [A0, A1, A2, A3, A4, A5, (modSeg re k f c n (dayL (v + 1) kp (fun q => shr p k f (c.set j (visD c d i j)) t q - net p l q) n) l tp le la td kt sh2 (soL (fun q => decide (dayV kp (fun q => shr p k f (c.set j (visD c d i j)) t q - net p l q) n q < 0)) so (v + 1)) had gr fi se to (p : Int) t (d + 1) tl at_ sn him ik cu 0 (cntN (v + 1) (fun q => decide (dayV kp (fun q => shr p k f (c.set j (visD c d i j)) t q - net p l q) n q < 0))) rm)])) (by rw [e8, soL_f (P := (fun q => decide (dayV kp (fun q => shr p k f (c.set j (visD c d i j)) t q - net p l q) n q < 0))) (decide_eq_false (by omega)), cntN_f (P := (fun q => decide (dayV kp (fun q => shr p k f (c.set j (visD c d i j)) t q - net p l q) n q < 0))) (decide_eq_false (by omega))]) ?_
              refine b_lose (ls' := [some (.inr 192), some (.inl (i : Int)), some (.inl (j : Int)), some (.inl 1), some (.inl (c.getD j 0)), some (.inl ((v : Int) + 1)), none]) (lose6of7 _ _ _ _ _ _ _) ?_
              exact ih (v + 1) (by omega)
            · refine aGo okX8_goesDay 2 (f' := (190, [some (.inr 192), some (.inl (i : Int)), some (.inl (j : Int)), some (.inl 1), some (.inl (c.getD j 0)), some (.inl (v : Int)), some (.inl (dayV kp (fun q => shr p k f (c.set j (visD c d i j)) t q - net p l q) n v))], [.inl 9999, .inl (v : Int), .inr 198], _)) rfl ?_
              refine b_ast (k := 198) (j := v) (a := (dayL v kp (fun q => shr p k f (c.set j (visD c d i j)) t q - net p l q) n)) okX8_goesDay rfl rfl (by omega) (by rw [dayL_len]; omega) (by omega) ?_
              refine b_cast (f' := (191, [some (.inr 192), some (.inl (i : Int)), some (.inl (j : Int)), some (.inl 1), some (.inl (c.getD j 0)), some (.inl (v : Int)), some (.inl (dayV kp (fun q => shr p k f (c.set j (visD c d i j)) t q - net p l q) n v))], [], [A0, A1, A2, A3, A4, A5, (modSeg re k f c n ((dayL v kp (fun q => shr p k f (c.set j (visD c d i j)) t q - net p l q) n).set v 9999) l tp le la td kt sh2 ((soL (fun q => decide (dayV kp (fun q => shr p k f (c.set j (visD c d i j)) t q - net p l q) n q < 0)) so v).set v (((soL (fun q => decide (dayV kp (fun q => shr p k f (c.set j (visD c d i j)) t q - net p l q) n q < 0)) so v).getD v 0) + 0)) had gr fi se to (p : Int) t (d + 1) tl at_ sn him ik cu 0 ((cntN v (fun q => decide (dayV kp (fun q => shr p k f (c.set j (visD c d i j)) t q - net p l q) n q < 0))) + 0) rm)])) rfl ?_
              refine aGo okX8_goesDay 2 (f' := (87, [some (.inr 192), some (.inl (i : Int)), some (.inl (j : Int)), some (.inl 1), some (.inl (c.getD j 0)), some (.inl ((v : Int) + 1)), some (.inl (dayV kp (fun q => shr p k f (c.set j (visD c d i j)) t q - net p l q) n v))], [], _)) rfl ?_
              have e8 : dayL (v + 1) kp (fun q => shr p k f (c.set j (visD c d i j)) t q - net p l q) n = (dayL v kp (fun q => shr p k f (c.set j (visD c d i j)) t q - net p l q) n).set v 9999 := congrArg (fun z : Int => (dayL v kp (fun q => shr p k f (c.set j (visD c d i j)) t q - net p l q) n).set v z) (by omega)
              refine b_cast (f' := (87, [some (.inr 192), some (.inl (i : Int)), some (.inl (j : Int)), some (.inl 1), some (.inl (c.getD j 0)), some (.inl ((v : Int) + 1)), some (.inl (dayV kp (fun q => shr p k f (c.set j (visD c d i j)) t q - net p l q) n v))], [], [A0, A1, A2, A3, A4, A5, (modSeg re k f c n (dayL (v + 1) kp (fun q => shr p k f (c.set j (visD c d i j)) t q - net p l q) n) l tp le la td kt sh2 (soL (fun q => decide (dayV kp (fun q => shr p k f (c.set j (visD c d i j)) t q - net p l q) n q < 0)) so (v + 1)) had gr fi se to (p : Int) t (d + 1) tl at_ sn him ik cu 0 (cntN (v + 1) (fun q => decide (dayV kp (fun q => shr p k f (c.set j (visD c d i j)) t q - net p l q) n q < 0))) rm)])) (by rw [e8, soL_f (P := (fun q => decide (dayV kp (fun q => shr p k f (c.set j (visD c d i j)) t q - net p l q) n q < 0))) (decide_eq_false (by omega)), cntN_f (P := (fun q => decide (dayV kp (fun q => shr p k f (c.set j (visD c d i j)) t q - net p l q) n q < 0))) (decide_eq_false (by omega))]) ?_
              refine b_lose (ls' := [some (.inr 192), some (.inl (i : Int)), some (.inl (j : Int)), some (.inl 1), some (.inl (c.getD j 0)), some (.inl ((v : Int) + 1)), none]) (lose6of7 _ _ _ _ _ _ _) ?_
              exact ih (v + 1) (by omega)
          · refine aGo okX8_goesDay 3 (f' := (139, [some (.inr 192), some (.inl (i : Int)), some (.inl (j : Int)), some (.inl 1), some (.inl (c.getD j 0)), some (.inl (v : Int)), some (.inl (dayV kp (fun q => shr p k f (c.set j (visD c d i j)) t q - net p l q) n v))], [.inl (((soL (fun q => decide (dayV kp (fun q => shr p k f (c.set j (visD c d i j)) t q - net p l q) n q < 0)) so v).getD v 0) + 1), .inl (v : Int), .inr 206], _)) rfl ?_
            refine b_ast (k := 206) (j := v) (a := (soL (fun q => decide (dayV kp (fun q => shr p k f (c.set j (visD c d i j)) t q - net p l q) n q < 0)) so v)) okX8_goesDay rfl rfl (by omega) (by rw [soL_len]; omega) (by omega) ?_
            refine b_cast (f' := (140, [some (.inr 192), some (.inl (i : Int)), some (.inl (j : Int)), some (.inl 1), some (.inl (c.getD j 0)), some (.inl (v : Int)), some (.inl (dayV kp (fun q => shr p k f (c.set j (visD c d i j)) t q - net p l q) n v))], [], [A0, A1, A2, A3, A4, A5, (modSeg re k f c n (dayL v kp (fun q => shr p k f (c.set j (visD c d i j)) t q - net p l q) n) l tp le la td kt sh2 ((soL (fun q => decide (dayV kp (fun q => shr p k f (c.set j (visD c d i j)) t q - net p l q) n q < 0)) so v).set v (((soL (fun q => decide (dayV kp (fun q => shr p k f (c.set j (visD c d i j)) t q - net p l q) n q < 0)) so v).getD v 0) + 1)) had gr fi se to (p : Int) t (d + 1) tl at_ sn him ik cu 0 (cntN v (fun q => decide (dayV kp (fun q => shr p k f (c.set j (visD c d i j)) t q - net p l q) n q < 0))) rm)])) rfl ?_
            refine aGo okX8_goesDay 4 (f' := (147, [some (.inr 192), some (.inl (i : Int)), some (.inl (j : Int)), some (.inl 1), some (.inl (c.getD j 0)), some (.inl (v : Int)), some (.inl (dayV kp (fun q => shr p k f (c.set j (visD c d i j)) t q - net p l q) n v))], [.inl (dayV kp (fun q => shr p k f (c.set j (visD c d i j)) t q - net p l q) n v), .inl (cntN v (fun q => decide (dayV kp (fun q => shr p k f (c.set j (visD c d i j)) t q - net p l q) n q < 0))), .inr 192], _)) rfl ?_
            refine b0_ge (tgt := 154) okX8_goesDay rfl rfl ⟨by omega, by omega⟩ (fun h147 => absurd h147 (by omega)) (fun h147 => ?_)
            refine aGo okX8_goesDay 8 (f' := (167, [some (.inr 192), some (.inl (i : Int)), some (.inl (j : Int)), some (.inl 1), some (.inl (c.getD j 0)), some (.inl (v : Int)), some (.inl (dayV kp (fun q => shr p k f (c.set j (visD c d i j)) t q - net p l q) n v))], [.inl (dayV kp (fun q => shr p k f (c.set j (visD c d i j)) t q - net p l q) n v), .inl (v : Int), .inr 198], [A0, A1, A2, A3, A4, A5, (modSeg re k f c n (dayL v kp (fun q => shr p k f (c.set j (visD c d i j)) t q - net p l q) n) l tp le la td kt sh2 ((soL (fun q => decide (dayV kp (fun q => shr p k f (c.set j (visD c d i j)) t q - net p l q) n q < 0)) so v).set v (((soL (fun q => decide (dayV kp (fun q => shr p k f (c.set j (visD c d i j)) t q - net p l q) n q < 0)) so v).getD v 0) + 1)) had gr fi se to (p : Int) t (d + 1) tl at_ sn him ik cu 0 ((cntN v (fun q => decide (dayV kp (fun q => shr p k f (c.set j (visD c d i j)) t q - net p l q) n q < 0))) + 1) rm)])) rfl ?_
            refine b0_ge (tgt := 174) okX8_goesDay rfl rfl ⟨by omega, by omega⟩ (fun h167 => absurd h167 (by omega)) (fun h167 => ?_)
            refine aGo okX8_goesDay 2 (f' := (190, [some (.inr 192), some (.inl (i : Int)), some (.inl (j : Int)), some (.inl 1), some (.inl (c.getD j 0)), some (.inl (v : Int)), some (.inl (dayV kp (fun q => shr p k f (c.set j (visD c d i j)) t q - net p l q) n v))], [.inl 0, .inl (v : Int), .inr 198], _)) rfl ?_
            refine b_ast (k := 198) (j := v) (a := (dayL v kp (fun q => shr p k f (c.set j (visD c d i j)) t q - net p l q) n)) okX8_goesDay rfl rfl (by omega) (by rw [dayL_len]; omega) (by omega) ?_
            refine b_cast (f' := (191, [some (.inr 192), some (.inl (i : Int)), some (.inl (j : Int)), some (.inl 1), some (.inl (c.getD j 0)), some (.inl (v : Int)), some (.inl (dayV kp (fun q => shr p k f (c.set j (visD c d i j)) t q - net p l q) n v))], [], [A0, A1, A2, A3, A4, A5, (modSeg re k f c n ((dayL v kp (fun q => shr p k f (c.set j (visD c d i j)) t q - net p l q) n).set v 0) l tp le la td kt sh2 ((soL (fun q => decide (dayV kp (fun q => shr p k f (c.set j (visD c d i j)) t q - net p l q) n q < 0)) so v).set v (((soL (fun q => decide (dayV kp (fun q => shr p k f (c.set j (visD c d i j)) t q - net p l q) n q < 0)) so v).getD v 0) + 1)) had gr fi se to (p : Int) t (d + 1) tl at_ sn him ik cu 0 ((cntN v (fun q => decide (dayV kp (fun q => shr p k f (c.set j (visD c d i j)) t q - net p l q) n q < 0))) + 1) rm)])) rfl ?_
            refine aGo okX8_goesDay 2 (f' := (87, [some (.inr 192), some (.inl (i : Int)), some (.inl (j : Int)), some (.inl 1), some (.inl (c.getD j 0)), some (.inl ((v : Int) + 1)), some (.inl (dayV kp (fun q => shr p k f (c.set j (visD c d i j)) t q - net p l q) n v))], [], _)) rfl ?_
            have e8 : dayL (v + 1) kp (fun q => shr p k f (c.set j (visD c d i j)) t q - net p l q) n = (dayL v kp (fun q => shr p k f (c.set j (visD c d i j)) t q - net p l q) n).set v 0 := congrArg (fun z : Int => (dayL v kp (fun q => shr p k f (c.set j (visD c d i j)) t q - net p l q) n).set v z) (by omega)
            refine b_cast (f' := (87, [some (.inr 192), some (.inl (i : Int)), some (.inl (j : Int)), some (.inl 1), some (.inl (c.getD j 0)), some (.inl ((v : Int) + 1)), some (.inl (dayV kp (fun q => shr p k f (c.set j (visD c d i j)) t q - net p l q) n v))], [], [A0, A1, A2, A3, A4, A5, (modSeg re k f c n (dayL (v + 1) kp (fun q => shr p k f (c.set j (visD c d i j)) t q - net p l q) n) l tp le la td kt sh2 (soL (fun q => decide (dayV kp (fun q => shr p k f (c.set j (visD c d i j)) t q - net p l q) n q < 0)) so (v + 1)) had gr fi se to (p : Int) t (d + 1) tl at_ sn him ik cu 0 (cntN (v + 1) (fun q => decide (dayV kp (fun q => shr p k f (c.set j (visD c d i j)) t q - net p l q) n q < 0))) rm)])) (by rw [e8, soL_t (P := (fun q => decide (dayV kp (fun q => shr p k f (c.set j (visD c d i j)) t q - net p l q) n q < 0))) (decide_eq_true (by omega)), cntN_t (P := (fun q => decide (dayV kp (fun q => shr p k f (c.set j (visD c d i j)) t q - net p l q) n q < 0))) (decide_eq_true (by omega))]) ?_
            refine b_lose (ls' := [some (.inr 192), some (.inl (i : Int)), some (.inl (j : Int)), some (.inl 1), some (.inl (c.getD j 0)), some (.inl ((v : Int) + 1)), none]) (lose6of7 _ _ _ _ _ _ _) ?_
            exact ih (v + 1) (by omega)
      exact lp p 0 (by omega)
set_option maxRecDepth 100000 in
set_option maxHeartbeats 4000000 in
theorem c_keep_k {u : Nat} (hkt : kt.length = 270) (hl0 : k.length = 7) (hu : u + 7 ≤ 270) : aEv mX8_passes 0 0 0 N [.inr 192, .inr 194] [A0, A1, A2, A3, A4, A5, (modSeg re k f c n kp l tp le la td kt sh so had gr fi se to (p : Int) t d tl at_ sn him 1 (u : Int) ou st rm)] ((aQx (none) [A0, A1, A2, A3, A4, A5, (modSeg re k f c n kp l tp le la td (wrL kt k u 7) sh so had gr fi se to (p : Int) t d tl at_ sn him 1 (((u + 7) : Nat) : Int) ou st rm)])) := by
  refine aEv_of okX8_passes caX8_passes (Nat.le_of_ble_eq_true rfl) ?_
  have lp : ∀ (j v : Nat), v + j = 7 → AW mX8_passes 0 0 0 N none (aQx (none) [A0, A1, A2, A3, A4, A5, (modSeg re k f c n kp l tp le la td (wrL kt k u 7) sh so had gr fi se to (p : Int) t d tl at_ sn him 1 (((u + 7) : Nat) : Int) ou st rm)]) (2, [some (.inr 192), some (.inr 194), some (.inl (v : Int))], [], [A0, A1, A2, A3, A4, A5, (modSeg re k f c n kp l tp le la td (wrL kt k u v) sh so had gr fi se to (p : Int) t d tl at_ sn him 1 (((u + v) : Nat) : Int) ou st rm)]) := by
    intro j
    induction j with
    | zero =>
      intro v  hij 
      obtain rfl : 7 = v := by omega
      refine aGo okX8_passes 3 (f' := (5, [some (.inr 192), some (.inr 194), some (.inl (7 : Int))], [.inl (k.length : Int), .inl (7 : Int)], _)) rfl ?_
      refine b_ge (tgt := 58) okX8_passes rfl rfl ⟨by omega, by omega⟩ ⟨by omega, by omega⟩ (fun h5 => ?_) (fun h5 => absurd h5 (by omega))
      exact b_ret (v := none) ⟨rfl, rfl⟩ ⟨rfl, rfl⟩ rfl
    | succ j ih =>
      intro v  hij 
      refine aGo okX8_passes 3 (f' := (5, [some (.inr 192), some (.inr 194), some (.inl (v : Int))], [.inl (k.length : Int), .inl (v : Int)], _)) rfl ?_
      refine b_ge (tgt := 58) okX8_passes rfl rfl ⟨by omega, by omega⟩ ⟨by omega, by omega⟩ (fun h5 => absurd h5 (by omega)) (fun h5 => ?_)
      refine aGo okX8_passes 2 (f' := (12, [some (.inr 192), some (.inr 194), some (.inl (v : Int))], [.inl 1], _)) rfl ?_
      refine b0_eq (tgt := 30) okX8_passes rfl rfl ⟨by omega, by omega⟩ (fun h12 => absurd h12 (by omega)) (fun h12 => ?_)
      refine aGo okX8_passes 6 (f' := (25, [some (.inr 192), some (.inr 194), some (.inl (v : Int))], [.inl (v : Int), .inr 194, .inl (((u + v) : Nat) : Int), .inr 204], _)) rfl ?_
      refine b_ald (k := 194) (j := v) (a := k) okX8_passes rfl rfl (by omega) (by omega) (by omega) ?_
      refine b_ast (k := 204) (j := (u + v)) (a := (wrL kt k u v)) okX8_passes rfl rfl (by omega) (by rw [wrL_len]; omega) (by omega) ?_
      refine b_cast (f' := (27, [some (.inr 192), some (.inr 194), some (.inl (v : Int))], [], [A0, A1, A2, A3, A4, A5, (modSeg re k f c n kp l tp le la td ((wrL kt k u v).set (u + v) (k.getD v 0)) sh so had gr fi se to (p : Int) t d tl at_ sn him 1 (((u + v) : Nat) : Int) ou st rm)])) rfl ?_
      refine aGo okX8_passes 9 (f' := (2, [some (.inr 192), some (.inr 194), some (.inl ((v : Int) + 1))], [], [A0, A1, A2, A3, A4, A5, (modSeg re k f c n kp l tp le la td ((wrL kt k u v).set (u + v) (k.getD v 0)) sh so had gr fi se to (p : Int) t d tl at_ sn him 1 ((((u + v) : Nat) : Int) + 1) ou st rm)])) rfl ?_
      exact ih (v + 1) (by omega)
  refine aGo okX8_passes 2 (f' := (2, [some (.inr 192), some (.inr 194), some (.inl 0)], [], _)) rfl ?_
  exact lp 7 0 (by omega)
set_option maxRecDepth 100000 in
set_option maxHeartbeats 4000000 in
theorem c_back_k {u : Nat} (hkt : kt.length = 270) (hl0 : k.length = 7) (hu : u + 7 ≤ 270) : aEv mX8_passes 0 0 0 N [.inr 192, .inr 194] [A0, A1, A2, A3, A4, A5, (modSeg re k f c n kp l tp le la td kt sh so had gr fi se to (p : Int) t d tl at_ sn him 0 (u : Int) ou st rm)] ((aQx (none) [A0, A1, A2, A3, A4, A5, (modSeg re (rdL k kt u 7) f c n kp l tp le la td kt sh so had gr fi se to (p : Int) t d tl at_ sn him 0 (((u + 7) : Nat) : Int) ou st rm)])) := by
  refine aEv_of okX8_passes caX8_passes (Nat.le_of_ble_eq_true rfl) ?_
  have lp : ∀ (j v : Nat), v + j = 7 → AW mX8_passes 0 0 0 N none (aQx (none) [A0, A1, A2, A3, A4, A5, (modSeg re (rdL k kt u 7) f c n kp l tp le la td kt sh so had gr fi se to (p : Int) t d tl at_ sn him 0 (((u + 7) : Nat) : Int) ou st rm)]) (2, [some (.inr 192), some (.inr 194), some (.inl (v : Int))], [], [A0, A1, A2, A3, A4, A5, (modSeg re (rdL k kt u v) f c n kp l tp le la td kt sh so had gr fi se to (p : Int) t d tl at_ sn him 0 (((u + v) : Nat) : Int) ou st rm)]) := by
    intro j
    induction j with
    | zero =>
      intro v  hij 
      obtain rfl : 7 = v := by omega
      have e1 : (rdL k kt u 7).length = 7 := by rw [rdL_len]; omega
      refine aGo okX8_passes 3 (f' := (5, [some (.inr 192), some (.inr 194), some (.inl (7 : Int))], [.inl ((rdL k kt u 7).length : Int), .inl (7 : Int)], _)) rfl ?_
      refine b_ge (tgt := 58) okX8_passes rfl rfl ⟨by omega, by omega⟩ ⟨by omega, by omega⟩ (fun h5 => ?_) (fun h5 => absurd h5 (by omega))
      exact b_ret (v := none) ⟨rfl, rfl⟩ ⟨rfl, rfl⟩ rfl
    | succ j ih =>
      intro v  hij 
      have e1 : (rdL k kt u v).length = 7 := by rw [rdL_len]; omega
      refine aGo okX8_passes 3 (f' := (5, [some (.inr 192), some (.inr 194), some (.inl (v : Int))], [.inl ((rdL k kt u v).length : Int), .inl (v : Int)], _)) rfl ?_
      refine b_ge (tgt := 58) okX8_passes rfl rfl ⟨by omega, by omega⟩ ⟨by omega, by omega⟩ (fun h5 => absurd h5 (by omega)) (fun h5 => ?_)
      refine aGo okX8_passes 2 (f' := (12, [some (.inr 192), some (.inr 194), some (.inl (v : Int))], [.inl 0], _)) rfl ?_
      refine b0_eq (tgt := 30) okX8_passes rfl rfl ⟨by omega, by omega⟩ (fun h12 => ?_) (fun h12 => absurd h12 (by omega))
      refine aGo okX8_passes 6 (f' := (40, [some (.inr 192), some (.inr 194), some (.inl (v : Int))], [.inl (((u + v) : Nat) : Int), .inr 204, .inl (v : Int), .inr 194], _)) rfl ?_
      refine b_ald (k := 204) (j := (u + v)) (a := kt) okX8_passes rfl rfl (by omega) (by omega) (by omega) ?_
      refine b_ast (k := 194) (j := v) (a := (rdL k kt u v)) okX8_passes rfl rfl (by omega) (by omega) (by omega) ?_
      refine b_cast (f' := (42, [some (.inr 192), some (.inr 194), some (.inl (v : Int))], [], [A0, A1, A2, A3, A4, A5, (modSeg re ((rdL k kt u v).set v (kt.getD (u + v) 0)) f c n kp l tp le la td kt sh so had gr fi se to (p : Int) t d tl at_ sn him 0 (((u + v) : Nat) : Int) ou st rm)])) rfl ?_
      refine aGo okX8_passes 8 (f' := (2, [some (.inr 192), some (.inr 194), some (.inl ((v : Int) + 1))], [], [A0, A1, A2, A3, A4, A5, (modSeg re ((rdL k kt u v).set v (kt.getD (u + v) 0)) f c n kp l tp le la td kt sh so had gr fi se to (p : Int) t d tl at_ sn him 0 ((((u + v) : Nat) : Int) + 1) ou st rm)])) rfl ?_
      exact ih (v + 1) (by omega)
  refine aGo okX8_passes 2 (f' := (2, [some (.inr 192), some (.inr 194), some (.inl 0)], [], _)) rfl ?_
  exact lp 7 0 (by omega)
set_option maxRecDepth 100000 in
set_option maxHeartbeats 4000000 in
theorem c_keep_f {u : Nat} (hkt : kt.length = 270) (hl0 : f.length = 7) (hu : u + 7 ≤ 270) : aEv mX8_passes 0 0 0 N [.inr 192, .inr 195] [A0, A1, A2, A3, A4, A5, (modSeg re k f c n kp l tp le la td kt sh so had gr fi se to (p : Int) t d tl at_ sn him 1 (u : Int) ou st rm)] ((aQx (none) [A0, A1, A2, A3, A4, A5, (modSeg re k f c n kp l tp le la td (wrL kt f u 7) sh so had gr fi se to (p : Int) t d tl at_ sn him 1 (((u + 7) : Nat) : Int) ou st rm)])) := by
  refine aEv_of okX8_passes caX8_passes (Nat.le_of_ble_eq_true rfl) ?_
  have lp : ∀ (j v : Nat), v + j = 7 → AW mX8_passes 0 0 0 N none (aQx (none) [A0, A1, A2, A3, A4, A5, (modSeg re k f c n kp l tp le la td (wrL kt f u 7) sh so had gr fi se to (p : Int) t d tl at_ sn him 1 (((u + 7) : Nat) : Int) ou st rm)]) (2, [some (.inr 192), some (.inr 195), some (.inl (v : Int))], [], [A0, A1, A2, A3, A4, A5, (modSeg re k f c n kp l tp le la td (wrL kt f u v) sh so had gr fi se to (p : Int) t d tl at_ sn him 1 (((u + v) : Nat) : Int) ou st rm)]) := by
    intro j
    induction j with
    | zero =>
      intro v  hij 
      obtain rfl : 7 = v := by omega
      refine aGo okX8_passes 3 (f' := (5, [some (.inr 192), some (.inr 195), some (.inl (7 : Int))], [.inl (f.length : Int), .inl (7 : Int)], _)) rfl ?_
      refine b_ge (tgt := 58) okX8_passes rfl rfl ⟨by omega, by omega⟩ ⟨by omega, by omega⟩ (fun h5 => ?_) (fun h5 => absurd h5 (by omega))
      exact b_ret (v := none) ⟨rfl, rfl⟩ ⟨rfl, rfl⟩ rfl
    | succ j ih =>
      intro v  hij 
      refine aGo okX8_passes 3 (f' := (5, [some (.inr 192), some (.inr 195), some (.inl (v : Int))], [.inl (f.length : Int), .inl (v : Int)], _)) rfl ?_
      refine b_ge (tgt := 58) okX8_passes rfl rfl ⟨by omega, by omega⟩ ⟨by omega, by omega⟩ (fun h5 => absurd h5 (by omega)) (fun h5 => ?_)
      refine aGo okX8_passes 2 (f' := (12, [some (.inr 192), some (.inr 195), some (.inl (v : Int))], [.inl 1], _)) rfl ?_
      refine b0_eq (tgt := 30) okX8_passes rfl rfl ⟨by omega, by omega⟩ (fun h12 => absurd h12 (by omega)) (fun h12 => ?_)
      refine aGo okX8_passes 6 (f' := (25, [some (.inr 192), some (.inr 195), some (.inl (v : Int))], [.inl (v : Int), .inr 195, .inl (((u + v) : Nat) : Int), .inr 204], _)) rfl ?_
      refine b_ald (k := 195) (j := v) (a := f) okX8_passes rfl rfl (by omega) (by omega) (by omega) ?_
      refine b_ast (k := 204) (j := (u + v)) (a := (wrL kt f u v)) okX8_passes rfl rfl (by omega) (by rw [wrL_len]; omega) (by omega) ?_
      refine b_cast (f' := (27, [some (.inr 192), some (.inr 195), some (.inl (v : Int))], [], [A0, A1, A2, A3, A4, A5, (modSeg re k f c n kp l tp le la td ((wrL kt f u v).set (u + v) (f.getD v 0)) sh so had gr fi se to (p : Int) t d tl at_ sn him 1 (((u + v) : Nat) : Int) ou st rm)])) rfl ?_
      refine aGo okX8_passes 9 (f' := (2, [some (.inr 192), some (.inr 195), some (.inl ((v : Int) + 1))], [], [A0, A1, A2, A3, A4, A5, (modSeg re k f c n kp l tp le la td ((wrL kt f u v).set (u + v) (f.getD v 0)) sh so had gr fi se to (p : Int) t d tl at_ sn him 1 ((((u + v) : Nat) : Int) + 1) ou st rm)])) rfl ?_
      exact ih (v + 1) (by omega)
  refine aGo okX8_passes 2 (f' := (2, [some (.inr 192), some (.inr 195), some (.inl 0)], [], _)) rfl ?_
  exact lp 7 0 (by omega)
set_option maxRecDepth 100000 in
set_option maxHeartbeats 4000000 in
theorem c_back_f {u : Nat} (hkt : kt.length = 270) (hl0 : f.length = 7) (hu : u + 7 ≤ 270) : aEv mX8_passes 0 0 0 N [.inr 192, .inr 195] [A0, A1, A2, A3, A4, A5, (modSeg re k f c n kp l tp le la td kt sh so had gr fi se to (p : Int) t d tl at_ sn him 0 (u : Int) ou st rm)] ((aQx (none) [A0, A1, A2, A3, A4, A5, (modSeg re k (rdL f kt u 7) c n kp l tp le la td kt sh so had gr fi se to (p : Int) t d tl at_ sn him 0 (((u + 7) : Nat) : Int) ou st rm)])) := by
  refine aEv_of okX8_passes caX8_passes (Nat.le_of_ble_eq_true rfl) ?_
  have lp : ∀ (j v : Nat), v + j = 7 → AW mX8_passes 0 0 0 N none (aQx (none) [A0, A1, A2, A3, A4, A5, (modSeg re k (rdL f kt u 7) c n kp l tp le la td kt sh so had gr fi se to (p : Int) t d tl at_ sn him 0 (((u + 7) : Nat) : Int) ou st rm)]) (2, [some (.inr 192), some (.inr 195), some (.inl (v : Int))], [], [A0, A1, A2, A3, A4, A5, (modSeg re k (rdL f kt u v) c n kp l tp le la td kt sh so had gr fi se to (p : Int) t d tl at_ sn him 0 (((u + v) : Nat) : Int) ou st rm)]) := by
    intro j
    induction j with
    | zero =>
      intro v  hij 
      obtain rfl : 7 = v := by omega
      have e1 : (rdL f kt u 7).length = 7 := by rw [rdL_len]; omega
      refine aGo okX8_passes 3 (f' := (5, [some (.inr 192), some (.inr 195), some (.inl (7 : Int))], [.inl ((rdL f kt u 7).length : Int), .inl (7 : Int)], _)) rfl ?_
      refine b_ge (tgt := 58) okX8_passes rfl rfl ⟨by omega, by omega⟩ ⟨by omega, by omega⟩ (fun h5 => ?_) (fun h5 => absurd h5 (by omega))
      exact b_ret (v := none) ⟨rfl, rfl⟩ ⟨rfl, rfl⟩ rfl
    | succ j ih =>
      intro v  hij 
      have e1 : (rdL f kt u v).length = 7 := by rw [rdL_len]; omega
      refine aGo okX8_passes 3 (f' := (5, [some (.inr 192), some (.inr 195), some (.inl (v : Int))], [.inl ((rdL f kt u v).length : Int), .inl (v : Int)], _)) rfl ?_
      refine b_ge (tgt := 58) okX8_passes rfl rfl ⟨by omega, by omega⟩ ⟨by omega, by omega⟩ (fun h5 => absurd h5 (by omega)) (fun h5 => ?_)
      refine aGo okX8_passes 2 (f' := (12, [some (.inr 192), some (.inr 195), some (.inl (v : Int))], [.inl 0], _)) rfl ?_
      refine b0_eq (tgt := 30) okX8_passes rfl rfl ⟨by omega, by omega⟩ (fun h12 => ?_) (fun h12 => absurd h12 (by omega))
      refine aGo okX8_passes 6 (f' := (40, [some (.inr 192), some (.inr 195), some (.inl (v : Int))], [.inl (((u + v) : Nat) : Int), .inr 204, .inl (v : Int), .inr 195], _)) rfl ?_
      refine b_ald (k := 204) (j := (u + v)) (a := kt) okX8_passes rfl rfl (by omega) (by omega) (by omega) ?_
      refine b_ast (k := 195) (j := v) (a := (rdL f kt u v)) okX8_passes rfl rfl (by omega) (by omega) (by omega) ?_
      refine b_cast (f' := (42, [some (.inr 192), some (.inr 195), some (.inl (v : Int))], [], [A0, A1, A2, A3, A4, A5, (modSeg re k ((rdL f kt u v).set v (kt.getD (u + v) 0)) c n kp l tp le la td kt sh so had gr fi se to (p : Int) t d tl at_ sn him 0 (((u + v) : Nat) : Int) ou st rm)])) rfl ?_
      refine aGo okX8_passes 8 (f' := (2, [some (.inr 192), some (.inr 195), some (.inl ((v : Int) + 1))], [], [A0, A1, A2, A3, A4, A5, (modSeg re k ((rdL f kt u v).set v (kt.getD (u + v) 0)) c n kp l tp le la td kt sh so had gr fi se to (p : Int) t d tl at_ sn him 0 ((((u + v) : Nat) : Int) + 1) ou st rm)])) rfl ?_
      exact ih (v + 1) (by omega)
  refine aGo okX8_passes 2 (f' := (2, [some (.inr 192), some (.inr 195), some (.inl 0)], [], _)) rfl ?_
  exact lp 7 0 (by omega)
set_option maxRecDepth 100000 in
set_option maxHeartbeats 4000000 in
theorem c_keep_c {u : Nat} (hkt : kt.length = 270) (hl0 : c.length = 7) (hu : u + 7 ≤ 270) : aEv mX8_passes 0 0 0 N [.inr 192, .inr 196] [A0, A1, A2, A3, A4, A5, (modSeg re k f c n kp l tp le la td kt sh so had gr fi se to (p : Int) t d tl at_ sn him 1 (u : Int) ou st rm)] ((aQx (none) [A0, A1, A2, A3, A4, A5, (modSeg re k f c n kp l tp le la td (wrL kt c u 7) sh so had gr fi se to (p : Int) t d tl at_ sn him 1 (((u + 7) : Nat) : Int) ou st rm)])) := by
  refine aEv_of okX8_passes caX8_passes (Nat.le_of_ble_eq_true rfl) ?_
  have lp : ∀ (j v : Nat), v + j = 7 → AW mX8_passes 0 0 0 N none (aQx (none) [A0, A1, A2, A3, A4, A5, (modSeg re k f c n kp l tp le la td (wrL kt c u 7) sh so had gr fi se to (p : Int) t d tl at_ sn him 1 (((u + 7) : Nat) : Int) ou st rm)]) (2, [some (.inr 192), some (.inr 196), some (.inl (v : Int))], [], [A0, A1, A2, A3, A4, A5, (modSeg re k f c n kp l tp le la td (wrL kt c u v) sh so had gr fi se to (p : Int) t d tl at_ sn him 1 (((u + v) : Nat) : Int) ou st rm)]) := by
    intro j
    induction j with
    | zero =>
      intro v  hij 
      obtain rfl : 7 = v := by omega
      refine aGo okX8_passes 3 (f' := (5, [some (.inr 192), some (.inr 196), some (.inl (7 : Int))], [.inl (c.length : Int), .inl (7 : Int)], _)) rfl ?_
      refine b_ge (tgt := 58) okX8_passes rfl rfl ⟨by omega, by omega⟩ ⟨by omega, by omega⟩ (fun h5 => ?_) (fun h5 => absurd h5 (by omega))
      exact b_ret (v := none) ⟨rfl, rfl⟩ ⟨rfl, rfl⟩ rfl
    | succ j ih =>
      intro v  hij 
      refine aGo okX8_passes 3 (f' := (5, [some (.inr 192), some (.inr 196), some (.inl (v : Int))], [.inl (c.length : Int), .inl (v : Int)], _)) rfl ?_
      refine b_ge (tgt := 58) okX8_passes rfl rfl ⟨by omega, by omega⟩ ⟨by omega, by omega⟩ (fun h5 => absurd h5 (by omega)) (fun h5 => ?_)
      refine aGo okX8_passes 2 (f' := (12, [some (.inr 192), some (.inr 196), some (.inl (v : Int))], [.inl 1], _)) rfl ?_
      refine b0_eq (tgt := 30) okX8_passes rfl rfl ⟨by omega, by omega⟩ (fun h12 => absurd h12 (by omega)) (fun h12 => ?_)
      refine aGo okX8_passes 6 (f' := (25, [some (.inr 192), some (.inr 196), some (.inl (v : Int))], [.inl (v : Int), .inr 196, .inl (((u + v) : Nat) : Int), .inr 204], _)) rfl ?_
      refine b_ald (k := 196) (j := v) (a := c) okX8_passes rfl rfl (by omega) (by omega) (by omega) ?_
      refine b_ast (k := 204) (j := (u + v)) (a := (wrL kt c u v)) okX8_passes rfl rfl (by omega) (by rw [wrL_len]; omega) (by omega) ?_
      refine b_cast (f' := (27, [some (.inr 192), some (.inr 196), some (.inl (v : Int))], [], [A0, A1, A2, A3, A4, A5, (modSeg re k f c n kp l tp le la td ((wrL kt c u v).set (u + v) (c.getD v 0)) sh so had gr fi se to (p : Int) t d tl at_ sn him 1 (((u + v) : Nat) : Int) ou st rm)])) rfl ?_
      refine aGo okX8_passes 9 (f' := (2, [some (.inr 192), some (.inr 196), some (.inl ((v : Int) + 1))], [], [A0, A1, A2, A3, A4, A5, (modSeg re k f c n kp l tp le la td ((wrL kt c u v).set (u + v) (c.getD v 0)) sh so had gr fi se to (p : Int) t d tl at_ sn him 1 ((((u + v) : Nat) : Int) + 1) ou st rm)])) rfl ?_
      exact ih (v + 1) (by omega)
  refine aGo okX8_passes 2 (f' := (2, [some (.inr 192), some (.inr 196), some (.inl 0)], [], _)) rfl ?_
  exact lp 7 0 (by omega)
set_option maxRecDepth 100000 in
set_option maxHeartbeats 4000000 in
theorem c_back_c {u : Nat} (hkt : kt.length = 270) (hl0 : c.length = 7) (hu : u + 7 ≤ 270) : aEv mX8_passes 0 0 0 N [.inr 192, .inr 196] [A0, A1, A2, A3, A4, A5, (modSeg re k f c n kp l tp le la td kt sh so had gr fi se to (p : Int) t d tl at_ sn him 0 (u : Int) ou st rm)] ((aQx (none) [A0, A1, A2, A3, A4, A5, (modSeg re k f (rdL c kt u 7) n kp l tp le la td kt sh so had gr fi se to (p : Int) t d tl at_ sn him 0 (((u + 7) : Nat) : Int) ou st rm)])) := by
  refine aEv_of okX8_passes caX8_passes (Nat.le_of_ble_eq_true rfl) ?_
  have lp : ∀ (j v : Nat), v + j = 7 → AW mX8_passes 0 0 0 N none (aQx (none) [A0, A1, A2, A3, A4, A5, (modSeg re k f (rdL c kt u 7) n kp l tp le la td kt sh so had gr fi se to (p : Int) t d tl at_ sn him 0 (((u + 7) : Nat) : Int) ou st rm)]) (2, [some (.inr 192), some (.inr 196), some (.inl (v : Int))], [], [A0, A1, A2, A3, A4, A5, (modSeg re k f (rdL c kt u v) n kp l tp le la td kt sh so had gr fi se to (p : Int) t d tl at_ sn him 0 (((u + v) : Nat) : Int) ou st rm)]) := by
    intro j
    induction j with
    | zero =>
      intro v  hij 
      obtain rfl : 7 = v := by omega
      have e1 : (rdL c kt u 7).length = 7 := by rw [rdL_len]; omega
      refine aGo okX8_passes 3 (f' := (5, [some (.inr 192), some (.inr 196), some (.inl (7 : Int))], [.inl ((rdL c kt u 7).length : Int), .inl (7 : Int)], _)) rfl ?_
      refine b_ge (tgt := 58) okX8_passes rfl rfl ⟨by omega, by omega⟩ ⟨by omega, by omega⟩ (fun h5 => ?_) (fun h5 => absurd h5 (by omega))
      exact b_ret (v := none) ⟨rfl, rfl⟩ ⟨rfl, rfl⟩ rfl
    | succ j ih =>
      intro v  hij 
      have e1 : (rdL c kt u v).length = 7 := by rw [rdL_len]; omega
      refine aGo okX8_passes 3 (f' := (5, [some (.inr 192), some (.inr 196), some (.inl (v : Int))], [.inl ((rdL c kt u v).length : Int), .inl (v : Int)], _)) rfl ?_
      refine b_ge (tgt := 58) okX8_passes rfl rfl ⟨by omega, by omega⟩ ⟨by omega, by omega⟩ (fun h5 => absurd h5 (by omega)) (fun h5 => ?_)
      refine aGo okX8_passes 2 (f' := (12, [some (.inr 192), some (.inr 196), some (.inl (v : Int))], [.inl 0], _)) rfl ?_
      refine b0_eq (tgt := 30) okX8_passes rfl rfl ⟨by omega, by omega⟩ (fun h12 => ?_) (fun h12 => absurd h12 (by omega))
      refine aGo okX8_passes 6 (f' := (40, [some (.inr 192), some (.inr 196), some (.inl (v : Int))], [.inl (((u + v) : Nat) : Int), .inr 204, .inl (v : Int), .inr 196], _)) rfl ?_
      refine b_ald (k := 204) (j := (u + v)) (a := kt) okX8_passes rfl rfl (by omega) (by omega) (by omega) ?_
      refine b_ast (k := 196) (j := v) (a := (rdL c kt u v)) okX8_passes rfl rfl (by omega) (by omega) (by omega) ?_
      refine b_cast (f' := (42, [some (.inr 192), some (.inr 196), some (.inl (v : Int))], [], [A0, A1, A2, A3, A4, A5, (modSeg re k f ((rdL c kt u v).set v (kt.getD (u + v) 0)) n kp l tp le la td kt sh so had gr fi se to (p : Int) t d tl at_ sn him 0 (((u + v) : Nat) : Int) ou st rm)])) rfl ?_
      refine aGo okX8_passes 8 (f' := (2, [some (.inr 192), some (.inr 196), some (.inl ((v : Int) + 1))], [], [A0, A1, A2, A3, A4, A5, (modSeg re k f ((rdL c kt u v).set v (kt.getD (u + v) 0)) n kp l tp le la td kt sh so had gr fi se to (p : Int) t d tl at_ sn him 0 ((((u + v) : Nat) : Int) + 1) ou st rm)])) rfl ?_
      exact ih (v + 1) (by omega)
  refine aGo okX8_passes 2 (f' := (2, [some (.inr 192), some (.inr 196), some (.inl 0)], [], _)) rfl ?_
  exact lp 7 0 (by omega)
set_option maxRecDepth 100000 in
set_option maxHeartbeats 4000000 in
theorem c_keep_n {u : Nat} (hkt : kt.length = 270) (hl0 : n.length = 7) (hu : u + 7 ≤ 270) : aEv mX8_passes 0 0 0 N [.inr 192, .inr 197] [A0, A1, A2, A3, A4, A5, (modSeg re k f c n kp l tp le la td kt sh so had gr fi se to (p : Int) t d tl at_ sn him 1 (u : Int) ou st rm)] ((aQx (none) [A0, A1, A2, A3, A4, A5, (modSeg re k f c n kp l tp le la td (wrL kt n u 7) sh so had gr fi se to (p : Int) t d tl at_ sn him 1 (((u + 7) : Nat) : Int) ou st rm)])) := by
  refine aEv_of okX8_passes caX8_passes (Nat.le_of_ble_eq_true rfl) ?_
  have lp : ∀ (j v : Nat), v + j = 7 → AW mX8_passes 0 0 0 N none (aQx (none) [A0, A1, A2, A3, A4, A5, (modSeg re k f c n kp l tp le la td (wrL kt n u 7) sh so had gr fi se to (p : Int) t d tl at_ sn him 1 (((u + 7) : Nat) : Int) ou st rm)]) (2, [some (.inr 192), some (.inr 197), some (.inl (v : Int))], [], [A0, A1, A2, A3, A4, A5, (modSeg re k f c n kp l tp le la td (wrL kt n u v) sh so had gr fi se to (p : Int) t d tl at_ sn him 1 (((u + v) : Nat) : Int) ou st rm)]) := by
    intro j
    induction j with
    | zero =>
      intro v  hij 
      obtain rfl : 7 = v := by omega
      refine aGo okX8_passes 3 (f' := (5, [some (.inr 192), some (.inr 197), some (.inl (7 : Int))], [.inl (n.length : Int), .inl (7 : Int)], _)) rfl ?_
      refine b_ge (tgt := 58) okX8_passes rfl rfl ⟨by omega, by omega⟩ ⟨by omega, by omega⟩ (fun h5 => ?_) (fun h5 => absurd h5 (by omega))
      exact b_ret (v := none) ⟨rfl, rfl⟩ ⟨rfl, rfl⟩ rfl
    | succ j ih =>
      intro v  hij 
      refine aGo okX8_passes 3 (f' := (5, [some (.inr 192), some (.inr 197), some (.inl (v : Int))], [.inl (n.length : Int), .inl (v : Int)], _)) rfl ?_
      refine b_ge (tgt := 58) okX8_passes rfl rfl ⟨by omega, by omega⟩ ⟨by omega, by omega⟩ (fun h5 => absurd h5 (by omega)) (fun h5 => ?_)
      refine aGo okX8_passes 2 (f' := (12, [some (.inr 192), some (.inr 197), some (.inl (v : Int))], [.inl 1], _)) rfl ?_
      refine b0_eq (tgt := 30) okX8_passes rfl rfl ⟨by omega, by omega⟩ (fun h12 => absurd h12 (by omega)) (fun h12 => ?_)
      refine aGo okX8_passes 6 (f' := (25, [some (.inr 192), some (.inr 197), some (.inl (v : Int))], [.inl (v : Int), .inr 197, .inl (((u + v) : Nat) : Int), .inr 204], _)) rfl ?_
      refine b_ald (k := 197) (j := v) (a := n) okX8_passes rfl rfl (by omega) (by omega) (by omega) ?_
      refine b_ast (k := 204) (j := (u + v)) (a := (wrL kt n u v)) okX8_passes rfl rfl (by omega) (by rw [wrL_len]; omega) (by omega) ?_
      refine b_cast (f' := (27, [some (.inr 192), some (.inr 197), some (.inl (v : Int))], [], [A0, A1, A2, A3, A4, A5, (modSeg re k f c n kp l tp le la td ((wrL kt n u v).set (u + v) (n.getD v 0)) sh so had gr fi se to (p : Int) t d tl at_ sn him 1 (((u + v) : Nat) : Int) ou st rm)])) rfl ?_
      refine aGo okX8_passes 9 (f' := (2, [some (.inr 192), some (.inr 197), some (.inl ((v : Int) + 1))], [], [A0, A1, A2, A3, A4, A5, (modSeg re k f c n kp l tp le la td ((wrL kt n u v).set (u + v) (n.getD v 0)) sh so had gr fi se to (p : Int) t d tl at_ sn him 1 ((((u + v) : Nat) : Int) + 1) ou st rm)])) rfl ?_
      exact ih (v + 1) (by omega)
  refine aGo okX8_passes 2 (f' := (2, [some (.inr 192), some (.inr 197), some (.inl 0)], [], _)) rfl ?_
  exact lp 7 0 (by omega)
set_option maxRecDepth 100000 in
set_option maxHeartbeats 4000000 in
theorem c_back_n {u : Nat} (hkt : kt.length = 270) (hl0 : n.length = 7) (hu : u + 7 ≤ 270) : aEv mX8_passes 0 0 0 N [.inr 192, .inr 197] [A0, A1, A2, A3, A4, A5, (modSeg re k f c n kp l tp le la td kt sh so had gr fi se to (p : Int) t d tl at_ sn him 0 (u : Int) ou st rm)] ((aQx (none) [A0, A1, A2, A3, A4, A5, (modSeg re k f c (rdL n kt u 7) kp l tp le la td kt sh so had gr fi se to (p : Int) t d tl at_ sn him 0 (((u + 7) : Nat) : Int) ou st rm)])) := by
  refine aEv_of okX8_passes caX8_passes (Nat.le_of_ble_eq_true rfl) ?_
  have lp : ∀ (j v : Nat), v + j = 7 → AW mX8_passes 0 0 0 N none (aQx (none) [A0, A1, A2, A3, A4, A5, (modSeg re k f c (rdL n kt u 7) kp l tp le la td kt sh so had gr fi se to (p : Int) t d tl at_ sn him 0 (((u + 7) : Nat) : Int) ou st rm)]) (2, [some (.inr 192), some (.inr 197), some (.inl (v : Int))], [], [A0, A1, A2, A3, A4, A5, (modSeg re k f c (rdL n kt u v) kp l tp le la td kt sh so had gr fi se to (p : Int) t d tl at_ sn him 0 (((u + v) : Nat) : Int) ou st rm)]) := by
    intro j
    induction j with
    | zero =>
      intro v  hij 
      obtain rfl : 7 = v := by omega
      have e1 : (rdL n kt u 7).length = 7 := by rw [rdL_len]; omega
      refine aGo okX8_passes 3 (f' := (5, [some (.inr 192), some (.inr 197), some (.inl (7 : Int))], [.inl ((rdL n kt u 7).length : Int), .inl (7 : Int)], _)) rfl ?_
      refine b_ge (tgt := 58) okX8_passes rfl rfl ⟨by omega, by omega⟩ ⟨by omega, by omega⟩ (fun h5 => ?_) (fun h5 => absurd h5 (by omega))
      exact b_ret (v := none) ⟨rfl, rfl⟩ ⟨rfl, rfl⟩ rfl
    | succ j ih =>
      intro v  hij 
      have e1 : (rdL n kt u v).length = 7 := by rw [rdL_len]; omega
      refine aGo okX8_passes 3 (f' := (5, [some (.inr 192), some (.inr 197), some (.inl (v : Int))], [.inl ((rdL n kt u v).length : Int), .inl (v : Int)], _)) rfl ?_
      refine b_ge (tgt := 58) okX8_passes rfl rfl ⟨by omega, by omega⟩ ⟨by omega, by omega⟩ (fun h5 => absurd h5 (by omega)) (fun h5 => ?_)
      refine aGo okX8_passes 2 (f' := (12, [some (.inr 192), some (.inr 197), some (.inl (v : Int))], [.inl 0], _)) rfl ?_
      refine b0_eq (tgt := 30) okX8_passes rfl rfl ⟨by omega, by omega⟩ (fun h12 => ?_) (fun h12 => absurd h12 (by omega))
      refine aGo okX8_passes 6 (f' := (40, [some (.inr 192), some (.inr 197), some (.inl (v : Int))], [.inl (((u + v) : Nat) : Int), .inr 204, .inl (v : Int), .inr 197], _)) rfl ?_
      refine b_ald (k := 204) (j := (u + v)) (a := kt) okX8_passes rfl rfl (by omega) (by omega) (by omega) ?_
      refine b_ast (k := 197) (j := v) (a := (rdL n kt u v)) okX8_passes rfl rfl (by omega) (by omega) (by omega) ?_
      refine b_cast (f' := (42, [some (.inr 192), some (.inr 197), some (.inl (v : Int))], [], [A0, A1, A2, A3, A4, A5, (modSeg re k f c ((rdL n kt u v).set v (kt.getD (u + v) 0)) kp l tp le la td kt sh so had gr fi se to (p : Int) t d tl at_ sn him 0 (((u + v) : Nat) : Int) ou st rm)])) rfl ?_
      refine aGo okX8_passes 8 (f' := (2, [some (.inr 192), some (.inr 197), some (.inl ((v : Int) + 1))], [], [A0, A1, A2, A3, A4, A5, (modSeg re k f c ((rdL n kt u v).set v (kt.getD (u + v) 0)) kp l tp le la td kt sh so had gr fi se to (p : Int) t d tl at_ sn him 0 ((((u + v) : Nat) : Int) + 1) ou st rm)])) rfl ?_
      exact ih (v + 1) (by omega)
  refine aGo okX8_passes 2 (f' := (2, [some (.inr 192), some (.inr 197), some (.inl 0)], [], _)) rfl ?_
  exact lp 7 0 (by omega)
set_option maxRecDepth 100000 in
set_option maxHeartbeats 4000000 in
theorem c_keep_kp {u : Nat} (hkt : kt.length = 270) (hl0 : kp.length = 7) (hu : u + 7 ≤ 270) : aEv mX8_passes 0 0 0 N [.inr 192, .inr 198] [A0, A1, A2, A3, A4, A5, (modSeg re k f c n kp l tp le la td kt sh so had gr fi se to (p : Int) t d tl at_ sn him 1 (u : Int) ou st rm)] ((aQx (none) [A0, A1, A2, A3, A4, A5, (modSeg re k f c n kp l tp le la td (wrL kt kp u 7) sh so had gr fi se to (p : Int) t d tl at_ sn him 1 (((u + 7) : Nat) : Int) ou st rm)])) := by
  refine aEv_of okX8_passes caX8_passes (Nat.le_of_ble_eq_true rfl) ?_
  have lp : ∀ (j v : Nat), v + j = 7 → AW mX8_passes 0 0 0 N none (aQx (none) [A0, A1, A2, A3, A4, A5, (modSeg re k f c n kp l tp le la td (wrL kt kp u 7) sh so had gr fi se to (p : Int) t d tl at_ sn him 1 (((u + 7) : Nat) : Int) ou st rm)]) (2, [some (.inr 192), some (.inr 198), some (.inl (v : Int))], [], [A0, A1, A2, A3, A4, A5, (modSeg re k f c n kp l tp le la td (wrL kt kp u v) sh so had gr fi se to (p : Int) t d tl at_ sn him 1 (((u + v) : Nat) : Int) ou st rm)]) := by
    intro j
    induction j with
    | zero =>
      intro v  hij 
      obtain rfl : 7 = v := by omega
      refine aGo okX8_passes 3 (f' := (5, [some (.inr 192), some (.inr 198), some (.inl (7 : Int))], [.inl (kp.length : Int), .inl (7 : Int)], _)) rfl ?_
      refine b_ge (tgt := 58) okX8_passes rfl rfl ⟨by omega, by omega⟩ ⟨by omega, by omega⟩ (fun h5 => ?_) (fun h5 => absurd h5 (by omega))
      exact b_ret (v := none) ⟨rfl, rfl⟩ ⟨rfl, rfl⟩ rfl
    | succ j ih =>
      intro v  hij 
      refine aGo okX8_passes 3 (f' := (5, [some (.inr 192), some (.inr 198), some (.inl (v : Int))], [.inl (kp.length : Int), .inl (v : Int)], _)) rfl ?_
      refine b_ge (tgt := 58) okX8_passes rfl rfl ⟨by omega, by omega⟩ ⟨by omega, by omega⟩ (fun h5 => absurd h5 (by omega)) (fun h5 => ?_)
      refine aGo okX8_passes 2 (f' := (12, [some (.inr 192), some (.inr 198), some (.inl (v : Int))], [.inl 1], _)) rfl ?_
      refine b0_eq (tgt := 30) okX8_passes rfl rfl ⟨by omega, by omega⟩ (fun h12 => absurd h12 (by omega)) (fun h12 => ?_)
      refine aGo okX8_passes 6 (f' := (25, [some (.inr 192), some (.inr 198), some (.inl (v : Int))], [.inl (v : Int), .inr 198, .inl (((u + v) : Nat) : Int), .inr 204], _)) rfl ?_
      refine b_ald (k := 198) (j := v) (a := kp) okX8_passes rfl rfl (by omega) (by omega) (by omega) ?_
      refine b_ast (k := 204) (j := (u + v)) (a := (wrL kt kp u v)) okX8_passes rfl rfl (by omega) (by rw [wrL_len]; omega) (by omega) ?_
      refine b_cast (f' := (27, [some (.inr 192), some (.inr 198), some (.inl (v : Int))], [], [A0, A1, A2, A3, A4, A5, (modSeg re k f c n kp l tp le la td ((wrL kt kp u v).set (u + v) (kp.getD v 0)) sh so had gr fi se to (p : Int) t d tl at_ sn him 1 (((u + v) : Nat) : Int) ou st rm)])) rfl ?_
      refine aGo okX8_passes 9 (f' := (2, [some (.inr 192), some (.inr 198), some (.inl ((v : Int) + 1))], [], [A0, A1, A2, A3, A4, A5, (modSeg re k f c n kp l tp le la td ((wrL kt kp u v).set (u + v) (kp.getD v 0)) sh so had gr fi se to (p : Int) t d tl at_ sn him 1 ((((u + v) : Nat) : Int) + 1) ou st rm)])) rfl ?_
      exact ih (v + 1) (by omega)
  refine aGo okX8_passes 2 (f' := (2, [some (.inr 192), some (.inr 198), some (.inl 0)], [], _)) rfl ?_
  exact lp 7 0 (by omega)
set_option maxRecDepth 100000 in
set_option maxHeartbeats 4000000 in
theorem c_back_kp {u : Nat} (hkt : kt.length = 270) (hl0 : kp.length = 7) (hu : u + 7 ≤ 270) : aEv mX8_passes 0 0 0 N [.inr 192, .inr 198] [A0, A1, A2, A3, A4, A5, (modSeg re k f c n kp l tp le la td kt sh so had gr fi se to (p : Int) t d tl at_ sn him 0 (u : Int) ou st rm)] ((aQx (none) [A0, A1, A2, A3, A4, A5, (modSeg re k f c n (rdL kp kt u 7) l tp le la td kt sh so had gr fi se to (p : Int) t d tl at_ sn him 0 (((u + 7) : Nat) : Int) ou st rm)])) := by
  refine aEv_of okX8_passes caX8_passes (Nat.le_of_ble_eq_true rfl) ?_
  have lp : ∀ (j v : Nat), v + j = 7 → AW mX8_passes 0 0 0 N none (aQx (none) [A0, A1, A2, A3, A4, A5, (modSeg re k f c n (rdL kp kt u 7) l tp le la td kt sh so had gr fi se to (p : Int) t d tl at_ sn him 0 (((u + 7) : Nat) : Int) ou st rm)]) (2, [some (.inr 192), some (.inr 198), some (.inl (v : Int))], [], [A0, A1, A2, A3, A4, A5, (modSeg re k f c n (rdL kp kt u v) l tp le la td kt sh so had gr fi se to (p : Int) t d tl at_ sn him 0 (((u + v) : Nat) : Int) ou st rm)]) := by
    intro j
    induction j with
    | zero =>
      intro v  hij 
      obtain rfl : 7 = v := by omega
      have e1 : (rdL kp kt u 7).length = 7 := by rw [rdL_len]; omega
      refine aGo okX8_passes 3 (f' := (5, [some (.inr 192), some (.inr 198), some (.inl (7 : Int))], [.inl ((rdL kp kt u 7).length : Int), .inl (7 : Int)], _)) rfl ?_
      refine b_ge (tgt := 58) okX8_passes rfl rfl ⟨by omega, by omega⟩ ⟨by omega, by omega⟩ (fun h5 => ?_) (fun h5 => absurd h5 (by omega))
      exact b_ret (v := none) ⟨rfl, rfl⟩ ⟨rfl, rfl⟩ rfl
    | succ j ih =>
      intro v  hij 
      have e1 : (rdL kp kt u v).length = 7 := by rw [rdL_len]; omega
      refine aGo okX8_passes 3 (f' := (5, [some (.inr 192), some (.inr 198), some (.inl (v : Int))], [.inl ((rdL kp kt u v).length : Int), .inl (v : Int)], _)) rfl ?_
      refine b_ge (tgt := 58) okX8_passes rfl rfl ⟨by omega, by omega⟩ ⟨by omega, by omega⟩ (fun h5 => absurd h5 (by omega)) (fun h5 => ?_)
      refine aGo okX8_passes 2 (f' := (12, [some (.inr 192), some (.inr 198), some (.inl (v : Int))], [.inl 0], _)) rfl ?_
      refine b0_eq (tgt := 30) okX8_passes rfl rfl ⟨by omega, by omega⟩ (fun h12 => ?_) (fun h12 => absurd h12 (by omega))
      refine aGo okX8_passes 6 (f' := (40, [some (.inr 192), some (.inr 198), some (.inl (v : Int))], [.inl (((u + v) : Nat) : Int), .inr 204, .inl (v : Int), .inr 198], _)) rfl ?_
      refine b_ald (k := 204) (j := (u + v)) (a := kt) okX8_passes rfl rfl (by omega) (by omega) (by omega) ?_
      refine b_ast (k := 198) (j := v) (a := (rdL kp kt u v)) okX8_passes rfl rfl (by omega) (by omega) (by omega) ?_
      refine b_cast (f' := (42, [some (.inr 192), some (.inr 198), some (.inl (v : Int))], [], [A0, A1, A2, A3, A4, A5, (modSeg re k f c n ((rdL kp kt u v).set v (kt.getD (u + v) 0)) l tp le la td kt sh so had gr fi se to (p : Int) t d tl at_ sn him 0 (((u + v) : Nat) : Int) ou st rm)])) rfl ?_
      refine aGo okX8_passes 8 (f' := (2, [some (.inr 192), some (.inr 198), some (.inl ((v : Int) + 1))], [], [A0, A1, A2, A3, A4, A5, (modSeg re k f c n ((rdL kp kt u v).set v (kt.getD (u + v) 0)) l tp le la td kt sh so had gr fi se to (p : Int) t d tl at_ sn him 0 ((((u + v) : Nat) : Int) + 1) ou st rm)])) rfl ?_
      exact ih (v + 1) (by omega)
  refine aGo okX8_passes 2 (f' := (2, [some (.inr 192), some (.inr 198), some (.inl 0)], [], _)) rfl ?_
  exact lp 7 0 (by omega)
set_option maxRecDepth 100000 in
set_option maxHeartbeats 4000000 in
theorem c_keep_l {u : Nat} (hkt : kt.length = 270) (hl0 : l.length = 49) (hu : u + 49 ≤ 270) : aEv mX8_passes 0 0 0 N [.inr 192, .inr 199] [A0, A1, A2, A3, A4, A5, (modSeg re k f c n kp l tp le la td kt sh so had gr fi se to (p : Int) t d tl at_ sn him 1 (u : Int) ou st rm)] ((aQx (none) [A0, A1, A2, A3, A4, A5, (modSeg re k f c n kp l tp le la td (wrL kt l u 49) sh so had gr fi se to (p : Int) t d tl at_ sn him 1 (((u + 49) : Nat) : Int) ou st rm)])) := by
  refine aEv_of okX8_passes caX8_passes (Nat.le_of_ble_eq_true rfl) ?_
  have lp : ∀ (j v : Nat), v + j = 49 → AW mX8_passes 0 0 0 N none (aQx (none) [A0, A1, A2, A3, A4, A5, (modSeg re k f c n kp l tp le la td (wrL kt l u 49) sh so had gr fi se to (p : Int) t d tl at_ sn him 1 (((u + 49) : Nat) : Int) ou st rm)]) (2, [some (.inr 192), some (.inr 199), some (.inl (v : Int))], [], [A0, A1, A2, A3, A4, A5, (modSeg re k f c n kp l tp le la td (wrL kt l u v) sh so had gr fi se to (p : Int) t d tl at_ sn him 1 (((u + v) : Nat) : Int) ou st rm)]) := by
    intro j
    induction j with
    | zero =>
      intro v  hij 
      obtain rfl : 49 = v := by omega
      refine aGo okX8_passes 3 (f' := (5, [some (.inr 192), some (.inr 199), some (.inl (49 : Int))], [.inl (l.length : Int), .inl (49 : Int)], _)) rfl ?_
      refine b_ge (tgt := 58) okX8_passes rfl rfl ⟨by omega, by omega⟩ ⟨by omega, by omega⟩ (fun h5 => ?_) (fun h5 => absurd h5 (by omega))
      exact b_ret (v := none) ⟨rfl, rfl⟩ ⟨rfl, rfl⟩ rfl
    | succ j ih =>
      intro v  hij 
      refine aGo okX8_passes 3 (f' := (5, [some (.inr 192), some (.inr 199), some (.inl (v : Int))], [.inl (l.length : Int), .inl (v : Int)], _)) rfl ?_
      refine b_ge (tgt := 58) okX8_passes rfl rfl ⟨by omega, by omega⟩ ⟨by omega, by omega⟩ (fun h5 => absurd h5 (by omega)) (fun h5 => ?_)
      refine aGo okX8_passes 2 (f' := (12, [some (.inr 192), some (.inr 199), some (.inl (v : Int))], [.inl 1], _)) rfl ?_
      refine b0_eq (tgt := 30) okX8_passes rfl rfl ⟨by omega, by omega⟩ (fun h12 => absurd h12 (by omega)) (fun h12 => ?_)
      refine aGo okX8_passes 6 (f' := (25, [some (.inr 192), some (.inr 199), some (.inl (v : Int))], [.inl (v : Int), .inr 199, .inl (((u + v) : Nat) : Int), .inr 204], _)) rfl ?_
      refine b_ald (k := 199) (j := v) (a := l) okX8_passes rfl rfl (by omega) (by omega) (by omega) ?_
      refine b_ast (k := 204) (j := (u + v)) (a := (wrL kt l u v)) okX8_passes rfl rfl (by omega) (by rw [wrL_len]; omega) (by omega) ?_
      refine b_cast (f' := (27, [some (.inr 192), some (.inr 199), some (.inl (v : Int))], [], [A0, A1, A2, A3, A4, A5, (modSeg re k f c n kp l tp le la td ((wrL kt l u v).set (u + v) (l.getD v 0)) sh so had gr fi se to (p : Int) t d tl at_ sn him 1 (((u + v) : Nat) : Int) ou st rm)])) rfl ?_
      refine aGo okX8_passes 9 (f' := (2, [some (.inr 192), some (.inr 199), some (.inl ((v : Int) + 1))], [], [A0, A1, A2, A3, A4, A5, (modSeg re k f c n kp l tp le la td ((wrL kt l u v).set (u + v) (l.getD v 0)) sh so had gr fi se to (p : Int) t d tl at_ sn him 1 ((((u + v) : Nat) : Int) + 1) ou st rm)])) rfl ?_
      exact ih (v + 1) (by omega)
  refine aGo okX8_passes 2 (f' := (2, [some (.inr 192), some (.inr 199), some (.inl 0)], [], _)) rfl ?_
  exact lp 49 0 (by omega)
set_option maxRecDepth 100000 in
set_option maxHeartbeats 4000000 in
theorem c_back_l {u : Nat} (hkt : kt.length = 270) (hl0 : l.length = 49) (hu : u + 49 ≤ 270) : aEv mX8_passes 0 0 0 N [.inr 192, .inr 199] [A0, A1, A2, A3, A4, A5, (modSeg re k f c n kp l tp le la td kt sh so had gr fi se to (p : Int) t d tl at_ sn him 0 (u : Int) ou st rm)] ((aQx (none) [A0, A1, A2, A3, A4, A5, (modSeg re k f c n kp (rdL l kt u 49) tp le la td kt sh so had gr fi se to (p : Int) t d tl at_ sn him 0 (((u + 49) : Nat) : Int) ou st rm)])) := by
  refine aEv_of okX8_passes caX8_passes (Nat.le_of_ble_eq_true rfl) ?_
  have lp : ∀ (j v : Nat), v + j = 49 → AW mX8_passes 0 0 0 N none (aQx (none) [A0, A1, A2, A3, A4, A5, (modSeg re k f c n kp (rdL l kt u 49) tp le la td kt sh so had gr fi se to (p : Int) t d tl at_ sn him 0 (((u + 49) : Nat) : Int) ou st rm)]) (2, [some (.inr 192), some (.inr 199), some (.inl (v : Int))], [], [A0, A1, A2, A3, A4, A5, (modSeg re k f c n kp (rdL l kt u v) tp le la td kt sh so had gr fi se to (p : Int) t d tl at_ sn him 0 (((u + v) : Nat) : Int) ou st rm)]) := by
    intro j
    induction j with
    | zero =>
      intro v  hij 
      obtain rfl : 49 = v := by omega
      have e1 : (rdL l kt u 49).length = 49 := by rw [rdL_len]; omega
      refine aGo okX8_passes 3 (f' := (5, [some (.inr 192), some (.inr 199), some (.inl (49 : Int))], [.inl ((rdL l kt u 49).length : Int), .inl (49 : Int)], _)) rfl ?_
      refine b_ge (tgt := 58) okX8_passes rfl rfl ⟨by omega, by omega⟩ ⟨by omega, by omega⟩ (fun h5 => ?_) (fun h5 => absurd h5 (by omega))
      exact b_ret (v := none) ⟨rfl, rfl⟩ ⟨rfl, rfl⟩ rfl
    | succ j ih =>
      intro v  hij 
      have e1 : (rdL l kt u v).length = 49 := by rw [rdL_len]; omega
      refine aGo okX8_passes 3 (f' := (5, [some (.inr 192), some (.inr 199), some (.inl (v : Int))], [.inl ((rdL l kt u v).length : Int), .inl (v : Int)], _)) rfl ?_
      refine b_ge (tgt := 58) okX8_passes rfl rfl ⟨by omega, by omega⟩ ⟨by omega, by omega⟩ (fun h5 => absurd h5 (by omega)) (fun h5 => ?_)
      refine aGo okX8_passes 2 (f' := (12, [some (.inr 192), some (.inr 199), some (.inl (v : Int))], [.inl 0], _)) rfl ?_
      refine b0_eq (tgt := 30) okX8_passes rfl rfl ⟨by omega, by omega⟩ (fun h12 => ?_) (fun h12 => absurd h12 (by omega))
      refine aGo okX8_passes 6 (f' := (40, [some (.inr 192), some (.inr 199), some (.inl (v : Int))], [.inl (((u + v) : Nat) : Int), .inr 204, .inl (v : Int), .inr 199], _)) rfl ?_
      refine b_ald (k := 204) (j := (u + v)) (a := kt) okX8_passes rfl rfl (by omega) (by omega) (by omega) ?_
      refine b_ast (k := 199) (j := v) (a := (rdL l kt u v)) okX8_passes rfl rfl (by omega) (by omega) (by omega) ?_
      refine b_cast (f' := (42, [some (.inr 192), some (.inr 199), some (.inl (v : Int))], [], [A0, A1, A2, A3, A4, A5, (modSeg re k f c n kp ((rdL l kt u v).set v (kt.getD (u + v) 0)) tp le la td kt sh so had gr fi se to (p : Int) t d tl at_ sn him 0 (((u + v) : Nat) : Int) ou st rm)])) rfl ?_
      refine aGo okX8_passes 8 (f' := (2, [some (.inr 192), some (.inr 199), some (.inl ((v : Int) + 1))], [], [A0, A1, A2, A3, A4, A5, (modSeg re k f c n kp ((rdL l kt u v).set v (kt.getD (u + v) 0)) tp le la td kt sh so had gr fi se to (p : Int) t d tl at_ sn him 0 ((((u + v) : Nat) : Int) + 1) ou st rm)])) rfl ?_
      exact ih (v + 1) (by omega)
  refine aGo okX8_passes 2 (f' := (2, [some (.inr 192), some (.inr 199), some (.inl 0)], [], _)) rfl ?_
  exact lp 49 0 (by omega)
set_option maxRecDepth 100000 in
set_option maxHeartbeats 4000000 in
theorem c_one_k {u : Nat} {v : Int} (hkt : kt.length = 270) (hu : u < 270) : aEv mX8_passOne 0 0 0 N [.inr 192, .inl v] [A0, A1, A2, A3, A4, A5, (modSeg re k f c n kp l tp le la td kt sh so had gr fi se to (p : Int) t d tl at_ sn him 1 (u : Int) ou st rm)] (aQx (some (.inl (v))) [A0, A1, A2, A3, A4, A5, (modSeg re k f c n kp l tp le la td (kt.set u v) sh so had gr fi se to (p : Int) t d tl at_ sn him 1 ((u : Int) + 1) ou st rm)]) := by
  refine aEv_of okX8_passOne caX8_passOne (Nat.le_of_ble_eq_true rfl) ?_
  refine aGo okX8_passOne 2 (f' := (4, [some (.inr 192), some (.inl v), none], [.inl 1], _)) rfl ?_
  refine b0_eq (tgt := 11) okX8_passOne rfl rfl ⟨by omega, by omega⟩ (fun h4 => absurd h4 (by omega)) (fun h4 => ?_)
  refine aGo okX8_passOne 5 (f' := (25, [some (.inr 192), some (.inl v), some (.inl v)], [.inl 1], _)) rfl ?_
  refine b0_eq (tgt := 38) okX8_passOne rfl rfl ⟨by omega, by omega⟩ (fun h25 => absurd h25 (by omega)) (fun h25 => ?_)
  refine aGo okX8_passOne 5 (f' := (37, [some (.inr 192), some (.inl v), some (.inl v)], [.inl v, .inl (u : Int), .inr 204], _)) rfl ?_
  refine b_ast (k := 204) (j := u) (a := kt) okX8_passOne rfl rfl (by omega) (by omega) (by omega) ?_
  refine b_cast (f' := (38, [some (.inr 192), some (.inl v), some (.inl v)], [], [A0, A1, A2, A3, A4, A5, (modSeg re k f c n kp l tp le la td (kt.set u v) sh so had gr fi se to (p : Int) t d tl at_ sn him 1 (u : Int) ou st rm)])) rfl ?_
  refine aGo okX8_passOne 7 (f' := (49, [some (.inr 192), some (.inl v), some (.inl v)], [.inl v], [A0, A1, A2, A3, A4, A5, (modSeg re k f c n kp l tp le la td (kt.set u v) sh so had gr fi se to (p : Int) t d tl at_ sn him 1 ((u : Int) + 1) ou st rm)])) rfl ?_
  exact b_ret (v := (some (.inl v))) ⟨rfl, Or.inl rfl⟩ ⟨rfl, rfl⟩ rfl
set_option maxRecDepth 100000 in
set_option maxHeartbeats 4000000 in
theorem c_one_b {u : Nat} {v : Int} (hkt : kt.length = 270) (hu : u < 270) : aEv mX8_passOne 0 0 0 N [.inr 192, .inl v] [A0, A1, A2, A3, A4, A5, (modSeg re k f c n kp l tp le la td kt sh so had gr fi se to (p : Int) t d tl at_ sn him 0 (u : Int) ou st rm)] (aQx (some (.inl (kt.getD u 0))) [A0, A1, A2, A3, A4, A5, (modSeg re k f c n kp l tp le la td kt sh so had gr fi se to (p : Int) t d tl at_ sn him 0 ((u : Int) + 1) ou st rm)]) := by
  refine aEv_of okX8_passOne caX8_passOne (Nat.le_of_ble_eq_true rfl) ?_
  refine aGo okX8_passOne 2 (f' := (4, [some (.inr 192), some (.inl v), none], [.inl 0], _)) rfl ?_
  refine b0_eq (tgt := 11) okX8_passOne rfl rfl ⟨by omega, by omega⟩ (fun h4 => ?_) (fun h4 => absurd h4 (by omega))
  refine aGo okX8_passOne 4 (f' := (19, [some (.inr 192), some (.inl v), none], [.inl (u : Int), .inr 204], _)) rfl ?_
  refine b_ald (k := 204) (j := u) (a := kt) okX8_passOne rfl rfl (by omega) (by omega) (by omega) ?_
  refine aGo okX8_passOne 3 (f' := (25, [some (.inr 192), some (.inl v), some (.inl (kt.getD u 0))], [.inl 0], _)) rfl ?_
  refine b0_eq (tgt := 38) okX8_passOne rfl rfl ⟨by omega, by omega⟩ (fun h25 => ?_) (fun h25 => absurd h25 (by omega))
  refine aGo okX8_passOne 7 (f' := (49, [some (.inr 192), some (.inl v), some (.inl (kt.getD u 0))], [.inl (kt.getD u 0)], [A0, A1, A2, A3, A4, A5, (modSeg re k f c n kp l tp le la td kt sh so had gr fi se to (p : Int) t d tl at_ sn him 0 ((u : Int) + 1) ou st rm)])) rfl ?_
  exact b_ret (v := (some (.inl (kt.getD u 0)))) ⟨rfl, Or.inl rfl⟩ ⟨rfl, rfl⟩ rfl
set_option maxRecDepth 100000 in
set_option maxHeartbeats 4000000 in
theorem c_all_0k (hb : bOK p k f c n kp l t d) (hkt : kt.length = 270) : aEv mX8_passesAll 1 0 0 N [.inr 192, .inl 0, .inl 1] [A0, A1, A2, A3, A4, A5, (modSeg re k f c n kp l tp le la td kt sh so had gr fi se to (p : Int) t d tl at_ sn him ik cu ou st rm)] ((fun rv h => rv = none ∧ ∃ kt2 : List Int, kt2.length = 270 ∧ hld 0 kt2 k f c n kp l (p : Int) t d ∧ (∀ j, j < 0 ∨ 87 ≤ j → kt2.getD j 0 = kt.getD j 0) ∧ h = [A0, A1, A2, A3, A4, A5, (modSeg re k f c n kp l tp le la td kt2 sh so had gr fi se to (p : Int) t d tl at_ sn him 1 87 ou st rm)])) := by
  obtain ⟨hp7, hk, hf, hc, hn, hkp, hl, rk, rf, rc, rn, rkp, rl, ht0, ht1, hd0, hd1⟩ := id hb
  refine aEv_of okX8_passesAll caX8_passesAll (Nat.le_of_ble_eq_true rfl) ?_
  refine aGo okX8_passesAll 11 (f' := (18, [some (.inr 192), some (.inl 0), some (.inl 1)], [.inr 194, .inr 192], [A0, A1, A2, A3, A4, A5, (modSeg re k f c n kp l tp le la td kt sh so had gr fi se to (p : Int) t d tl at_ sn him 1 0 ou st rm)])) rfl ?_
  refine b_vN (as := [.inr 194]) (rest := []) (k := 192) okX8_passesAll rfl lkX8_158 caX8_passes (Nat.le_of_ble_eq_true rfl) rfl (Nat.le_of_ble_eq_true rfl) rfl rfl rfl (c_keep_k (u := 0) hkt (by omega) (by omega)) ?_
  refine b_cast (f' := (21, [some (.inr 192), some (.inl 0), some (.inl 1)], [], [A0, A1, A2, A3, A4, A5, (modSeg re k f c n kp l tp le la td (wrL kt k 0 7) sh so had gr fi se to (p : Int) t d tl at_ sn him 1 7 ou st rm)])) rfl ?_
  refine aGo okX8_passesAll 3 (f' := (26, [some (.inr 192), some (.inl 0), some (.inl 1)], [.inr 195, .inr 192], _)) rfl ?_
  refine b_vN (as := [.inr 195]) (rest := []) (k := 192) okX8_passesAll rfl lkX8_158 caX8_passes (Nat.le_of_ble_eq_true rfl) rfl (Nat.le_of_ble_eq_true rfl) rfl rfl rfl (c_keep_f (u := 7) (by simp only [wrL_len]; exact hkt) (by omega) (by omega)) ?_
  refine b_cast (f' := (29, [some (.inr 192), some (.inl 0), some (.inl 1)], [], [A0, A1, A2, A3, A4, A5, (modSeg re k f c n kp l tp le la td (wrL (wrL kt k 0 7) f 7 7) sh so had gr fi se to (p : Int) t d tl at_ sn him 1 14 ou st rm)])) rfl ?_
  refine aGo okX8_passesAll 3 (f' := (34, [some (.inr 192), some (.inl 0), some (.inl 1)], [.inr 196, .inr 192], _)) rfl ?_
  refine b_vN (as := [.inr 196]) (rest := []) (k := 192) okX8_passesAll rfl lkX8_158 caX8_passes (Nat.le_of_ble_eq_true rfl) rfl (Nat.le_of_ble_eq_true rfl) rfl rfl rfl (c_keep_c (u := 14) (by simp only [wrL_len]; exact hkt) (by omega) (by omega)) ?_
  refine b_cast (f' := (37, [some (.inr 192), some (.inl 0), some (.inl 1)], [], [A0, A1, A2, A3, A4, A5, (modSeg re k f c n kp l tp le la td (wrL (wrL (wrL kt k 0 7) f 7 7) c 14 7) sh so had gr fi se to (p : Int) t d tl at_ sn him 1 21 ou st rm)])) rfl ?_
  refine aGo okX8_passesAll 3 (f' := (42, [some (.inr 192), some (.inl 0), some (.inl 1)], [.inr 197, .inr 192], _)) rfl ?_
  refine b_vN (as := [.inr 197]) (rest := []) (k := 192) okX8_passesAll rfl lkX8_158 caX8_passes (Nat.le_of_ble_eq_true rfl) rfl (Nat.le_of_ble_eq_true rfl) rfl rfl rfl (c_keep_n (u := 21) (by simp only [wrL_len]; exact hkt) (by omega) (by omega)) ?_
  refine b_cast (f' := (45, [some (.inr 192), some (.inl 0), some (.inl 1)], [], [A0, A1, A2, A3, A4, A5, (modSeg re k f c n kp l tp le la td (wrL (wrL (wrL (wrL kt k 0 7) f 7 7) c 14 7) n 21 7) sh so had gr fi se to (p : Int) t d tl at_ sn him 1 28 ou st rm)])) rfl ?_
  refine aGo okX8_passesAll 3 (f' := (50, [some (.inr 192), some (.inl 0), some (.inl 1)], [.inr 198, .inr 192], _)) rfl ?_
  refine b_vN (as := [.inr 198]) (rest := []) (k := 192) okX8_passesAll rfl lkX8_158 caX8_passes (Nat.le_of_ble_eq_true rfl) rfl (Nat.le_of_ble_eq_true rfl) rfl rfl rfl (c_keep_kp (u := 28) (by simp only [wrL_len]; exact hkt) (by omega) (by omega)) ?_
  refine b_cast (f' := (53, [some (.inr 192), some (.inl 0), some (.inl 1)], [], [A0, A1, A2, A3, A4, A5, (modSeg re k f c n kp l tp le la td (wrL (wrL (wrL (wrL (wrL kt k 0 7) f 7 7) c 14 7) n 21 7) kp 28 7) sh so had gr fi se to (p : Int) t d tl at_ sn him 1 35 ou st rm)])) rfl ?_
  refine aGo okX8_passesAll 3 (f' := (58, [some (.inr 192), some (.inl 0), some (.inl 1)], [.inr 199, .inr 192], _)) rfl ?_
  refine b_vN (as := [.inr 199]) (rest := []) (k := 192) okX8_passesAll rfl lkX8_158 caX8_passes (Nat.le_of_ble_eq_true rfl) rfl (Nat.le_of_ble_eq_true rfl) rfl rfl rfl (c_keep_l (u := 35) (by simp only [wrL_len]; exact hkt) (by omega) (by omega)) ?_
  refine b_cast (f' := (61, [some (.inr 192), some (.inl 0), some (.inl 1)], [], [A0, A1, A2, A3, A4, A5, (modSeg re k f c n kp l tp le la td (wrL (wrL (wrL (wrL (wrL (wrL kt k 0 7) f 7 7) c 14 7) n 21 7) kp 28 7) l 35 49) sh so had gr fi se to (p : Int) t d tl at_ sn him 1 84 ou st rm)])) rfl ?_
  refine aGo okX8_passesAll 4 (f' := (67, [some (.inr 192), some (.inl 0), some (.inl 1)], [.inl (p : Int), .inr 192, .inr 192], _)) rfl ?_
  refine b_vE (as := [.inl (p : Int)]) (rest := [.inr 192]) (k := 192) okX8_passesAll rfl lkX8_162 caX8_passOne (Nat.le_of_ble_eq_true rfl) rfl (Nat.le_of_ble_eq_true rfl) rfl rfl rfl (c_one_k (u := 84) (by simp only [List.length_set, wrL_len]; omega) (by omega)) ?_
  rintro _ _ ⟨rfl, rfl⟩
  refine aGo okX8_passesAll 5 (f' := (79, [some (.inr 192), some (.inl 0), some (.inl 1)], [.inl t, .inr 192, .inr 192], [A0, A1, A2, A3, A4, A5, (modSeg re k f c n kp l tp le la td ((wrL (wrL (wrL (wrL (wrL (wrL kt k 0 7) f 7 7) c 14 7) n 21 7) kp 28 7) l 35 49).set 84 (p : Int)) sh so had gr fi se to (p : Int) t d tl at_ sn him 1 85 ou st rm)])) rfl ?_
  refine b_vE (as := [.inl t]) (rest := [.inr 192]) (k := 192) okX8_passesAll rfl lkX8_162 caX8_passOne (Nat.le_of_ble_eq_true rfl) rfl (Nat.le_of_ble_eq_true rfl) rfl rfl rfl (c_one_k (u := 85) (by simp only [List.length_set, wrL_len]; omega) (by omega)) ?_
  rintro _ _ ⟨rfl, rfl⟩
  refine aGo okX8_passesAll 5 (f' := (91, [some (.inr 192), some (.inl 0), some (.inl 1)], [.inl d, .inr 192, .inr 192], [A0, A1, A2, A3, A4, A5, (modSeg re k f c n kp l tp le la td (((wrL (wrL (wrL (wrL (wrL (wrL kt k 0 7) f 7 7) c 14 7) n 21 7) kp 28 7) l 35 49).set 84 (p : Int)).set 85 t) sh so had gr fi se to (p : Int) t d tl at_ sn him 1 86 ou st rm)])) rfl ?_
  refine b_vE (as := [.inl d]) (rest := [.inr 192]) (k := 192) okX8_passesAll rfl lkX8_162 caX8_passOne (Nat.le_of_ble_eq_true rfl) rfl (Nat.le_of_ble_eq_true rfl) rfl rfl rfl (c_one_k (u := 86) (by simp only [List.length_set, wrL_len]; omega) (by omega)) ?_
  rintro _ _ ⟨rfl, rfl⟩
  refine aGo okX8_passesAll 1 (f' := (97, [some (.inr 192), some (.inl 0), some (.inl 1)], [], [A0, A1, A2, A3, A4, A5, (modSeg re k f c n kp l tp le la td ((((wrL (wrL (wrL (wrL (wrL (wrL kt k 0 7) f 7 7) c 14 7) n 21 7) kp 28 7) l 35 49).set 84 (p : Int)).set 85 t).set 86 d) sh so had gr fi se to (p : Int) t d tl at_ sn him 1 87 ou st rm)])) rfl ?_
  exact b_ret (v := none) ⟨rfl, rfl⟩ ⟨rfl, keepL 0 kt k f c n kp l (p : Int) t d, by rw [keepL_len]; exact hkt, hld_keep (by omega), fun j hj => keepL_out (by omega), rfl⟩ rfl
set_option maxRecDepth 100000 in
set_option maxHeartbeats 4000000 in
theorem c_all_0b {K F C Nn KP L : List Int} {P : Nat} {T D : Int} (hk : k.length = 7) (hf : f.length = 7) (hc : c.length = 7) (hn : n.length = 7) (hkp : kp.length = 7) (hl : l.length = 49) (hK7 : K.length = 7) (hF7 : F.length = 7) (hC7 : C.length = 7) (hNn7 : Nn.length = 7) (hKP7 : KP.length = 7) (hL7 : L.length = 49) (hkt : kt.length = 270) (hh : hld 0 kt K F C Nn KP L (P : Int) T D) : aEv mX8_passesAll 1 0 0 N [.inr 192, .inl 0, .inl 0] [A0, A1, A2, A3, A4, A5, (modSeg re k f c n kp l tp le la td kt sh so had gr fi se to (p : Int) t d tl at_ sn him ik cu ou st rm)] ((aQx (none) [A0, A1, A2, A3, A4, A5, (modSeg re K F C Nn KP L tp le la td kt sh so had gr fi se to (P : Int) T D tl at_ sn him 0 87 ou st rm)])) := by
  obtain ⟨gk, gf, gc, gn, gkp, gl, gP, gT, gD⟩ := hh
  refine aEv_of okX8_passesAll caX8_passesAll (Nat.le_of_ble_eq_true rfl) ?_
  refine aGo okX8_passesAll 11 (f' := (18, [some (.inr 192), some (.inl 0), some (.inl 0)], [.inr 194, .inr 192], [A0, A1, A2, A3, A4, A5, (modSeg re k f c n kp l tp le la td kt sh so had gr fi se to (p : Int) t d tl at_ sn him 0 0 ou st rm)])) rfl ?_
  refine b_vN (as := [.inr 194]) (rest := []) (k := 192) okX8_passesAll rfl lkX8_158 caX8_passes (Nat.le_of_ble_eq_true rfl) rfl (Nat.le_of_ble_eq_true rfl) rfl rfl rfl ((c_back_k (u := 0) hkt (by omega) (by omega))) ?_
  refine b_cast (f' := (21, [some (.inr 192), some (.inl 0), some (.inl 0)], [], [A0, A1, A2, A3, A4, A5, (modSeg re (rdL k kt 0 7) f c n kp l tp le la td kt sh so had gr fi se to (p : Int) t d tl at_ sn him 0 7 ou st rm)])) rfl ?_
  refine b_cast (f' := (21, [some (.inr 192), some (.inl 0), some (.inl 0)], [], [A0, A1, A2, A3, A4, A5, (modSeg re K f c n kp l tp le la td kt sh so had gr fi se to (p : Int) t d tl at_ sn him 0 7 ou st rm)])) (by rw [rd_eq (O := K) (by omega) (by omega) gk]) ?_
  refine aGo okX8_passesAll 3 (f' := (26, [some (.inr 192), some (.inl 0), some (.inl 0)], [.inr 195, .inr 192], _)) rfl ?_
  refine b_vN (as := [.inr 195]) (rest := []) (k := 192) okX8_passesAll rfl lkX8_158 caX8_passes (Nat.le_of_ble_eq_true rfl) rfl (Nat.le_of_ble_eq_true rfl) rfl rfl rfl ((c_back_f (u := 7) hkt (by omega) (by omega))) ?_
  refine b_cast (f' := (29, [some (.inr 192), some (.inl 0), some (.inl 0)], [], [A0, A1, A2, A3, A4, A5, (modSeg re K (rdL f kt 7 7) c n kp l tp le la td kt sh so had gr fi se to (p : Int) t d tl at_ sn him 0 14 ou st rm)])) rfl ?_
  refine b_cast (f' := (29, [some (.inr 192), some (.inl 0), some (.inl 0)], [], [A0, A1, A2, A3, A4, A5, (modSeg re K F c n kp l tp le la td kt sh so had gr fi se to (p : Int) t d tl at_ sn him 0 14 ou st rm)])) (by rw [rd_eq (O := F) (by omega) (by omega) gf]) ?_
  refine aGo okX8_passesAll 3 (f' := (34, [some (.inr 192), some (.inl 0), some (.inl 0)], [.inr 196, .inr 192], _)) rfl ?_
  refine b_vN (as := [.inr 196]) (rest := []) (k := 192) okX8_passesAll rfl lkX8_158 caX8_passes (Nat.le_of_ble_eq_true rfl) rfl (Nat.le_of_ble_eq_true rfl) rfl rfl rfl ((c_back_c (u := 14) hkt (by omega) (by omega))) ?_
  refine b_cast (f' := (37, [some (.inr 192), some (.inl 0), some (.inl 0)], [], [A0, A1, A2, A3, A4, A5, (modSeg re K F (rdL c kt 14 7) n kp l tp le la td kt sh so had gr fi se to (p : Int) t d tl at_ sn him 0 21 ou st rm)])) rfl ?_
  refine b_cast (f' := (37, [some (.inr 192), some (.inl 0), some (.inl 0)], [], [A0, A1, A2, A3, A4, A5, (modSeg re K F C n kp l tp le la td kt sh so had gr fi se to (p : Int) t d tl at_ sn him 0 21 ou st rm)])) (by rw [rd_eq (O := C) (by omega) (by omega) gc]) ?_
  refine aGo okX8_passesAll 3 (f' := (42, [some (.inr 192), some (.inl 0), some (.inl 0)], [.inr 197, .inr 192], _)) rfl ?_
  refine b_vN (as := [.inr 197]) (rest := []) (k := 192) okX8_passesAll rfl lkX8_158 caX8_passes (Nat.le_of_ble_eq_true rfl) rfl (Nat.le_of_ble_eq_true rfl) rfl rfl rfl ((c_back_n (u := 21) hkt (by omega) (by omega))) ?_
  refine b_cast (f' := (45, [some (.inr 192), some (.inl 0), some (.inl 0)], [], [A0, A1, A2, A3, A4, A5, (modSeg re K F C (rdL n kt 21 7) kp l tp le la td kt sh so had gr fi se to (p : Int) t d tl at_ sn him 0 28 ou st rm)])) rfl ?_
  refine b_cast (f' := (45, [some (.inr 192), some (.inl 0), some (.inl 0)], [], [A0, A1, A2, A3, A4, A5, (modSeg re K F C Nn kp l tp le la td kt sh so had gr fi se to (p : Int) t d tl at_ sn him 0 28 ou st rm)])) (by rw [rd_eq (O := Nn) (by omega) (by omega) gn]) ?_
  refine aGo okX8_passesAll 3 (f' := (50, [some (.inr 192), some (.inl 0), some (.inl 0)], [.inr 198, .inr 192], _)) rfl ?_
  refine b_vN (as := [.inr 198]) (rest := []) (k := 192) okX8_passesAll rfl lkX8_158 caX8_passes (Nat.le_of_ble_eq_true rfl) rfl (Nat.le_of_ble_eq_true rfl) rfl rfl rfl ((c_back_kp (u := 28) hkt (by omega) (by omega))) ?_
  refine b_cast (f' := (53, [some (.inr 192), some (.inl 0), some (.inl 0)], [], [A0, A1, A2, A3, A4, A5, (modSeg re K F C Nn (rdL kp kt 28 7) l tp le la td kt sh so had gr fi se to (p : Int) t d tl at_ sn him 0 35 ou st rm)])) rfl ?_
  refine b_cast (f' := (53, [some (.inr 192), some (.inl 0), some (.inl 0)], [], [A0, A1, A2, A3, A4, A5, (modSeg re K F C Nn KP l tp le la td kt sh so had gr fi se to (p : Int) t d tl at_ sn him 0 35 ou st rm)])) (by rw [rd_eq (O := KP) (by omega) (by omega) gkp]) ?_
  refine aGo okX8_passesAll 3 (f' := (58, [some (.inr 192), some (.inl 0), some (.inl 0)], [.inr 199, .inr 192], _)) rfl ?_
  refine b_vN (as := [.inr 199]) (rest := []) (k := 192) okX8_passesAll rfl lkX8_158 caX8_passes (Nat.le_of_ble_eq_true rfl) rfl (Nat.le_of_ble_eq_true rfl) rfl rfl rfl ((c_back_l (u := 35) hkt (by omega) (by omega))) ?_
  refine b_cast (f' := (61, [some (.inr 192), some (.inl 0), some (.inl 0)], [], [A0, A1, A2, A3, A4, A5, (modSeg re K F C Nn KP (rdL l kt 35 49) tp le la td kt sh so had gr fi se to (p : Int) t d tl at_ sn him 0 84 ou st rm)])) rfl ?_
  refine b_cast (f' := (61, [some (.inr 192), some (.inl 0), some (.inl 0)], [], [A0, A1, A2, A3, A4, A5, (modSeg re K F C Nn KP L tp le la td kt sh so had gr fi se to (p : Int) t d tl at_ sn him 0 84 ou st rm)])) (by rw [rd_eq (O := L) (by omega) (by omega) gl]) ?_
  refine aGo okX8_passesAll 4 (f' := (67, [some (.inr 192), some (.inl 0), some (.inl 0)], [.inl (p : Int), .inr 192, .inr 192], _)) rfl ?_
  refine b_vE (as := [.inl (p : Int)]) (rest := [.inr 192]) (k := 192) okX8_passesAll rfl lkX8_162 caX8_passOne (Nat.le_of_ble_eq_true rfl) rfl (Nat.le_of_ble_eq_true rfl) rfl rfl rfl (c_one_b (u := 84) hkt (by omega)) ?_
  rintro _ _ ⟨rfl, rfl⟩
  refine b_cast (f' := (70, [some (.inr 192), some (.inl 0), some (.inl 0)], [.inl (kt.getD 84 0), .inr 192], [A0, A1, A2, A3, A4, A5, (modSeg re K F C Nn KP L tp le la td kt sh so had gr fi se to (p : Int) t d tl at_ sn him 0 85 ou st rm)])) rfl ?_
  refine b_cast (f' := (70, [some (.inr 192), some (.inl 0), some (.inl 0)], [.inl (P : Int), .inr 192], [A0, A1, A2, A3, A4, A5, (modSeg re K F C Nn KP L tp le la td kt sh so had gr fi se to (p : Int) t d tl at_ sn him 0 85 ou st rm)])) (congrArg (fun q : Int => ((70, [some (.inr 192), some (.inl 0), some (.inl 0)], .inl q :: [.inr 192], [A0, A1, A2, A3, A4, A5, (modSeg re K F C Nn KP L tp le la td kt sh so had gr fi se to (p : Int) t d tl at_ sn him 0 85 ou st rm)]) : aF)) gP) ?_
  refine aGo okX8_passesAll 5 (f' := (79, [some (.inr 192), some (.inl 0), some (.inl 0)], [.inl t, .inr 192, .inr 192], [A0, A1, A2, A3, A4, A5, (modSeg re K F C Nn KP L tp le la td kt sh so had gr fi se to (P : Int) t d tl at_ sn him 0 85 ou st rm)])) rfl ?_
  refine b_vE (as := [.inl t]) (rest := [.inr 192]) (k := 192) okX8_passesAll rfl lkX8_162 caX8_passOne (Nat.le_of_ble_eq_true rfl) rfl (Nat.le_of_ble_eq_true rfl) rfl rfl rfl (c_one_b (u := 85) hkt (by omega)) ?_
  rintro _ _ ⟨rfl, rfl⟩
  refine b_cast (f' := (82, [some (.inr 192), some (.inl 0), some (.inl 0)], [.inl (kt.getD 85 0), .inr 192], [A0, A1, A2, A3, A4, A5, (modSeg re K F C Nn KP L tp le la td kt sh so had gr fi se to (P : Int) t d tl at_ sn him 0 86 ou st rm)])) rfl ?_
  refine b_cast (f' := (82, [some (.inr 192), some (.inl 0), some (.inl 0)], [.inl T, .inr 192], [A0, A1, A2, A3, A4, A5, (modSeg re K F C Nn KP L tp le la td kt sh so had gr fi se to (P : Int) t d tl at_ sn him 0 86 ou st rm)])) (congrArg (fun q : Int => ((82, [some (.inr 192), some (.inl 0), some (.inl 0)], .inl q :: [.inr 192], [A0, A1, A2, A3, A4, A5, (modSeg re K F C Nn KP L tp le la td kt sh so had gr fi se to (P : Int) t d tl at_ sn him 0 86 ou st rm)]) : aF)) gT) ?_
  refine aGo okX8_passesAll 5 (f' := (91, [some (.inr 192), some (.inl 0), some (.inl 0)], [.inl d, .inr 192, .inr 192], [A0, A1, A2, A3, A4, A5, (modSeg re K F C Nn KP L tp le la td kt sh so had gr fi se to (P : Int) T d tl at_ sn him 0 86 ou st rm)])) rfl ?_
  refine b_vE (as := [.inl d]) (rest := [.inr 192]) (k := 192) okX8_passesAll rfl lkX8_162 caX8_passOne (Nat.le_of_ble_eq_true rfl) rfl (Nat.le_of_ble_eq_true rfl) rfl rfl rfl (c_one_b (u := 86) hkt (by omega)) ?_
  rintro _ _ ⟨rfl, rfl⟩
  refine b_cast (f' := (94, [some (.inr 192), some (.inl 0), some (.inl 0)], [.inl (kt.getD 86 0), .inr 192], [A0, A1, A2, A3, A4, A5, (modSeg re K F C Nn KP L tp le la td kt sh so had gr fi se to (P : Int) T d tl at_ sn him 0 87 ou st rm)])) rfl ?_
  refine b_cast (f' := (94, [some (.inr 192), some (.inl 0), some (.inl 0)], [.inl D, .inr 192], [A0, A1, A2, A3, A4, A5, (modSeg re K F C Nn KP L tp le la td kt sh so had gr fi se to (P : Int) T d tl at_ sn him 0 87 ou st rm)])) (congrArg (fun q : Int => ((94, [some (.inr 192), some (.inl 0), some (.inl 0)], .inl q :: [.inr 192], [A0, A1, A2, A3, A4, A5, (modSeg re K F C Nn KP L tp le la td kt sh so had gr fi se to (P : Int) T d tl at_ sn him 0 87 ou st rm)]) : aF)) gD) ?_
  refine aGo okX8_passesAll 1 (f' := (97, [some (.inr 192), some (.inl 0), some (.inl 0)], [], [A0, A1, A2, A3, A4, A5, (modSeg re K F C Nn KP L tp le la td kt sh so had gr fi se to (P : Int) T D tl at_ sn him 0 87 ou st rm)])) rfl ?_
  exact b_ret (v := none) ⟨rfl, rfl⟩ ⟨rfl, rfl⟩ rfl
set_option maxRecDepth 100000 in
set_option maxHeartbeats 4000000 in
theorem c_all_1k (hb : bOK p k f c n kp l t d) (hkt : kt.length = 270) : aEv mX8_passesAll 1 0 0 N [.inr 192, .inl 1, .inl 1] [A0, A1, A2, A3, A4, A5, (modSeg re k f c n kp l tp le la td kt sh so had gr fi se to (p : Int) t d tl at_ sn him ik cu ou st rm)] ((fun rv h => rv = none ∧ ∃ kt2 : List Int, kt2.length = 270 ∧ hld 1 kt2 k f c n kp l (p : Int) t d ∧ (∀ j, j < 90 ∨ 177 ≤ j → kt2.getD j 0 = kt.getD j 0) ∧ h = [A0, A1, A2, A3, A4, A5, (modSeg re k f c n kp l tp le la td kt2 sh so had gr fi se to (p : Int) t d tl at_ sn him 1 177 ou st rm)])) := by
  obtain ⟨hp7, hk, hf, hc, hn, hkp, hl, rk, rf, rc, rn, rkp, rl, ht0, ht1, hd0, hd1⟩ := id hb
  refine aEv_of okX8_passesAll caX8_passesAll (Nat.le_of_ble_eq_true rfl) ?_
  refine aGo okX8_passesAll 11 (f' := (18, [some (.inr 192), some (.inl 1), some (.inl 1)], [.inr 194, .inr 192], [A0, A1, A2, A3, A4, A5, (modSeg re k f c n kp l tp le la td kt sh so had gr fi se to (p : Int) t d tl at_ sn him 1 90 ou st rm)])) rfl ?_
  refine b_vN (as := [.inr 194]) (rest := []) (k := 192) okX8_passesAll rfl lkX8_158 caX8_passes (Nat.le_of_ble_eq_true rfl) rfl (Nat.le_of_ble_eq_true rfl) rfl rfl rfl (c_keep_k (u := 90) hkt (by omega) (by omega)) ?_
  refine b_cast (f' := (21, [some (.inr 192), some (.inl 1), some (.inl 1)], [], [A0, A1, A2, A3, A4, A5, (modSeg re k f c n kp l tp le la td (wrL kt k 90 7) sh so had gr fi se to (p : Int) t d tl at_ sn him 1 97 ou st rm)])) rfl ?_
  refine aGo okX8_passesAll 3 (f' := (26, [some (.inr 192), some (.inl 1), some (.inl 1)], [.inr 195, .inr 192], _)) rfl ?_
  refine b_vN (as := [.inr 195]) (rest := []) (k := 192) okX8_passesAll rfl lkX8_158 caX8_passes (Nat.le_of_ble_eq_true rfl) rfl (Nat.le_of_ble_eq_true rfl) rfl rfl rfl (c_keep_f (u := 97) (by simp only [wrL_len]; exact hkt) (by omega) (by omega)) ?_
  refine b_cast (f' := (29, [some (.inr 192), some (.inl 1), some (.inl 1)], [], [A0, A1, A2, A3, A4, A5, (modSeg re k f c n kp l tp le la td (wrL (wrL kt k 90 7) f 97 7) sh so had gr fi se to (p : Int) t d tl at_ sn him 1 104 ou st rm)])) rfl ?_
  refine aGo okX8_passesAll 3 (f' := (34, [some (.inr 192), some (.inl 1), some (.inl 1)], [.inr 196, .inr 192], _)) rfl ?_
  refine b_vN (as := [.inr 196]) (rest := []) (k := 192) okX8_passesAll rfl lkX8_158 caX8_passes (Nat.le_of_ble_eq_true rfl) rfl (Nat.le_of_ble_eq_true rfl) rfl rfl rfl (c_keep_c (u := 104) (by simp only [wrL_len]; exact hkt) (by omega) (by omega)) ?_
  refine b_cast (f' := (37, [some (.inr 192), some (.inl 1), some (.inl 1)], [], [A0, A1, A2, A3, A4, A5, (modSeg re k f c n kp l tp le la td (wrL (wrL (wrL kt k 90 7) f 97 7) c 104 7) sh so had gr fi se to (p : Int) t d tl at_ sn him 1 111 ou st rm)])) rfl ?_
  refine aGo okX8_passesAll 3 (f' := (42, [some (.inr 192), some (.inl 1), some (.inl 1)], [.inr 197, .inr 192], _)) rfl ?_
  refine b_vN (as := [.inr 197]) (rest := []) (k := 192) okX8_passesAll rfl lkX8_158 caX8_passes (Nat.le_of_ble_eq_true rfl) rfl (Nat.le_of_ble_eq_true rfl) rfl rfl rfl (c_keep_n (u := 111) (by simp only [wrL_len]; exact hkt) (by omega) (by omega)) ?_
  refine b_cast (f' := (45, [some (.inr 192), some (.inl 1), some (.inl 1)], [], [A0, A1, A2, A3, A4, A5, (modSeg re k f c n kp l tp le la td (wrL (wrL (wrL (wrL kt k 90 7) f 97 7) c 104 7) n 111 7) sh so had gr fi se to (p : Int) t d tl at_ sn him 1 118 ou st rm)])) rfl ?_
  refine aGo okX8_passesAll 3 (f' := (50, [some (.inr 192), some (.inl 1), some (.inl 1)], [.inr 198, .inr 192], _)) rfl ?_
  refine b_vN (as := [.inr 198]) (rest := []) (k := 192) okX8_passesAll rfl lkX8_158 caX8_passes (Nat.le_of_ble_eq_true rfl) rfl (Nat.le_of_ble_eq_true rfl) rfl rfl rfl (c_keep_kp (u := 118) (by simp only [wrL_len]; exact hkt) (by omega) (by omega)) ?_
  refine b_cast (f' := (53, [some (.inr 192), some (.inl 1), some (.inl 1)], [], [A0, A1, A2, A3, A4, A5, (modSeg re k f c n kp l tp le la td (wrL (wrL (wrL (wrL (wrL kt k 90 7) f 97 7) c 104 7) n 111 7) kp 118 7) sh so had gr fi se to (p : Int) t d tl at_ sn him 1 125 ou st rm)])) rfl ?_
  refine aGo okX8_passesAll 3 (f' := (58, [some (.inr 192), some (.inl 1), some (.inl 1)], [.inr 199, .inr 192], _)) rfl ?_
  refine b_vN (as := [.inr 199]) (rest := []) (k := 192) okX8_passesAll rfl lkX8_158 caX8_passes (Nat.le_of_ble_eq_true rfl) rfl (Nat.le_of_ble_eq_true rfl) rfl rfl rfl (c_keep_l (u := 125) (by simp only [wrL_len]; exact hkt) (by omega) (by omega)) ?_
  refine b_cast (f' := (61, [some (.inr 192), some (.inl 1), some (.inl 1)], [], [A0, A1, A2, A3, A4, A5, (modSeg re k f c n kp l tp le la td (wrL (wrL (wrL (wrL (wrL (wrL kt k 90 7) f 97 7) c 104 7) n 111 7) kp 118 7) l 125 49) sh so had gr fi se to (p : Int) t d tl at_ sn him 1 174 ou st rm)])) rfl ?_
  refine aGo okX8_passesAll 4 (f' := (67, [some (.inr 192), some (.inl 1), some (.inl 1)], [.inl (p : Int), .inr 192, .inr 192], _)) rfl ?_
  refine b_vE (as := [.inl (p : Int)]) (rest := [.inr 192]) (k := 192) okX8_passesAll rfl lkX8_162 caX8_passOne (Nat.le_of_ble_eq_true rfl) rfl (Nat.le_of_ble_eq_true rfl) rfl rfl rfl (c_one_k (u := 174) (by simp only [List.length_set, wrL_len]; omega) (by omega)) ?_
  rintro _ _ ⟨rfl, rfl⟩
  refine aGo okX8_passesAll 5 (f' := (79, [some (.inr 192), some (.inl 1), some (.inl 1)], [.inl t, .inr 192, .inr 192], [A0, A1, A2, A3, A4, A5, (modSeg re k f c n kp l tp le la td ((wrL (wrL (wrL (wrL (wrL (wrL kt k 90 7) f 97 7) c 104 7) n 111 7) kp 118 7) l 125 49).set 174 (p : Int)) sh so had gr fi se to (p : Int) t d tl at_ sn him 1 175 ou st rm)])) rfl ?_
  refine b_vE (as := [.inl t]) (rest := [.inr 192]) (k := 192) okX8_passesAll rfl lkX8_162 caX8_passOne (Nat.le_of_ble_eq_true rfl) rfl (Nat.le_of_ble_eq_true rfl) rfl rfl rfl (c_one_k (u := 175) (by simp only [List.length_set, wrL_len]; omega) (by omega)) ?_
  rintro _ _ ⟨rfl, rfl⟩
  refine aGo okX8_passesAll 5 (f' := (91, [some (.inr 192), some (.inl 1), some (.inl 1)], [.inl d, .inr 192, .inr 192], [A0, A1, A2, A3, A4, A5, (modSeg re k f c n kp l tp le la td (((wrL (wrL (wrL (wrL (wrL (wrL kt k 90 7) f 97 7) c 104 7) n 111 7) kp 118 7) l 125 49).set 174 (p : Int)).set 175 t) sh so had gr fi se to (p : Int) t d tl at_ sn him 1 176 ou st rm)])) rfl ?_
  refine b_vE (as := [.inl d]) (rest := [.inr 192]) (k := 192) okX8_passesAll rfl lkX8_162 caX8_passOne (Nat.le_of_ble_eq_true rfl) rfl (Nat.le_of_ble_eq_true rfl) rfl rfl rfl (c_one_k (u := 176) (by simp only [List.length_set, wrL_len]; omega) (by omega)) ?_
  rintro _ _ ⟨rfl, rfl⟩
  refine aGo okX8_passesAll 1 (f' := (97, [some (.inr 192), some (.inl 1), some (.inl 1)], [], [A0, A1, A2, A3, A4, A5, (modSeg re k f c n kp l tp le la td ((((wrL (wrL (wrL (wrL (wrL (wrL kt k 90 7) f 97 7) c 104 7) n 111 7) kp 118 7) l 125 49).set 174 (p : Int)).set 175 t).set 176 d) sh so had gr fi se to (p : Int) t d tl at_ sn him 1 177 ou st rm)])) rfl ?_
  exact b_ret (v := none) ⟨rfl, rfl⟩ ⟨rfl, keepL 1 kt k f c n kp l (p : Int) t d, by rw [keepL_len]; exact hkt, hld_keep (by omega), fun j hj => keepL_out (by omega), rfl⟩ rfl
set_option maxRecDepth 100000 in
set_option maxHeartbeats 4000000 in
theorem c_all_1b {K F C Nn KP L : List Int} {P : Nat} {T D : Int} (hk : k.length = 7) (hf : f.length = 7) (hc : c.length = 7) (hn : n.length = 7) (hkp : kp.length = 7) (hl : l.length = 49) (hK7 : K.length = 7) (hF7 : F.length = 7) (hC7 : C.length = 7) (hNn7 : Nn.length = 7) (hKP7 : KP.length = 7) (hL7 : L.length = 49) (hkt : kt.length = 270) (hh : hld 1 kt K F C Nn KP L (P : Int) T D) : aEv mX8_passesAll 1 0 0 N [.inr 192, .inl 1, .inl 0] [A0, A1, A2, A3, A4, A5, (modSeg re k f c n kp l tp le la td kt sh so had gr fi se to (p : Int) t d tl at_ sn him ik cu ou st rm)] ((aQx (none) [A0, A1, A2, A3, A4, A5, (modSeg re K F C Nn KP L tp le la td kt sh so had gr fi se to (P : Int) T D tl at_ sn him 0 177 ou st rm)])) := by
  obtain ⟨gk, gf, gc, gn, gkp, gl, gP, gT, gD⟩ := hh
  refine aEv_of okX8_passesAll caX8_passesAll (Nat.le_of_ble_eq_true rfl) ?_
  refine aGo okX8_passesAll 11 (f' := (18, [some (.inr 192), some (.inl 1), some (.inl 0)], [.inr 194, .inr 192], [A0, A1, A2, A3, A4, A5, (modSeg re k f c n kp l tp le la td kt sh so had gr fi se to (p : Int) t d tl at_ sn him 0 90 ou st rm)])) rfl ?_
  refine b_vN (as := [.inr 194]) (rest := []) (k := 192) okX8_passesAll rfl lkX8_158 caX8_passes (Nat.le_of_ble_eq_true rfl) rfl (Nat.le_of_ble_eq_true rfl) rfl rfl rfl ((c_back_k (u := 90) hkt (by omega) (by omega))) ?_
  refine b_cast (f' := (21, [some (.inr 192), some (.inl 1), some (.inl 0)], [], [A0, A1, A2, A3, A4, A5, (modSeg re (rdL k kt 90 7) f c n kp l tp le la td kt sh so had gr fi se to (p : Int) t d tl at_ sn him 0 97 ou st rm)])) rfl ?_
  refine b_cast (f' := (21, [some (.inr 192), some (.inl 1), some (.inl 0)], [], [A0, A1, A2, A3, A4, A5, (modSeg re K f c n kp l tp le la td kt sh so had gr fi se to (p : Int) t d tl at_ sn him 0 97 ou st rm)])) (by rw [rd_eq (O := K) (by omega) (by omega) gk]) ?_
  refine aGo okX8_passesAll 3 (f' := (26, [some (.inr 192), some (.inl 1), some (.inl 0)], [.inr 195, .inr 192], _)) rfl ?_
  refine b_vN (as := [.inr 195]) (rest := []) (k := 192) okX8_passesAll rfl lkX8_158 caX8_passes (Nat.le_of_ble_eq_true rfl) rfl (Nat.le_of_ble_eq_true rfl) rfl rfl rfl ((c_back_f (u := 97) hkt (by omega) (by omega))) ?_
  refine b_cast (f' := (29, [some (.inr 192), some (.inl 1), some (.inl 0)], [], [A0, A1, A2, A3, A4, A5, (modSeg re K (rdL f kt 97 7) c n kp l tp le la td kt sh so had gr fi se to (p : Int) t d tl at_ sn him 0 104 ou st rm)])) rfl ?_
  refine b_cast (f' := (29, [some (.inr 192), some (.inl 1), some (.inl 0)], [], [A0, A1, A2, A3, A4, A5, (modSeg re K F c n kp l tp le la td kt sh so had gr fi se to (p : Int) t d tl at_ sn him 0 104 ou st rm)])) (by rw [rd_eq (O := F) (by omega) (by omega) gf]) ?_
  refine aGo okX8_passesAll 3 (f' := (34, [some (.inr 192), some (.inl 1), some (.inl 0)], [.inr 196, .inr 192], _)) rfl ?_
  refine b_vN (as := [.inr 196]) (rest := []) (k := 192) okX8_passesAll rfl lkX8_158 caX8_passes (Nat.le_of_ble_eq_true rfl) rfl (Nat.le_of_ble_eq_true rfl) rfl rfl rfl ((c_back_c (u := 104) hkt (by omega) (by omega))) ?_
  refine b_cast (f' := (37, [some (.inr 192), some (.inl 1), some (.inl 0)], [], [A0, A1, A2, A3, A4, A5, (modSeg re K F (rdL c kt 104 7) n kp l tp le la td kt sh so had gr fi se to (p : Int) t d tl at_ sn him 0 111 ou st rm)])) rfl ?_
  refine b_cast (f' := (37, [some (.inr 192), some (.inl 1), some (.inl 0)], [], [A0, A1, A2, A3, A4, A5, (modSeg re K F C n kp l tp le la td kt sh so had gr fi se to (p : Int) t d tl at_ sn him 0 111 ou st rm)])) (by rw [rd_eq (O := C) (by omega) (by omega) gc]) ?_
  refine aGo okX8_passesAll 3 (f' := (42, [some (.inr 192), some (.inl 1), some (.inl 0)], [.inr 197, .inr 192], _)) rfl ?_
  refine b_vN (as := [.inr 197]) (rest := []) (k := 192) okX8_passesAll rfl lkX8_158 caX8_passes (Nat.le_of_ble_eq_true rfl) rfl (Nat.le_of_ble_eq_true rfl) rfl rfl rfl ((c_back_n (u := 111) hkt (by omega) (by omega))) ?_
  refine b_cast (f' := (45, [some (.inr 192), some (.inl 1), some (.inl 0)], [], [A0, A1, A2, A3, A4, A5, (modSeg re K F C (rdL n kt 111 7) kp l tp le la td kt sh so had gr fi se to (p : Int) t d tl at_ sn him 0 118 ou st rm)])) rfl ?_
  refine b_cast (f' := (45, [some (.inr 192), some (.inl 1), some (.inl 0)], [], [A0, A1, A2, A3, A4, A5, (modSeg re K F C Nn kp l tp le la td kt sh so had gr fi se to (p : Int) t d tl at_ sn him 0 118 ou st rm)])) (by rw [rd_eq (O := Nn) (by omega) (by omega) gn]) ?_
  refine aGo okX8_passesAll 3 (f' := (50, [some (.inr 192), some (.inl 1), some (.inl 0)], [.inr 198, .inr 192], _)) rfl ?_
  refine b_vN (as := [.inr 198]) (rest := []) (k := 192) okX8_passesAll rfl lkX8_158 caX8_passes (Nat.le_of_ble_eq_true rfl) rfl (Nat.le_of_ble_eq_true rfl) rfl rfl rfl ((c_back_kp (u := 118) hkt (by omega) (by omega))) ?_
  refine b_cast (f' := (53, [some (.inr 192), some (.inl 1), some (.inl 0)], [], [A0, A1, A2, A3, A4, A5, (modSeg re K F C Nn (rdL kp kt 118 7) l tp le la td kt sh so had gr fi se to (p : Int) t d tl at_ sn him 0 125 ou st rm)])) rfl ?_
  refine b_cast (f' := (53, [some (.inr 192), some (.inl 1), some (.inl 0)], [], [A0, A1, A2, A3, A4, A5, (modSeg re K F C Nn KP l tp le la td kt sh so had gr fi se to (p : Int) t d tl at_ sn him 0 125 ou st rm)])) (by rw [rd_eq (O := KP) (by omega) (by omega) gkp]) ?_
  refine aGo okX8_passesAll 3 (f' := (58, [some (.inr 192), some (.inl 1), some (.inl 0)], [.inr 199, .inr 192], _)) rfl ?_
  refine b_vN (as := [.inr 199]) (rest := []) (k := 192) okX8_passesAll rfl lkX8_158 caX8_passes (Nat.le_of_ble_eq_true rfl) rfl (Nat.le_of_ble_eq_true rfl) rfl rfl rfl ((c_back_l (u := 125) hkt (by omega) (by omega))) ?_
  refine b_cast (f' := (61, [some (.inr 192), some (.inl 1), some (.inl 0)], [], [A0, A1, A2, A3, A4, A5, (modSeg re K F C Nn KP (rdL l kt 125 49) tp le la td kt sh so had gr fi se to (p : Int) t d tl at_ sn him 0 174 ou st rm)])) rfl ?_
  refine b_cast (f' := (61, [some (.inr 192), some (.inl 1), some (.inl 0)], [], [A0, A1, A2, A3, A4, A5, (modSeg re K F C Nn KP L tp le la td kt sh so had gr fi se to (p : Int) t d tl at_ sn him 0 174 ou st rm)])) (by rw [rd_eq (O := L) (by omega) (by omega) gl]) ?_
  refine aGo okX8_passesAll 4 (f' := (67, [some (.inr 192), some (.inl 1), some (.inl 0)], [.inl (p : Int), .inr 192, .inr 192], _)) rfl ?_
  refine b_vE (as := [.inl (p : Int)]) (rest := [.inr 192]) (k := 192) okX8_passesAll rfl lkX8_162 caX8_passOne (Nat.le_of_ble_eq_true rfl) rfl (Nat.le_of_ble_eq_true rfl) rfl rfl rfl (c_one_b (u := 174) hkt (by omega)) ?_
  rintro _ _ ⟨rfl, rfl⟩
  refine b_cast (f' := (70, [some (.inr 192), some (.inl 1), some (.inl 0)], [.inl (kt.getD 174 0), .inr 192], [A0, A1, A2, A3, A4, A5, (modSeg re K F C Nn KP L tp le la td kt sh so had gr fi se to (p : Int) t d tl at_ sn him 0 175 ou st rm)])) rfl ?_
  refine b_cast (f' := (70, [some (.inr 192), some (.inl 1), some (.inl 0)], [.inl (P : Int), .inr 192], [A0, A1, A2, A3, A4, A5, (modSeg re K F C Nn KP L tp le la td kt sh so had gr fi se to (p : Int) t d tl at_ sn him 0 175 ou st rm)])) (congrArg (fun q : Int => ((70, [some (.inr 192), some (.inl 1), some (.inl 0)], .inl q :: [.inr 192], [A0, A1, A2, A3, A4, A5, (modSeg re K F C Nn KP L tp le la td kt sh so had gr fi se to (p : Int) t d tl at_ sn him 0 175 ou st rm)]) : aF)) gP) ?_
  refine aGo okX8_passesAll 5 (f' := (79, [some (.inr 192), some (.inl 1), some (.inl 0)], [.inl t, .inr 192, .inr 192], [A0, A1, A2, A3, A4, A5, (modSeg re K F C Nn KP L tp le la td kt sh so had gr fi se to (P : Int) t d tl at_ sn him 0 175 ou st rm)])) rfl ?_
  refine b_vE (as := [.inl t]) (rest := [.inr 192]) (k := 192) okX8_passesAll rfl lkX8_162 caX8_passOne (Nat.le_of_ble_eq_true rfl) rfl (Nat.le_of_ble_eq_true rfl) rfl rfl rfl (c_one_b (u := 175) hkt (by omega)) ?_
  rintro _ _ ⟨rfl, rfl⟩
  refine b_cast (f' := (82, [some (.inr 192), some (.inl 1), some (.inl 0)], [.inl (kt.getD 175 0), .inr 192], [A0, A1, A2, A3, A4, A5, (modSeg re K F C Nn KP L tp le la td kt sh so had gr fi se to (P : Int) t d tl at_ sn him 0 176 ou st rm)])) rfl ?_
  refine b_cast (f' := (82, [some (.inr 192), some (.inl 1), some (.inl 0)], [.inl T, .inr 192], [A0, A1, A2, A3, A4, A5, (modSeg re K F C Nn KP L tp le la td kt sh so had gr fi se to (P : Int) t d tl at_ sn him 0 176 ou st rm)])) (congrArg (fun q : Int => ((82, [some (.inr 192), some (.inl 1), some (.inl 0)], .inl q :: [.inr 192], [A0, A1, A2, A3, A4, A5, (modSeg re K F C Nn KP L tp le la td kt sh so had gr fi se to (P : Int) t d tl at_ sn him 0 176 ou st rm)]) : aF)) gT) ?_
  refine aGo okX8_passesAll 5 (f' := (91, [some (.inr 192), some (.inl 1), some (.inl 0)], [.inl d, .inr 192, .inr 192], [A0, A1, A2, A3, A4, A5, (modSeg re K F C Nn KP L tp le la td kt sh so had gr fi se to (P : Int) T d tl at_ sn him 0 176 ou st rm)])) rfl ?_
  refine b_vE (as := [.inl d]) (rest := [.inr 192]) (k := 192) okX8_passesAll rfl lkX8_162 caX8_passOne (Nat.le_of_ble_eq_true rfl) rfl (Nat.le_of_ble_eq_true rfl) rfl rfl rfl (c_one_b (u := 176) hkt (by omega)) ?_
  rintro _ _ ⟨rfl, rfl⟩
  refine b_cast (f' := (94, [some (.inr 192), some (.inl 1), some (.inl 0)], [.inl (kt.getD 176 0), .inr 192], [A0, A1, A2, A3, A4, A5, (modSeg re K F C Nn KP L tp le la td kt sh so had gr fi se to (P : Int) T d tl at_ sn him 0 177 ou st rm)])) rfl ?_
  refine b_cast (f' := (94, [some (.inr 192), some (.inl 1), some (.inl 0)], [.inl D, .inr 192], [A0, A1, A2, A3, A4, A5, (modSeg re K F C Nn KP L tp le la td kt sh so had gr fi se to (P : Int) T d tl at_ sn him 0 177 ou st rm)])) (congrArg (fun q : Int => ((94, [some (.inr 192), some (.inl 1), some (.inl 0)], .inl q :: [.inr 192], [A0, A1, A2, A3, A4, A5, (modSeg re K F C Nn KP L tp le la td kt sh so had gr fi se to (P : Int) T d tl at_ sn him 0 177 ou st rm)]) : aF)) gD) ?_
  refine aGo okX8_passesAll 1 (f' := (97, [some (.inr 192), some (.inl 1), some (.inl 0)], [], [A0, A1, A2, A3, A4, A5, (modSeg re K F C Nn KP L tp le la td kt sh so had gr fi se to (P : Int) T D tl at_ sn him 0 177 ou st rm)])) rfl ?_
  exact b_ret (v := none) ⟨rfl, rfl⟩ ⟨rfl, rfl⟩ rfl
set_option maxRecDepth 100000 in
set_option maxHeartbeats 4000000 in
theorem c_all_2k (hb : bOK p k f c n kp l t d) (hkt : kt.length = 270) : aEv mX8_passesAll 1 0 0 N [.inr 192, .inl 2, .inl 1] [A0, A1, A2, A3, A4, A5, (modSeg re k f c n kp l tp le la td kt sh so had gr fi se to (p : Int) t d tl at_ sn him ik cu ou st rm)] ((fun rv h => rv = none ∧ ∃ kt2 : List Int, kt2.length = 270 ∧ hld 2 kt2 k f c n kp l (p : Int) t d ∧ (∀ j, j < 180 ∨ 267 ≤ j → kt2.getD j 0 = kt.getD j 0) ∧ h = [A0, A1, A2, A3, A4, A5, (modSeg re k f c n kp l tp le la td kt2 sh so had gr fi se to (p : Int) t d tl at_ sn him 1 267 ou st rm)])) := by
  obtain ⟨hp7, hk, hf, hc, hn, hkp, hl, rk, rf, rc, rn, rkp, rl, ht0, ht1, hd0, hd1⟩ := id hb
  refine aEv_of okX8_passesAll caX8_passesAll (Nat.le_of_ble_eq_true rfl) ?_
  refine aGo okX8_passesAll 11 (f' := (18, [some (.inr 192), some (.inl 2), some (.inl 1)], [.inr 194, .inr 192], [A0, A1, A2, A3, A4, A5, (modSeg re k f c n kp l tp le la td kt sh so had gr fi se to (p : Int) t d tl at_ sn him 1 180 ou st rm)])) rfl ?_
  refine b_vN (as := [.inr 194]) (rest := []) (k := 192) okX8_passesAll rfl lkX8_158 caX8_passes (Nat.le_of_ble_eq_true rfl) rfl (Nat.le_of_ble_eq_true rfl) rfl rfl rfl (c_keep_k (u := 180) hkt (by omega) (by omega)) ?_
  refine b_cast (f' := (21, [some (.inr 192), some (.inl 2), some (.inl 1)], [], [A0, A1, A2, A3, A4, A5, (modSeg re k f c n kp l tp le la td (wrL kt k 180 7) sh so had gr fi se to (p : Int) t d tl at_ sn him 1 187 ou st rm)])) rfl ?_
  refine aGo okX8_passesAll 3 (f' := (26, [some (.inr 192), some (.inl 2), some (.inl 1)], [.inr 195, .inr 192], _)) rfl ?_
  refine b_vN (as := [.inr 195]) (rest := []) (k := 192) okX8_passesAll rfl lkX8_158 caX8_passes (Nat.le_of_ble_eq_true rfl) rfl (Nat.le_of_ble_eq_true rfl) rfl rfl rfl (c_keep_f (u := 187) (by simp only [wrL_len]; exact hkt) (by omega) (by omega)) ?_
  refine b_cast (f' := (29, [some (.inr 192), some (.inl 2), some (.inl 1)], [], [A0, A1, A2, A3, A4, A5, (modSeg re k f c n kp l tp le la td (wrL (wrL kt k 180 7) f 187 7) sh so had gr fi se to (p : Int) t d tl at_ sn him 1 194 ou st rm)])) rfl ?_
  refine aGo okX8_passesAll 3 (f' := (34, [some (.inr 192), some (.inl 2), some (.inl 1)], [.inr 196, .inr 192], _)) rfl ?_
  refine b_vN (as := [.inr 196]) (rest := []) (k := 192) okX8_passesAll rfl lkX8_158 caX8_passes (Nat.le_of_ble_eq_true rfl) rfl (Nat.le_of_ble_eq_true rfl) rfl rfl rfl (c_keep_c (u := 194) (by simp only [wrL_len]; exact hkt) (by omega) (by omega)) ?_
  refine b_cast (f' := (37, [some (.inr 192), some (.inl 2), some (.inl 1)], [], [A0, A1, A2, A3, A4, A5, (modSeg re k f c n kp l tp le la td (wrL (wrL (wrL kt k 180 7) f 187 7) c 194 7) sh so had gr fi se to (p : Int) t d tl at_ sn him 1 201 ou st rm)])) rfl ?_
  refine aGo okX8_passesAll 3 (f' := (42, [some (.inr 192), some (.inl 2), some (.inl 1)], [.inr 197, .inr 192], _)) rfl ?_
  refine b_vN (as := [.inr 197]) (rest := []) (k := 192) okX8_passesAll rfl lkX8_158 caX8_passes (Nat.le_of_ble_eq_true rfl) rfl (Nat.le_of_ble_eq_true rfl) rfl rfl rfl (c_keep_n (u := 201) (by simp only [wrL_len]; exact hkt) (by omega) (by omega)) ?_
  refine b_cast (f' := (45, [some (.inr 192), some (.inl 2), some (.inl 1)], [], [A0, A1, A2, A3, A4, A5, (modSeg re k f c n kp l tp le la td (wrL (wrL (wrL (wrL kt k 180 7) f 187 7) c 194 7) n 201 7) sh so had gr fi se to (p : Int) t d tl at_ sn him 1 208 ou st rm)])) rfl ?_
  refine aGo okX8_passesAll 3 (f' := (50, [some (.inr 192), some (.inl 2), some (.inl 1)], [.inr 198, .inr 192], _)) rfl ?_
  refine b_vN (as := [.inr 198]) (rest := []) (k := 192) okX8_passesAll rfl lkX8_158 caX8_passes (Nat.le_of_ble_eq_true rfl) rfl (Nat.le_of_ble_eq_true rfl) rfl rfl rfl (c_keep_kp (u := 208) (by simp only [wrL_len]; exact hkt) (by omega) (by omega)) ?_
  refine b_cast (f' := (53, [some (.inr 192), some (.inl 2), some (.inl 1)], [], [A0, A1, A2, A3, A4, A5, (modSeg re k f c n kp l tp le la td (wrL (wrL (wrL (wrL (wrL kt k 180 7) f 187 7) c 194 7) n 201 7) kp 208 7) sh so had gr fi se to (p : Int) t d tl at_ sn him 1 215 ou st rm)])) rfl ?_
  refine aGo okX8_passesAll 3 (f' := (58, [some (.inr 192), some (.inl 2), some (.inl 1)], [.inr 199, .inr 192], _)) rfl ?_
  refine b_vN (as := [.inr 199]) (rest := []) (k := 192) okX8_passesAll rfl lkX8_158 caX8_passes (Nat.le_of_ble_eq_true rfl) rfl (Nat.le_of_ble_eq_true rfl) rfl rfl rfl (c_keep_l (u := 215) (by simp only [wrL_len]; exact hkt) (by omega) (by omega)) ?_
  refine b_cast (f' := (61, [some (.inr 192), some (.inl 2), some (.inl 1)], [], [A0, A1, A2, A3, A4, A5, (modSeg re k f c n kp l tp le la td (wrL (wrL (wrL (wrL (wrL (wrL kt k 180 7) f 187 7) c 194 7) n 201 7) kp 208 7) l 215 49) sh so had gr fi se to (p : Int) t d tl at_ sn him 1 264 ou st rm)])) rfl ?_
  refine aGo okX8_passesAll 4 (f' := (67, [some (.inr 192), some (.inl 2), some (.inl 1)], [.inl (p : Int), .inr 192, .inr 192], _)) rfl ?_
  refine b_vE (as := [.inl (p : Int)]) (rest := [.inr 192]) (k := 192) okX8_passesAll rfl lkX8_162 caX8_passOne (Nat.le_of_ble_eq_true rfl) rfl (Nat.le_of_ble_eq_true rfl) rfl rfl rfl (c_one_k (u := 264) (by simp only [List.length_set, wrL_len]; omega) (by omega)) ?_
  rintro _ _ ⟨rfl, rfl⟩
  refine aGo okX8_passesAll 5 (f' := (79, [some (.inr 192), some (.inl 2), some (.inl 1)], [.inl t, .inr 192, .inr 192], [A0, A1, A2, A3, A4, A5, (modSeg re k f c n kp l tp le la td ((wrL (wrL (wrL (wrL (wrL (wrL kt k 180 7) f 187 7) c 194 7) n 201 7) kp 208 7) l 215 49).set 264 (p : Int)) sh so had gr fi se to (p : Int) t d tl at_ sn him 1 265 ou st rm)])) rfl ?_
  refine b_vE (as := [.inl t]) (rest := [.inr 192]) (k := 192) okX8_passesAll rfl lkX8_162 caX8_passOne (Nat.le_of_ble_eq_true rfl) rfl (Nat.le_of_ble_eq_true rfl) rfl rfl rfl (c_one_k (u := 265) (by simp only [List.length_set, wrL_len]; omega) (by omega)) ?_
  rintro _ _ ⟨rfl, rfl⟩
  refine aGo okX8_passesAll 5 (f' := (91, [some (.inr 192), some (.inl 2), some (.inl 1)], [.inl d, .inr 192, .inr 192], [A0, A1, A2, A3, A4, A5, (modSeg re k f c n kp l tp le la td (((wrL (wrL (wrL (wrL (wrL (wrL kt k 180 7) f 187 7) c 194 7) n 201 7) kp 208 7) l 215 49).set 264 (p : Int)).set 265 t) sh so had gr fi se to (p : Int) t d tl at_ sn him 1 266 ou st rm)])) rfl ?_
  refine b_vE (as := [.inl d]) (rest := [.inr 192]) (k := 192) okX8_passesAll rfl lkX8_162 caX8_passOne (Nat.le_of_ble_eq_true rfl) rfl (Nat.le_of_ble_eq_true rfl) rfl rfl rfl (c_one_k (u := 266) (by simp only [List.length_set, wrL_len]; omega) (by omega)) ?_
  rintro _ _ ⟨rfl, rfl⟩
  refine aGo okX8_passesAll 1 (f' := (97, [some (.inr 192), some (.inl 2), some (.inl 1)], [], [A0, A1, A2, A3, A4, A5, (modSeg re k f c n kp l tp le la td ((((wrL (wrL (wrL (wrL (wrL (wrL kt k 180 7) f 187 7) c 194 7) n 201 7) kp 208 7) l 215 49).set 264 (p : Int)).set 265 t).set 266 d) sh so had gr fi se to (p : Int) t d tl at_ sn him 1 267 ou st rm)])) rfl ?_
  exact b_ret (v := none) ⟨rfl, rfl⟩ ⟨rfl, keepL 2 kt k f c n kp l (p : Int) t d, by rw [keepL_len]; exact hkt, hld_keep (by omega), fun j hj => keepL_out (by omega), rfl⟩ rfl
set_option maxRecDepth 100000 in
set_option maxHeartbeats 4000000 in
theorem c_all_2b {K F C Nn KP L : List Int} {P : Nat} {T D : Int} (hk : k.length = 7) (hf : f.length = 7) (hc : c.length = 7) (hn : n.length = 7) (hkp : kp.length = 7) (hl : l.length = 49) (hK7 : K.length = 7) (hF7 : F.length = 7) (hC7 : C.length = 7) (hNn7 : Nn.length = 7) (hKP7 : KP.length = 7) (hL7 : L.length = 49) (hkt : kt.length = 270) (hh : hld 2 kt K F C Nn KP L (P : Int) T D) : aEv mX8_passesAll 1 0 0 N [.inr 192, .inl 2, .inl 0] [A0, A1, A2, A3, A4, A5, (modSeg re k f c n kp l tp le la td kt sh so had gr fi se to (p : Int) t d tl at_ sn him ik cu ou st rm)] ((aQx (none) [A0, A1, A2, A3, A4, A5, (modSeg re K F C Nn KP L tp le la td kt sh so had gr fi se to (P : Int) T D tl at_ sn him 0 267 ou st rm)])) := by
  obtain ⟨gk, gf, gc, gn, gkp, gl, gP, gT, gD⟩ := hh
  refine aEv_of okX8_passesAll caX8_passesAll (Nat.le_of_ble_eq_true rfl) ?_
  refine aGo okX8_passesAll 11 (f' := (18, [some (.inr 192), some (.inl 2), some (.inl 0)], [.inr 194, .inr 192], [A0, A1, A2, A3, A4, A5, (modSeg re k f c n kp l tp le la td kt sh so had gr fi se to (p : Int) t d tl at_ sn him 0 180 ou st rm)])) rfl ?_
  refine b_vN (as := [.inr 194]) (rest := []) (k := 192) okX8_passesAll rfl lkX8_158 caX8_passes (Nat.le_of_ble_eq_true rfl) rfl (Nat.le_of_ble_eq_true rfl) rfl rfl rfl ((c_back_k (u := 180) hkt (by omega) (by omega))) ?_
  refine b_cast (f' := (21, [some (.inr 192), some (.inl 2), some (.inl 0)], [], [A0, A1, A2, A3, A4, A5, (modSeg re (rdL k kt 180 7) f c n kp l tp le la td kt sh so had gr fi se to (p : Int) t d tl at_ sn him 0 187 ou st rm)])) rfl ?_
  refine b_cast (f' := (21, [some (.inr 192), some (.inl 2), some (.inl 0)], [], [A0, A1, A2, A3, A4, A5, (modSeg re K f c n kp l tp le la td kt sh so had gr fi se to (p : Int) t d tl at_ sn him 0 187 ou st rm)])) (by rw [rd_eq (O := K) (by omega) (by omega) gk]) ?_
  refine aGo okX8_passesAll 3 (f' := (26, [some (.inr 192), some (.inl 2), some (.inl 0)], [.inr 195, .inr 192], _)) rfl ?_
  refine b_vN (as := [.inr 195]) (rest := []) (k := 192) okX8_passesAll rfl lkX8_158 caX8_passes (Nat.le_of_ble_eq_true rfl) rfl (Nat.le_of_ble_eq_true rfl) rfl rfl rfl ((c_back_f (u := 187) hkt (by omega) (by omega))) ?_
  refine b_cast (f' := (29, [some (.inr 192), some (.inl 2), some (.inl 0)], [], [A0, A1, A2, A3, A4, A5, (modSeg re K (rdL f kt 187 7) c n kp l tp le la td kt sh so had gr fi se to (p : Int) t d tl at_ sn him 0 194 ou st rm)])) rfl ?_
  refine b_cast (f' := (29, [some (.inr 192), some (.inl 2), some (.inl 0)], [], [A0, A1, A2, A3, A4, A5, (modSeg re K F c n kp l tp le la td kt sh so had gr fi se to (p : Int) t d tl at_ sn him 0 194 ou st rm)])) (by rw [rd_eq (O := F) (by omega) (by omega) gf]) ?_
  refine aGo okX8_passesAll 3 (f' := (34, [some (.inr 192), some (.inl 2), some (.inl 0)], [.inr 196, .inr 192], _)) rfl ?_
  refine b_vN (as := [.inr 196]) (rest := []) (k := 192) okX8_passesAll rfl lkX8_158 caX8_passes (Nat.le_of_ble_eq_true rfl) rfl (Nat.le_of_ble_eq_true rfl) rfl rfl rfl ((c_back_c (u := 194) hkt (by omega) (by omega))) ?_
  refine b_cast (f' := (37, [some (.inr 192), some (.inl 2), some (.inl 0)], [], [A0, A1, A2, A3, A4, A5, (modSeg re K F (rdL c kt 194 7) n kp l tp le la td kt sh so had gr fi se to (p : Int) t d tl at_ sn him 0 201 ou st rm)])) rfl ?_
  refine b_cast (f' := (37, [some (.inr 192), some (.inl 2), some (.inl 0)], [], [A0, A1, A2, A3, A4, A5, (modSeg re K F C n kp l tp le la td kt sh so had gr fi se to (p : Int) t d tl at_ sn him 0 201 ou st rm)])) (by rw [rd_eq (O := C) (by omega) (by omega) gc]) ?_
  refine aGo okX8_passesAll 3 (f' := (42, [some (.inr 192), some (.inl 2), some (.inl 0)], [.inr 197, .inr 192], _)) rfl ?_
  refine b_vN (as := [.inr 197]) (rest := []) (k := 192) okX8_passesAll rfl lkX8_158 caX8_passes (Nat.le_of_ble_eq_true rfl) rfl (Nat.le_of_ble_eq_true rfl) rfl rfl rfl ((c_back_n (u := 201) hkt (by omega) (by omega))) ?_
  refine b_cast (f' := (45, [some (.inr 192), some (.inl 2), some (.inl 0)], [], [A0, A1, A2, A3, A4, A5, (modSeg re K F C (rdL n kt 201 7) kp l tp le la td kt sh so had gr fi se to (p : Int) t d tl at_ sn him 0 208 ou st rm)])) rfl ?_
  refine b_cast (f' := (45, [some (.inr 192), some (.inl 2), some (.inl 0)], [], [A0, A1, A2, A3, A4, A5, (modSeg re K F C Nn kp l tp le la td kt sh so had gr fi se to (p : Int) t d tl at_ sn him 0 208 ou st rm)])) (by rw [rd_eq (O := Nn) (by omega) (by omega) gn]) ?_
  refine aGo okX8_passesAll 3 (f' := (50, [some (.inr 192), some (.inl 2), some (.inl 0)], [.inr 198, .inr 192], _)) rfl ?_
  refine b_vN (as := [.inr 198]) (rest := []) (k := 192) okX8_passesAll rfl lkX8_158 caX8_passes (Nat.le_of_ble_eq_true rfl) rfl (Nat.le_of_ble_eq_true rfl) rfl rfl rfl ((c_back_kp (u := 208) hkt (by omega) (by omega))) ?_
  refine b_cast (f' := (53, [some (.inr 192), some (.inl 2), some (.inl 0)], [], [A0, A1, A2, A3, A4, A5, (modSeg re K F C Nn (rdL kp kt 208 7) l tp le la td kt sh so had gr fi se to (p : Int) t d tl at_ sn him 0 215 ou st rm)])) rfl ?_
  refine b_cast (f' := (53, [some (.inr 192), some (.inl 2), some (.inl 0)], [], [A0, A1, A2, A3, A4, A5, (modSeg re K F C Nn KP l tp le la td kt sh so had gr fi se to (p : Int) t d tl at_ sn him 0 215 ou st rm)])) (by rw [rd_eq (O := KP) (by omega) (by omega) gkp]) ?_
  refine aGo okX8_passesAll 3 (f' := (58, [some (.inr 192), some (.inl 2), some (.inl 0)], [.inr 199, .inr 192], _)) rfl ?_
  refine b_vN (as := [.inr 199]) (rest := []) (k := 192) okX8_passesAll rfl lkX8_158 caX8_passes (Nat.le_of_ble_eq_true rfl) rfl (Nat.le_of_ble_eq_true rfl) rfl rfl rfl ((c_back_l (u := 215) hkt (by omega) (by omega))) ?_
  refine b_cast (f' := (61, [some (.inr 192), some (.inl 2), some (.inl 0)], [], [A0, A1, A2, A3, A4, A5, (modSeg re K F C Nn KP (rdL l kt 215 49) tp le la td kt sh so had gr fi se to (p : Int) t d tl at_ sn him 0 264 ou st rm)])) rfl ?_
  refine b_cast (f' := (61, [some (.inr 192), some (.inl 2), some (.inl 0)], [], [A0, A1, A2, A3, A4, A5, (modSeg re K F C Nn KP L tp le la td kt sh so had gr fi se to (p : Int) t d tl at_ sn him 0 264 ou st rm)])) (by rw [rd_eq (O := L) (by omega) (by omega) gl]) ?_
  refine aGo okX8_passesAll 4 (f' := (67, [some (.inr 192), some (.inl 2), some (.inl 0)], [.inl (p : Int), .inr 192, .inr 192], _)) rfl ?_
  refine b_vE (as := [.inl (p : Int)]) (rest := [.inr 192]) (k := 192) okX8_passesAll rfl lkX8_162 caX8_passOne (Nat.le_of_ble_eq_true rfl) rfl (Nat.le_of_ble_eq_true rfl) rfl rfl rfl (c_one_b (u := 264) hkt (by omega)) ?_
  rintro _ _ ⟨rfl, rfl⟩
  refine b_cast (f' := (70, [some (.inr 192), some (.inl 2), some (.inl 0)], [.inl (kt.getD 264 0), .inr 192], [A0, A1, A2, A3, A4, A5, (modSeg re K F C Nn KP L tp le la td kt sh so had gr fi se to (p : Int) t d tl at_ sn him 0 265 ou st rm)])) rfl ?_
  refine b_cast (f' := (70, [some (.inr 192), some (.inl 2), some (.inl 0)], [.inl (P : Int), .inr 192], [A0, A1, A2, A3, A4, A5, (modSeg re K F C Nn KP L tp le la td kt sh so had gr fi se to (p : Int) t d tl at_ sn him 0 265 ou st rm)])) (congrArg (fun q : Int => ((70, [some (.inr 192), some (.inl 2), some (.inl 0)], .inl q :: [.inr 192], [A0, A1, A2, A3, A4, A5, (modSeg re K F C Nn KP L tp le la td kt sh so had gr fi se to (p : Int) t d tl at_ sn him 0 265 ou st rm)]) : aF)) gP) ?_
  refine aGo okX8_passesAll 5 (f' := (79, [some (.inr 192), some (.inl 2), some (.inl 0)], [.inl t, .inr 192, .inr 192], [A0, A1, A2, A3, A4, A5, (modSeg re K F C Nn KP L tp le la td kt sh so had gr fi se to (P : Int) t d tl at_ sn him 0 265 ou st rm)])) rfl ?_
  refine b_vE (as := [.inl t]) (rest := [.inr 192]) (k := 192) okX8_passesAll rfl lkX8_162 caX8_passOne (Nat.le_of_ble_eq_true rfl) rfl (Nat.le_of_ble_eq_true rfl) rfl rfl rfl (c_one_b (u := 265) hkt (by omega)) ?_
  rintro _ _ ⟨rfl, rfl⟩
  refine b_cast (f' := (82, [some (.inr 192), some (.inl 2), some (.inl 0)], [.inl (kt.getD 265 0), .inr 192], [A0, A1, A2, A3, A4, A5, (modSeg re K F C Nn KP L tp le la td kt sh so had gr fi se to (P : Int) t d tl at_ sn him 0 266 ou st rm)])) rfl ?_
  refine b_cast (f' := (82, [some (.inr 192), some (.inl 2), some (.inl 0)], [.inl T, .inr 192], [A0, A1, A2, A3, A4, A5, (modSeg re K F C Nn KP L tp le la td kt sh so had gr fi se to (P : Int) t d tl at_ sn him 0 266 ou st rm)])) (congrArg (fun q : Int => ((82, [some (.inr 192), some (.inl 2), some (.inl 0)], .inl q :: [.inr 192], [A0, A1, A2, A3, A4, A5, (modSeg re K F C Nn KP L tp le la td kt sh so had gr fi se to (P : Int) t d tl at_ sn him 0 266 ou st rm)]) : aF)) gT) ?_
  refine aGo okX8_passesAll 5 (f' := (91, [some (.inr 192), some (.inl 2), some (.inl 0)], [.inl d, .inr 192, .inr 192], [A0, A1, A2, A3, A4, A5, (modSeg re K F C Nn KP L tp le la td kt sh so had gr fi se to (P : Int) T d tl at_ sn him 0 266 ou st rm)])) rfl ?_
  refine b_vE (as := [.inl d]) (rest := [.inr 192]) (k := 192) okX8_passesAll rfl lkX8_162 caX8_passOne (Nat.le_of_ble_eq_true rfl) rfl (Nat.le_of_ble_eq_true rfl) rfl rfl rfl (c_one_b (u := 266) hkt (by omega)) ?_
  rintro _ _ ⟨rfl, rfl⟩
  refine b_cast (f' := (94, [some (.inr 192), some (.inl 2), some (.inl 0)], [.inl (kt.getD 266 0), .inr 192], [A0, A1, A2, A3, A4, A5, (modSeg re K F C Nn KP L tp le la td kt sh so had gr fi se to (P : Int) T d tl at_ sn him 0 267 ou st rm)])) rfl ?_
  refine b_cast (f' := (94, [some (.inr 192), some (.inl 2), some (.inl 0)], [.inl D, .inr 192], [A0, A1, A2, A3, A4, A5, (modSeg re K F C Nn KP L tp le la td kt sh so had gr fi se to (P : Int) T d tl at_ sn him 0 267 ou st rm)])) (congrArg (fun q : Int => ((94, [some (.inr 192), some (.inl 2), some (.inl 0)], .inl q :: [.inr 192], [A0, A1, A2, A3, A4, A5, (modSeg re K F C Nn KP L tp le la td kt sh so had gr fi se to (P : Int) T d tl at_ sn him 0 267 ou st rm)]) : aF)) gD) ?_
  refine aGo okX8_passesAll 1 (f' := (97, [some (.inr 192), some (.inl 2), some (.inl 0)], [], [A0, A1, A2, A3, A4, A5, (modSeg re K F C Nn KP L tp le la td kt sh so had gr fi se to (P : Int) T D tl at_ sn him 0 267 ou st rm)])) rfl ?_
  exact b_ret (v := none) ⟨rfl, rfl⟩ ⟨rfl, rfl⟩ rfl
set_option maxRecDepth 100000 in
set_option maxHeartbeats 4000000 in
theorem c_thinks (hb : bOK p k f c n kp l t d) (hkt : kt.length = 270) : aEv mX8_thinks 2 0 0 N [.inr 192] [A0, A1, A2, A3, A4, A5, (modSeg re k f c n kp l tp le la td kt sh so had gr fi se to (p : Int) t d tl at_ sn him ik cu ou st rm)] ((fun rv h => rv = none ∧ ∃ kt2 : List Int, kt2.length = 270 ∧ hld 2 kt2 k f c n kp l (p : Int) t d ∧ (∀ j, j < 180 → kt2.getD j 0 = kt.getD j 0) ∧ h = [A0, A1, A2, A3, A4, A5, (modSeg re k f c n kp l tp le la td kt2 sh so had gr fi se to (p : Int) t d tl at_ sn him 1 267 ou st rm)])) := by
  refine aEv_of okX8_thinks caX8_thinks (Nat.le_of_ble_eq_true rfl) ?_
  refine aGo okX8_thinks 3 (f' := (3, [some (.inr 192)], [.inl 1, .inl 2, .inr 192], _)) rfl ?_
  refine b_vE (as := [.inl 2, .inl 1]) (rest := []) (k := 192) okX8_thinks rfl lkX8_144 caX8_passesAll (Nat.le_of_ble_eq_true rfl) rfl (Nat.le_of_ble_eq_true rfl) rfl rfl rfl (c_all_2k hb hkt) ?_
  rintro _ _ ⟨rfl, kt2, q1, q2, q3, rfl⟩
  exact b_ret (v := none) ⟨rfl, rfl⟩ ⟨rfl, kt2, q1, q2, fun j hj => q3 j (Or.inl hj), rfl⟩ rfl
set_option maxRecDepth 100000 in
set_option maxHeartbeats 4000000 in
theorem c_forgets {K F C Nn KP L : List Int} {P : Nat} {T D : Int} (hk : k.length = 7) (hf : f.length = 7) (hc : c.length = 7) (hn : n.length = 7) (hkp : kp.length = 7) (hl : l.length = 49) (hK7 : K.length = 7) (hF7 : F.length = 7) (hC7 : C.length = 7) (hNn7 : Nn.length = 7) (hKP7 : KP.length = 7) (hL7 : L.length = 49) (hkt : kt.length = 270) (hh : hld 2 kt K F C Nn KP L (P : Int) T D) : aEv mX8_forgets 2 0 0 N [.inr 192] [A0, A1, A2, A3, A4, A5, (modSeg re k f c n kp l tp le la td kt sh so had gr fi se to (p : Int) t d tl at_ sn him ik cu ou st rm)] (aQx (none) [A0, A1, A2, A3, A4, A5, (modSeg re K F C Nn KP L tp le la td kt sh so had gr fi se to (P : Int) T D tl at_ sn him 0 267 ou st rm)]) := by
  refine aEv_of okX8_forgets caX8_forgets (Nat.le_of_ble_eq_true rfl) ?_
  refine aGo okX8_forgets 3 (f' := (3, [some (.inr 192)], [.inl 0, .inl 2, .inr 192], _)) rfl ?_
  refine b_vN (as := [.inl 2, .inl 0]) (rest := []) (k := 192) okX8_forgets rfl lkX8_144 caX8_passesAll (Nat.le_of_ble_eq_true rfl) rfl (Nat.le_of_ble_eq_true rfl) rfl rfl rfl (c_all_2b hk hf hc hn hkp hl hK7 hF7 hC7 hNn7 hKP7 hL7 hkt hh) ?_
  refine b_cast (f' := (6, [some (.inr 192)], [], [A0, A1, A2, A3, A4, A5, (modSeg re K F C Nn KP L tp le la td kt sh so had gr fi se to (P : Int) T D tl at_ sn him 0 267 ou st rm)])) rfl ?_
  exact b_ret (v := none) ⟨rfl, rfl⟩ ⟨rfl, rfl⟩ rfl
set_option maxRecDepth 100000 in
set_option maxHeartbeats 4000000 in
theorem c_adds {x y z v : Int} (hp6 : p ≤ 6) (hk : k.length = 7) (hf : f.length = 7) (hc : c.length = 7) (hn : n.length = 7) (hkp : kp.length = 7) (hl : l.length = 49) : aEv mX8_adds 0 0 0 N [.inr 192, .inl x, .inl y, .inl z, .inl v] [A0, A1, A2, A3, A4, A5, (modSeg re k f c n kp l tp le la td kt sh so had gr fi se to (p : Int) t d tl at_ sn him ik cu ou st rm)] ((aQx (none) [A0, A1, A2, A3, A4, A5, (modSeg re (k.set p x) (f.set p y) (c.set p z) (n.set p v) (kp.set p 0) (addL p l 7) tp le la td kt sh so had gr fi se to (((p + 1) : Nat) : Int) t d tl at_ sn him ik cu ou st rm)])) := by
  refine aEv_of okX8_adds caX8_adds (Nat.le_of_ble_eq_true rfl) ?_
  have lp : ∀ (j w : Nat), w + j = 7 → AW mX8_adds 0 0 0 N none (aQx (none) [A0, A1, A2, A3, A4, A5, (modSeg re (k.set p x) (f.set p y) (c.set p z) (n.set p v) (kp.set p 0) (addL p l 7) tp le la td kt sh so had gr fi se to (((p + 1) : Nat) : Int) t d tl at_ sn him ik cu ou st rm)]) (54, [some (.inr 192), some (.inl x), some (.inl y), some (.inl z), some (.inl v), some (.inl (w : Int))], [], [A0, A1, A2, A3, A4, A5, (modSeg re (k.set p x) (f.set p y) (c.set p z) (n.set p v) (kp.set p 0) (addL p l w) tp le la td kt sh so had gr fi se to (p : Int) t d tl at_ sn him ik cu ou st rm)]) := by
    intro j
    induction j with
    | zero =>
      intro w  hij 
      obtain rfl : 7 = w := by omega
      refine aGo okX8_adds 2 (f' := (58, [some (.inr 192), some (.inl x), some (.inl y), some (.inl z), some (.inl v), some (.inl (7 : Int))], [.inl 7, .inl (7 : Int)], _)) rfl ?_
      refine b_ge (tgt := 99) okX8_adds rfl rfl ⟨by omega, by omega⟩ ⟨by omega, by omega⟩ (fun h58 => ?_) (fun h58 => absurd h58 (by omega))
      refine aGo okX8_adds 6 (f' := (109, [some (.inr 192), some (.inl x), some (.inl y), some (.inl z), some (.inl v), some (.inl (7 : Int))], [], [A0, A1, A2, A3, A4, A5, (modSeg re (k.set p x) (f.set p y) (c.set p z) (n.set p v) (kp.set p 0) (addL p l 7) tp le la td kt sh so had gr fi se to ((p : Int) + 1) t d tl at_ sn him ik cu ou st rm)])) rfl ?_
      exact b_ret (v := none) ⟨rfl, rfl⟩ ⟨rfl, rfl⟩ rfl
    | succ j ih =>
      intro w  hij 
      refine aGo okX8_adds 2 (f' := (58, [some (.inr 192), some (.inl x), some (.inl y), some (.inl z), some (.inl v), some (.inl (w : Int))], [.inl 7, .inl (w : Int)], _)) rfl ?_
      refine b_ge (tgt := 99) okX8_adds rfl rfl ⟨by omega, by omega⟩ ⟨by omega, by omega⟩ (fun h58 => absurd h58 (by omega)) (fun h58 => ?_)
      refine aGo okX8_adds 9 (f' := (76, [some (.inr 192), some (.inl x), some (.inl y), some (.inl z), some (.inl v), some (.inl (w : Int))], [.inl 0, .inl ((7 * (p : Int)) + (w : Int)), .inr 199], _)) rfl ?_
      refine b_ast (k := 199) (j := ((7 * p) + w)) (a := (addL p l w)) okX8_adds rfl rfl (by omega) (by rw [addL_len]; omega) (by omega) ?_
      refine b_cast (f' := (77, [some (.inr 192), some (.inl x), some (.inl y), some (.inl z), some (.inl v), some (.inl (w : Int))], [], [A0, A1, A2, A3, A4, A5, (modSeg re (k.set p x) (f.set p y) (c.set p z) (n.set p v) (kp.set p 0) ((addL p l w).set ((7 * p) + w) 0) tp le la td kt sh so had gr fi se to (p : Int) t d tl at_ sn him ik cu ou st rm)])) rfl ?_
      refine aGo okX8_adds 9 (f' := (92, [some (.inr 192), some (.inl x), some (.inl y), some (.inl z), some (.inl v), some (.inl (w : Int))], [.inl 0, .inl ((7 * (w : Int)) + (p : Int)), .inr 199], _)) rfl ?_
      refine b_ast (k := 199) (j := ((7 * w) + p)) (a := (addL p l w).set ((7 * p) + w) 0) okX8_adds rfl rfl (by omega) (by rw [List.length_set, addL_len]; omega) (by omega) ?_
      refine b_cast (f' := (93, [some (.inr 192), some (.inl x), some (.inl y), some (.inl z), some (.inl v), some (.inl (w : Int))], [], [A0, A1, A2, A3, A4, A5, (modSeg re (k.set p x) (f.set p y) (c.set p z) (n.set p v) (kp.set p 0) (((addL p l w).set ((7 * p) + w) 0).set ((7 * w) + p) 0) tp le la td kt sh so had gr fi se to (p : Int) t d tl at_ sn him ik cu ou st rm)])) rfl ?_
      refine aGo okX8_adds 2 (f' := (54, [some (.inr 192), some (.inl x), some (.inl y), some (.inl z), some (.inl v), some (.inl ((w : Int) + 1))], [], _)) rfl ?_
      exact ih (w + 1) (by omega)
  refine aGo okX8_adds 5 (f' := (9, [some (.inr 192), some (.inl x), some (.inl y), some (.inl z), some (.inl v), none], [.inl x, .inl (p : Int), .inr 194], _)) rfl ?_
  refine b_ast (k := 194) (j := p) (a := k) okX8_adds rfl rfl (by omega) (by omega) (by omega) ?_
  refine b_cast (f' := (10, [some (.inr 192), some (.inl x), some (.inl y), some (.inl z), some (.inl v), none], [], [A0, A1, A2, A3, A4, A5, (modSeg re (k.set p x) f c n kp l tp le la td kt sh so had gr fi se to (p : Int) t d tl at_ sn him ik cu ou st rm)])) rfl ?_
  refine aGo okX8_adds 5 (f' := (19, [some (.inr 192), some (.inl x), some (.inl y), some (.inl z), some (.inl v), none], [.inl y, .inl (p : Int), .inr 195], _)) rfl ?_
  refine b_ast (k := 195) (j := p) (a := f) okX8_adds rfl rfl (by omega) (by omega) (by omega) ?_
  refine b_cast (f' := (20, [some (.inr 192), some (.inl x), some (.inl y), some (.inl z), some (.inl v), none], [], [A0, A1, A2, A3, A4, A5, (modSeg re (k.set p x) (f.set p y) c n kp l tp le la td kt sh so had gr fi se to (p : Int) t d tl at_ sn him ik cu ou st rm)])) rfl ?_
  refine aGo okX8_adds 5 (f' := (29, [some (.inr 192), some (.inl x), some (.inl y), some (.inl z), some (.inl v), none], [.inl z, .inl (p : Int), .inr 196], _)) rfl ?_
  refine b_ast (k := 196) (j := p) (a := c) okX8_adds rfl rfl (by omega) (by omega) (by omega) ?_
  refine b_cast (f' := (30, [some (.inr 192), some (.inl x), some (.inl y), some (.inl z), some (.inl v), none], [], [A0, A1, A2, A3, A4, A5, (modSeg re (k.set p x) (f.set p y) (c.set p z) n kp l tp le la td kt sh so had gr fi se to (p : Int) t d tl at_ sn him ik cu ou st rm)])) rfl ?_
  refine aGo okX8_adds 5 (f' := (40, [some (.inr 192), some (.inl x), some (.inl y), some (.inl z), some (.inl v), none], [.inl v, .inl (p : Int), .inr 197], _)) rfl ?_
  refine b_ast (k := 197) (j := p) (a := n) okX8_adds rfl rfl (by omega) (by omega) (by omega) ?_
  refine b_cast (f' := (41, [some (.inr 192), some (.inl x), some (.inl y), some (.inl z), some (.inl v), none], [], [A0, A1, A2, A3, A4, A5, (modSeg re (k.set p x) (f.set p y) (c.set p z) (n.set p v) kp l tp le la td kt sh so had gr fi se to (p : Int) t d tl at_ sn him ik cu ou st rm)])) rfl ?_
  refine aGo okX8_adds 5 (f' := (50, [some (.inr 192), some (.inl x), some (.inl y), some (.inl z), some (.inl v), none], [.inl 0, .inl (p : Int), .inr 198], _)) rfl ?_
  refine b_ast (k := 198) (j := p) (a := kp) okX8_adds rfl rfl (by omega) (by omega) (by omega) ?_
  refine b_cast (f' := (51, [some (.inr 192), some (.inl x), some (.inl y), some (.inl z), some (.inl v), none], [], [A0, A1, A2, A3, A4, A5, (modSeg re (k.set p x) (f.set p y) (c.set p z) (n.set p v) (kp.set p 0) l tp le la td kt sh so had gr fi se to (p : Int) t d tl at_ sn him ik cu ou st rm)])) rfl ?_
  refine aGo okX8_adds 2 (f' := (54, [some (.inr 192), some (.inl x), some (.inl y), some (.inl z), some (.inl v), some (.inl 0)], [], _)) rfl ?_
  exact lp 7 0 (by omega)
end AMD
