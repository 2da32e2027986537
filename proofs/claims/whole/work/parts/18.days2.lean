/-! Visits, told rows judged; laid by gen_days2.py -/
def visC (c : List Int) (d : Int) (i g x : Nat) : Int := if (d + (x : Int) + 1) % 7 = 1 then c.getD i 0 else c.getD g 0
def hasE (p : Nat) (k f c l : List Int) (t d : Int) (i g x : Nat) (q : Nat) : Int := shr p k f (c.set g (visC c d i g x)) t q - net p l q
def kpE (p : Nat) (k f c n l : List Int) (t d : Int) (i g : Nat) (kp : List Int) : Nat → List Int
  | 0 => kp
  | x + 1 => dayL p (kpE p k f c n l t d i g kp x) (hasE p k f c l t d i g x) n
theorem kpE_len (p : Nat) (k f c n l : List Int) (t d : Int) (i g : Nat) (kp : List Int) (x : Nat) : (kpE p k f c n l t d i g kp x).length = kp.length := by
  induction x with
  | zero => rfl
  | succ x ih => simp only [kpE, dayL_len, ih]
theorem kpE_rng {p : Nat} {k f c n l : List Int} {t d : Int} {i g : Nat} {kp : List Int} {x : Nat} (h : rng kp 9999) : rng (kpE p k f c n l t d i g kp x) 9999 := by
  induction x with
  | zero => exact h
  | succ x ih => exact dayL_rng ih
theorem set_self {l : List Int} {i : Nat} (h : i < l.length) : l.set i (l.getD i 0) = l := by
  apply List.ext_getElem?
  intro j
  by_cases e : j = i
  · subst e
    rw [List.getElem?_set_self h, List.getD_eq_getElem?_getD, List.getElem?_eq_getElem h]; rfl
  · rw [List.getElem?_set_ne (Ne.symm e)]
theorem visC_le {c : List Int} (rc : rng c 35) (d : Int) (i g x : Nat) : 0 ≤ visC c d i g x ∧ visC c d i g x ≤ 35 := by
  unfold visC; split
  · exact rc i
  · exact rc g
theorem visC_t {c : List Int} {d : Int} {i g x : Nat} (h : (d + (x : Int) + 1) % 7 = 1) : visC c d i g x = c.getD i 0 := if_pos h
theorem visC_f {c : List Int} {d : Int} {i g x : Nat} (h : ¬ (d + (x : Int) + 1) % 7 = 1) : visC c d i g x = c.getD g 0 := if_neg h
theorem kpE_day {p : Nat} {k f c n l : List Int} {t d : Int} {i g : Nat} {kp sh2 nt : List Int} {x : Nat} {v : Int} (hv : visC c d i g x = v) (hs : sOK p k f (c.set g v) sh2 t) (hn : nOK p l nt) : dayIt p (hasL sh2 nt) n 1 (kpE p k f c n l t d i g kp x) = kpE p k f c n l t d i g kp (x + 1) := by
  subst hv
  show dayL p _ _ _ = dayL p _ _ _
  refine dayL_congr (fun q hq => ?_) _ _ p (Nat.le_refl p)
  unfold hasL hasE
  rw [hs.2 q hq, hn.2 q hq]
theorem sOK_hle {p : Nat} {k f c l sh nt : List Int} {t : Int} (hp : p ≤ 7) (rf : rng f 9) (rc : rng c 35) (rl : rng l 99) (ht : 0 ≤ t ∧ t ≤ 999) (hs : sOK p k f c sh t) (hn : nOK p l nt) : ∀ q, q < p → -10000 ≤ sh.getD q 0 - nt.getD q 0 ∧ sh.getD q 0 - nt.getD q 0 ≤ 10000 := by
  intro q hq
  rw [hs.2 q hq, hn.2 q hq]
  exact hasM_le hp rf rc rl ht hq
section ADB
variable {A0 A3 B B2 B4 A5 C6 : List (Option aE)} {k f c n kp l nt w sh : List Int} {p : Nat} {t d wa : Int} {N : Nat} {z tl : Int} {fs ss sp la gr tp : List Int}
variable {to re : List Int}
set_option maxRecDepth 100000 in
set_option maxHeartbeats 4000000 in
theorem c_keptAfterVisits (hm : mOK p k f c n kp l nt w sh t d wa) (hB : thk B) {i g m : Nat} (hi : i < 7) (hg : g < 7) (hm2 : m ≤ 99) : aEv mX0_keptAfterVisits 5 0 0 N [.inr 96, .inl (i : Int), .inl (g : Int), .inl (m : Int)] [A0, (moSeg 32 k f c n kp l nt w sh (p : Int) t d wa), B, (miscSeg z fs ss sp la gr tl tp), B4, A5, C6] ((fun rv h => rv = some (.inl ((kpE p k f c n l t d i g kp m).getD g 0)) ∧ ∃ B2, thk B2 ∧ h = [A0, (moSeg 32 k f c n kp l nt w sh (p : Int) t d wa), B2, (miscSeg z fs ss sp la gr tl tp), B4, A5, C6])) := by
  obtain ⟨⟨hp7, hk, hf, hc, hn, hkp, hl, rk, rf, rc, rn, rkp, rl, ht0, ht1, hd0, hd1⟩, ⟨hnt, znt⟩, ⟨hw, zw, zwa⟩, ⟨hsh, zsh⟩⟩ := id hm
  have hle := mOK_hle hm
  obtain ⟨k0, f0, c0, n0, kp0, l0, nt0, w0, sh0, P0, t0, d0, wa0, hl0, rfl⟩ := hB
  have hnO : nOK p l nt := ⟨hnt, znt⟩
  refine aEv_of okX0_keptAfterVisits caX0_keptAfterVisits (Nat.le_of_ble_eq_true rfl) ?_
  have lp : ∀ (j x : Nat) (cv : Int) (w1 : List Int) (sh1 : List Int) (wa1 : Int), x + j = m → (w1.length = 7) → (sh1.length = 7) → (0 ≤ cv ∧ cv ≤ 35) → AW mX0_keptAfterVisits 5 0 0 N none (fun rv h => rv = some (.inl ((kpE p k f c n l t d i g kp m).getD g 0)) ∧ ∃ B2, thk B2 ∧ h = [A0, (moSeg 32 k f c n kp l nt w sh (p : Int) t d wa), B2, (miscSeg z fs ss sp la gr tl tp), B4, A5, C6]) (14, [some (.inr 96), some (.inl (i : Int)), some (.inl (g : Int)), some (.inl (m : Int)), some (.inl (x : Int)), none], [], [A0, (moSeg 32 k f c n kp l nt w sh (p : Int) t d wa), (moSeg 64 k f (c.set g cv) n (kpE p k f c n l t d i g kp x) l nt w1 sh1 (p : Int) t (d + (x : Int)) wa1), (miscSeg z fs ss sp la gr tl tp), B4, A5, C6]) := by
    intro j
    induction j with
    | zero =>
      intro x cv w1 sh1 wa1 hij q1 q2 q3
      obtain rfl : m = x := by omega
      have e0 : (kpE p k f c n l t d i g kp m).length = 7 := by rw [kpE_len]; exact hkp
      refine aGo okX0_keptAfterVisits 2 (f' := (17, [some (.inr 96), some (.inl (i : Int)), some (.inl (g : Int)), some (.inl (m : Int)), some (.inl (m : Int)), none], [.inl (m : Int), .inl (m : Int)], _)) rfl ?_
      refine b_ge (tgt := 90) okX0_keptAfterVisits rfl rfl ⟨by omega, by omega⟩ ⟨by omega, by omega⟩ (fun h17 => ?_) (fun h17 => absurd h17 (by omega))
      refine aGo okX0_keptAfterVisits 3 (f' := (95, [some (.inr 96), some (.inl (i : Int)), some (.inl (g : Int)), some (.inl (m : Int)), some (.inl (m : Int)), none], [.inl (g : Int), .inr 64], _)) rfl ?_
      refine b_vV (as := [.inl (g : Int)]) (rest := []) (k := 64) (.inl ((kpE p k f c n l t d i g kp m).getD g 0)) okX0_keptAfterVisits rfl lkX0_28 caX3_keptOf (Nat.le_of_ble_eq_true rfl) rfl (Nat.le_of_ble_eq_true rfl) rfl rfl rfl (c_keptOf_2 (i := g) (by first | omega | (simp only [List.length_set]; omega)) (by omega)) ?_
      exact b_ret (v := (some (.inl ((kpE p k f c n l t d i g kp m).getD g 0)))) ⟨rfl, Or.inl rfl⟩ ⟨rfl, _, thk_of ⟨hk, hf, (by rw [List.length_set]; exact hc), hn, (by rw [kpE_len]; exact hkp), hl, hnt, q1, q2⟩, rfl⟩ rfl
    | succ j ih =>
      intro x cv w1 sh1 wa1 hij q1 q2 q3
      refine aGo okX0_keptAfterVisits 2 (f' := (17, [some (.inr 96), some (.inl (i : Int)), some (.inl (g : Int)), some (.inl (m : Int)), some (.inl (x : Int)), none], [.inl (m : Int), .inl (x : Int)], _)) rfl ?_
      refine b_ge (tgt := 90) okX0_keptAfterVisits rfl rfl ⟨by omega, by omega⟩ ⟨by omega, by omega⟩ (fun h17 => absurd h17 (by omega)) (fun h17 => ?_)
      refine aGo okX0_keptAfterVisits 2 (f' := (24, [some (.inr 96), some (.inl (i : Int)), some (.inl (g : Int)), some (.inl (m : Int)), some (.inl (x : Int)), none], [.inr 64], _)) rfl ?_
      refine b_vV (as := []) (rest := []) (k := 64) (.inl (d + (x : Int))) okX0_keptAfterVisits rfl lkX0_35 caX3_day (Nat.le_of_ble_eq_true rfl) rfl (Nat.le_of_ble_eq_true rfl) rfl rfl rfl (c_day_2) ?_
      refine aGo okX0_keptAfterVisits 3 (f' := (31, [some (.inr 96), some (.inl (i : Int)), some (.inl (g : Int)), some (.inl (m : Int)), some (.inl (x : Int)), none], [.inl 7, .inl ((d + (x : Int)) + 1)], _)) rfl ?_
      refine b_rem okX0_keptAfterVisits rfl ⟨by omega, by omega⟩ ⟨by omega, by omega⟩ ?_
      refine aGo okX0_keptAfterVisits 1 (f' := (33, [some (.inr 96), some (.inl (i : Int)), some (.inl (g : Int)), some (.inl (m : Int)), some (.inl (x : Int)), none], [.inl 1, .inl (((d + (x : Int)) + 1) % 7)], _)) rfl ?_
      refine b_ne (tgt := 40) okX0_keptAfterVisits rfl rfl ⟨by omega, by omega⟩ ⟨by omega, by omega⟩ (fun h33 => ?_) (fun h33 => ?_)
      · refine aGo okX0_keptAfterVisits 6 (f' := (50, [some (.inr 96), some (.inl (i : Int)), some (.inl (g : Int)), some (.inl (m : Int)), some (.inl (x : Int)), some (.inl 0)], [.inl 0, .inl (g : Int), .inr 64], _)) rfl ?_
        refine b0_eq (tgt := 64) okX0_keptAfterVisits rfl rfl ⟨by omega, by omega⟩ (fun h50 => ?_) (fun h50 => absurd h50 (by omega))
        refine aGo okX0_keptAfterVisits 3 (f' := (69, [some (.inr 96), some (.inl (i : Int)), some (.inl (g : Int)), some (.inl (m : Int)), some (.inl (x : Int)), some (.inl 0)], [.inl (g : Int), .inr 32, .inl (g : Int), .inr 64], _)) rfl ?_
        refine b_vV (as := [.inl (g : Int)]) (rest := [.inl (g : Int), .inr 64]) (k := 32) (.inl (c.getD g 0)) okX0_keptAfterVisits rfl lkX0_38 caX3_cellOf (Nat.le_of_ble_eq_true rfl) rfl (Nat.le_of_ble_eq_true rfl) rfl rfl rfl (c_cellOf_1 (i := g) (by first | omega | (simp only [List.length_set]; omega)) (by omega)) ?_
        refine b_vE (as := [.inl (g : Int), .inl (c.getD g 0)]) (rest := []) (k := 64) okX0_keptAfterVisits rfl lkX0_41 caX3_place (Nat.le_of_ble_eq_true rfl) rfl (Nat.le_of_ble_eq_true rfl) rfl rfl rfl (c_place_2 ⟨hp7, hk, hf, (by rw [List.length_set]; exact hc), q1, q2, rk, rf, rng_set rc q3.1 q3.2, ht0, ht1⟩ (i := g) (by omega) (v := (c.getD g 0)) (rc _).1 (rc _).2) ?_
        rintro _ _ ⟨rfl, w2, sh2, zw2, zs2, rfl⟩
        rw [List.set_set] at zw2 zs2 ⊢
        have hvv : visC c d i g x = (c.getD g 0) := visC_f h33
        have hle2 := sOK_hle hp7 rf (rng_set rc (rc _).1 (rc _).2) rl ⟨ht0, ht1⟩ zs2 hnO
        refine aGo okX0_keptAfterVisits 3 (f' := (80, [some (.inr 96), some (.inl (i : Int)), some (.inl (g : Int)), some (.inl (m : Int)), some (.inl (x : Int)), some (.inl 0)], [.inl 1, .inr 64], _)) rfl ?_
        refine b_vV (as := [.inl 1]) (rest := []) (k := 64) (.inl (dayB p (hasL sh2 nt) n (kpE p k f c n l t d i g kp x) 1)) okX0_keptAfterVisits rfl lkX0_24 caX3_passDays (Nat.le_of_ble_eq_true rfl) rfl (Nat.le_of_ble_eq_true rfl) rfl rfl rfl (c_passDays_2 (m := 1) hp7 (by omega) (by rw [kpE_len]; exact hkp) hn zs2.1 hnt (kpE_rng rkp) rn hle2) ?_
        refine b_cast (f' := (83, [some (.inr 96), some (.inl (i : Int)), some (.inl (g : Int)), some (.inl (m : Int)), some (.inl (x : Int)), some (.inl 0)], [.inl (dayB p (hasL sh2 nt) n (kpE p k f c n l t d i g kp x) 1)], [A0, (moSeg 32 k f c n kp l nt w sh (p : Int) t d wa), (moSeg 64 k f (c.set g (c.getD g 0)) n (dayIt p (hasL sh2 nt) n 1 (kpE p k f c n l t d i g kp x)) l nt w2 sh2 (p : Int) t ((d + (x : Int)) + ((1 : Nat) : Int)) (wAll p k f (c.set g (c.getD g 0)))), (miscSeg z fs ss sp la gr tl tp), B4, A5, C6])) rfl ?_
        rw [kpE_day (kp := kp) hvv zs2 hnO]
        refine b_cast (f' := (83, [some (.inr 96), some (.inl (i : Int)), some (.inl (g : Int)), some (.inl (m : Int)), some (.inl (x : Int)), some (.inl 0)], [.inl (dayB p (hasL sh2 nt) n (kpE p k f c n l t d i g kp x) 1)], [A0, (moSeg 32 k f c n kp l nt w sh (p : Int) t d wa), (moSeg 64 k f (c.set g (c.getD g 0)) n (kpE p k f c n l t d i g kp (x + 1)) l nt w2 sh2 (p : Int) t (d + (((x + 1) : Nat) : Int)) (wAll p k f (c.set g (c.getD g 0)))), (miscSeg z fs ss sp la gr tl tp), B4, A5, C6])) (congrArg (fun q : Int => ((83, [some (.inr 96), some (.inl (i : Int)), some (.inl (g : Int)), some (.inl (m : Int)), some (.inl (x : Int)), some (.inl 0)], [.inl (dayB p (hasL sh2 nt) n (kpE p k f c n l t d i g kp x) 1)], [A0, (moSeg 32 k f c n kp l nt w sh (p : Int) t d wa), (moSeg 64 k f (c.set g (c.getD g 0)) n (kpE p k f c n l t d i g kp (x + 1)) l nt w2 sh2 (p : Int) t q (wAll p k f (c.set g (c.getD g 0)))), (miscSeg z fs ss sp la gr tl tp), B4, A5, C6]) : aF)) (show d + (x : Int) + ((1 : Nat) : Int) = d + ((x + 1 : Nat) : Int) by omega)) ?_
        refine aGo okX0_keptAfterVisits 3 (f' := (14, [some (.inr 96), some (.inl (i : Int)), some (.inl (g : Int)), some (.inl (m : Int)), some (.inl ((x : Int) + 1)), some (.inl 0)], [], _)) rfl ?_
        refine b_lose (ls' := [some (.inr 96), some (.inl (i : Int)), some (.inl (g : Int)), some (.inl (m : Int)), some (.inl ((x : Int) + 1)), none]) (lose5 _ _ _ _ _ _) ?_
        exact ih (x + 1) (c.getD g 0) w2 sh2 _ (by omega) zw2.1 zs2.1 (rc _)
      · refine aGo okX0_keptAfterVisits 7 (f' := (50, [some (.inr 96), some (.inl (i : Int)), some (.inl (g : Int)), some (.inl (m : Int)), some (.inl (x : Int)), some (.inl 1)], [.inl 1, .inl (g : Int), .inr 64], _)) rfl ?_
        refine b0_eq (tgt := 64) okX0_keptAfterVisits rfl rfl ⟨by omega, by omega⟩ (fun h50 => absurd h50 (by omega)) (fun h50 => ?_)
        refine aGo okX0_keptAfterVisits 3 (f' := (58, [some (.inr 96), some (.inl (i : Int)), some (.inl (g : Int)), some (.inl (m : Int)), some (.inl (x : Int)), some (.inl 1)], [.inl (i : Int), .inr 32, .inl (g : Int), .inr 64], _)) rfl ?_
        refine b_vV (as := [.inl (i : Int)]) (rest := [.inl (g : Int), .inr 64]) (k := 32) (.inl (c.getD i 0)) okX0_keptAfterVisits rfl lkX0_38 caX3_cellOf (Nat.le_of_ble_eq_true rfl) rfl (Nat.le_of_ble_eq_true rfl) rfl rfl rfl (c_cellOf_1 (i := i) (by first | omega | (simp only [List.length_set]; omega)) (by omega)) ?_
        refine aGo okX0_keptAfterVisits 1 (f' := (72, [some (.inr 96), some (.inl (i : Int)), some (.inl (g : Int)), some (.inl (m : Int)), some (.inl (x : Int)), some (.inl 1)], [.inl (c.getD i 0), .inl (g : Int), .inr 64], _)) rfl ?_
        refine b_vE (as := [.inl (g : Int), .inl (c.getD i 0)]) (rest := []) (k := 64) okX0_keptAfterVisits rfl lkX0_41 caX3_place (Nat.le_of_ble_eq_true rfl) rfl (Nat.le_of_ble_eq_true rfl) rfl rfl rfl (c_place_2 ⟨hp7, hk, hf, (by rw [List.length_set]; exact hc), q1, q2, rk, rf, rng_set rc q3.1 q3.2, ht0, ht1⟩ (i := g) (by omega) (v := (c.getD i 0)) (rc _).1 (rc _).2) ?_
        rintro _ _ ⟨rfl, w2, sh2, zw2, zs2, rfl⟩
        rw [List.set_set] at zw2 zs2 ⊢
        have hvv : visC c d i g x = (c.getD i 0) := visC_t h33
        have hle2 := sOK_hle hp7 rf (rng_set rc (rc _).1 (rc _).2) rl ⟨ht0, ht1⟩ zs2 hnO
        refine aGo okX0_keptAfterVisits 3 (f' := (80, [some (.inr 96), some (.inl (i : Int)), some (.inl (g : Int)), some (.inl (m : Int)), some (.inl (x : Int)), some (.inl 1)], [.inl 1, .inr 64], _)) rfl ?_
        refine b_vV (as := [.inl 1]) (rest := []) (k := 64) (.inl (dayB p (hasL sh2 nt) n (kpE p k f c n l t d i g kp x) 1)) okX0_keptAfterVisits rfl lkX0_24 caX3_passDays (Nat.le_of_ble_eq_true rfl) rfl (Nat.le_of_ble_eq_true rfl) rfl rfl rfl (c_passDays_2 (m := 1) hp7 (by omega) (by rw [kpE_len]; exact hkp) hn zs2.1 hnt (kpE_rng rkp) rn hle2) ?_
        refine b_cast (f' := (83, [some (.inr 96), some (.inl (i : Int)), some (.inl (g : Int)), some (.inl (m : Int)), some (.inl (x : Int)), some (.inl 1)], [.inl (dayB p (hasL sh2 nt) n (kpE p k f c n l t d i g kp x) 1)], [A0, (moSeg 32 k f c n kp l nt w sh (p : Int) t d wa), (moSeg 64 k f (c.set g (c.getD i 0)) n (dayIt p (hasL sh2 nt) n 1 (kpE p k f c n l t d i g kp x)) l nt w2 sh2 (p : Int) t ((d + (x : Int)) + ((1 : Nat) : Int)) (wAll p k f (c.set g (c.getD i 0)))), (miscSeg z fs ss sp la gr tl tp), B4, A5, C6])) rfl ?_
        rw [kpE_day (kp := kp) hvv zs2 hnO]
        refine b_cast (f' := (83, [some (.inr 96), some (.inl (i : Int)), some (.inl (g : Int)), some (.inl (m : Int)), some (.inl (x : Int)), some (.inl 1)], [.inl (dayB p (hasL sh2 nt) n (kpE p k f c n l t d i g kp x) 1)], [A0, (moSeg 32 k f c n kp l nt w sh (p : Int) t d wa), (moSeg 64 k f (c.set g (c.getD i 0)) n (kpE p k f c n l t d i g kp (x + 1)) l nt w2 sh2 (p : Int) t (d + (((x + 1) : Nat) : Int)) (wAll p k f (c.set g (c.getD i 0)))), (miscSeg z fs ss sp la gr tl tp), B4, A5, C6])) (congrArg (fun q : Int => ((83, [some (.inr 96), some (.inl (i : Int)), some (.inl (g : Int)), some (.inl (m : Int)), some (.inl (x : Int)), some (.inl 1)], [.inl (dayB p (hasL sh2 nt) n (kpE p k f c n l t d i g kp x) 1)], [A0, (moSeg 32 k f c n kp l nt w sh (p : Int) t d wa), (moSeg 64 k f (c.set g (c.getD i 0)) n (kpE p k f c n l t d i g kp (x + 1)) l nt w2 sh2 (p : Int) t q (wAll p k f (c.set g (c.getD i 0)))), (miscSeg z fs ss sp la gr tl tp), B4, A5, C6]) : aF)) (show d + (x : Int) + ((1 : Nat) : Int) = d + ((x + 1 : Nat) : Int) by omega)) ?_
        refine aGo okX0_keptAfterVisits 3 (f' := (14, [some (.inr 96), some (.inl (i : Int)), some (.inl (g : Int)), some (.inl (m : Int)), some (.inl ((x : Int) + 1)), some (.inl 1)], [], _)) rfl ?_
        refine b_lose (ls' := [some (.inr 96), some (.inl (i : Int)), some (.inl (g : Int)), some (.inl (m : Int)), some (.inl ((x : Int) + 1)), none]) (lose5 _ _ _ _ _ _) ?_
        exact ih (x + 1) (c.getD i 0) w2 sh2 _ (by omega) zw2.1 zs2.1 (rc _)
  refine aGo okX0_keptAfterVisits 4 (f' := (8, [some (.inr 96), some (.inl (i : Int)), some (.inl (g : Int)), some (.inl (m : Int)), none, none], [.inr 32, .inr 64], _)) rfl ?_
  refine b_vN (as := [.inr 32]) (rest := []) (k := 64) okX0_keptAfterVisits rfl lkX0_18 caX3_takeFrom (Nat.le_of_ble_eq_true rfl) rfl (Nat.le_of_ble_eq_true rfl) rfl rfl rfl (c_take_21 (mOK_lens hm) hl0) ?_
  refine b_cast (f' := (11, [some (.inr 96), some (.inl (i : Int)), some (.inl (g : Int)), some (.inl (m : Int)), none, none], [], [A0, (moSeg 32 k f c n kp l nt w sh (p : Int) t d wa), (moSeg 64 k f c n kp l nt w sh (p : Int) t d wa), (miscSeg z fs ss sp la gr tl tp), B4, A5, C6])) rfl ?_
  refine aGo okX0_keptAfterVisits 2 (f' := (14, [some (.inr 96), some (.inl (i : Int)), some (.inl (g : Int)), some (.inl (m : Int)), some (.inl 0), none], [], _)) rfl ?_
  refine b_cast (f' := (14, [some (.inr 96), some (.inl (i : Int)), some (.inl (g : Int)), some (.inl (m : Int)), some (.inl 0), none], [], [A0, (moSeg 32 k f c n kp l nt w sh (p : Int) t d wa), (moSeg 64 k f c n kp l nt w sh (p : Int) t (d + ((0 : Nat) : Int)) wa), (miscSeg z fs ss sp la gr tl tp), B4, A5, C6])) (congrArg (fun q : Int => ((14, [some (.inr 96), some (.inl (i : Int)), some (.inl (g : Int)), some (.inl (m : Int)), some (.inl 0), none], [], [A0, (moSeg 32 k f c n kp l nt w sh (p : Int) t d wa), (moSeg 64 k f c n kp l nt w sh (p : Int) t q wa), (miscSeg z fs ss sp la gr tl tp), B4, A5, C6]) : aF)) (show d = d + ((0 : Nat) : Int) by omega)) ?_
  have lp0 := lp m 0 (c.getD g 0) w sh wa (by omega) hw hsh (rc _)
  rw [set_self (by omega)] at lp0
  exact lp0
set_option maxRecDepth 100000 in
set_option maxHeartbeats 4000000 in
theorem c_firstMistold (hm : mOK p k f c n kp l nt w sh t d wa) (hB : thk B) {i m : Nat} (hi : i < 7) (hm2 : m ≤ 12) (hto : to.length = 12) (rto : rng to 99) : aEv mX0_firstMistold 3 0 0 N [.inr 96, .inl (i : Int), .inr 160, .inl (m : Int)] [A0, (moSeg 32 k f c n kp l nt w sh (p : Int) t d wa), B, (miscSeg z fs ss sp la gr tl tp), B4, (auxSeg to re), C6] ((fun rv h => rv = some (.inl (firstQ (fun j => !decide (min ((dayIt p (hasL sh nt) n j kp).getD i 0) 99 = to.getD j 0)) m 0)) ∧ ∃ B2, thk B2 ∧ h = [A0, (moSeg 32 k f c n kp l nt w sh (p : Int) t d wa), B2, (miscSeg z fs ss sp la gr tl tp), B4, (auxSeg to re), C6])) := by
  obtain ⟨⟨hp7, hk, hf, hc, hn, hkp, hl, rk, rf, rc, rn, rkp, rl, ht0, ht1, hd0, hd1⟩, ⟨hnt, znt⟩, ⟨hw, zw, zwa⟩, ⟨hsh, zsh⟩⟩ := id hm
  have hle := mOK_hle hm
  obtain ⟨k0, f0, c0, n0, kp0, l0, nt0, w0, sh0, P0, t0, d0, wa0, hl0, rfl⟩ := hB
  refine aEv_of okX0_firstMistold caX0_firstMistold (Nat.le_of_ble_eq_true rfl) ?_
  have lp : ∀ (j x : Nat), x + j = m → AW mX0_firstMistold 3 0 0 N none (fun rv h => rv = some (.inl (firstQ (fun j => !decide (min ((dayIt p (hasL sh nt) n j kp).getD i 0) 99 = to.getD j 0)) j x)) ∧ ∃ B2, thk B2 ∧ h = [A0, (moSeg 32 k f c n kp l nt w sh (p : Int) t d wa), B2, (miscSeg z fs ss sp la gr tl tp), B4, (auxSeg to re), C6]) (14, [some (.inr 96), some (.inl (i : Int)), some (.inr 160), some (.inl (m : Int)), some (.inl (x : Int))], [], [A0, (moSeg 32 k f c n kp l nt w sh (p : Int) t d wa), (moSeg 64 k f c n (dayIt p (hasL sh nt) n x kp) l nt w sh (p : Int) t (d + (x : Int)) wa), (miscSeg z fs ss sp la gr tl tp), B4, (auxSeg to re), C6]) := by
    intro j
    induction j with
    | zero =>
      intro x hij
      obtain rfl : m = x := by omega
      refine aGo okX0_firstMistold 2 (f' := (17, [some (.inr 96), some (.inl (i : Int)), some (.inr 160), some (.inl (m : Int)), some (.inl (m : Int))], [.inl (m : Int), .inl (m : Int)], _)) rfl ?_
      refine b_ge (tgt := 60) okX0_firstMistold rfl rfl ⟨by omega, by omega⟩ ⟨by omega, by omega⟩ (fun h17 => ?_) (fun h17 => absurd h17 (by omega))
      refine aGo okX0_firstMistold 1 (f' := (62, [some (.inr 96), some (.inl (i : Int)), some (.inr 160), some (.inl (m : Int)), some (.inl (m : Int))], [.inl (-9)], _)) rfl ?_
      exact b_ret (v := (some (.inl (-9)))) ⟨rfl, Or.inl rfl⟩ ⟨rfl, _, thk_of (by obtain ⟨a1, a2, a3, a4, a5, a6, a7, a8, a9⟩ := mOK_lens hm; exact ⟨a1, a2, a3, a4, by first | exact a5 | (rw [dayIt_len]; exact a5), a6, a7, a8, a9⟩), rfl⟩ rfl
    | succ j ih =>
      intro x hij
      have e0 : (dayIt p (hasL sh nt) n x kp).length = 7 := by rw [dayIt_len]; exact hkp
      have e1 := dayIt_rng (p := p) (has := (hasL sh nt)) (n := n) (m := x) rkp i
      have e2 := rto x
      refine aGo okX0_firstMistold 2 (f' := (17, [some (.inr 96), some (.inl (i : Int)), some (.inr 160), some (.inl (m : Int)), some (.inl (x : Int))], [.inl (m : Int), .inl (x : Int)], _)) rfl ?_
      refine b_ge (tgt := 60) okX0_firstMistold rfl rfl ⟨by omega, by omega⟩ ⟨by omega, by omega⟩ (fun h17 => absurd h17 (by omega)) (fun h17 => ?_)
      refine aGo okX0_firstMistold 3 (f' := (25, [some (.inr 96), some (.inl (i : Int)), some (.inr 160), some (.inl (m : Int)), some (.inl (x : Int))], [.inl (i : Int), .inr 64], _)) rfl ?_
      refine b_vV (as := [.inl (i : Int)]) (rest := []) (k := 64) (.inl ((dayIt p (hasL sh nt) n x kp).getD i 0)) okX0_firstMistold rfl lkX0_28 caX3_keptOf (Nat.le_of_ble_eq_true rfl) rfl (Nat.le_of_ble_eq_true rfl) rfl rfl rfl (c_keptOf_2 (i := i) (by first | omega | (simp only [List.length_set]; omega)) (by omega)) ?_
      refine aGo okX0_firstMistold 1 (f' := (30, [some (.inr 96), some (.inl (i : Int)), some (.inr 160), some (.inl (m : Int)), some (.inl (x : Int))], [.inl 99, .inl ((dayIt p (hasL sh nt) n x kp).getD i 0)], _)) rfl ?_
      refine b_min okX0_firstMistold rfl lkX0_45 ma_min_s ma_min_c (Nat.le_of_ble_eq_true rfl) (Nat.le_of_ble_eq_true rfl) ⟨by omega, by omega⟩ ⟨by omega, by omega⟩ ?_
      refine aGo okX0_firstMistold 2 (f' := (36, [some (.inr 96), some (.inl (i : Int)), some (.inr 160), some (.inl (m : Int)), some (.inl (x : Int))], [.inl (x : Int), .inr 160, .inl (min ((dayIt p (hasL sh nt) n x kp).getD i 0) 99)], _)) rfl ?_
      refine b_vV (as := [.inl (x : Int)]) (rest := [.inl (min ((dayIt p (hasL sh nt) n x kp).getD i 0) 99)]) (k := 160) (.inl (to.getD x 0)) okX0_firstMistold rfl lkX0_51 caX4_at (Nat.le_of_ble_eq_true rfl) rfl (Nat.le_of_ble_eq_true rfl) rfl rfl rfl (c_at (i := x) rfl rfl (by first | omega | (simp only [List.length_set]; omega)) (by omega)) ?_
      refine b_eq (tgt := 45) okX0_firstMistold rfl rfl ⟨by omega, by omega⟩ ⟨by omega, by omega⟩ (fun h39 => ?_) (fun h39 => ?_)
      · have hz : (fun j => !decide (min ((dayIt p (hasL sh nt) n j kp).getD i 0) 99 = to.getD j 0)) x = false := by simp only [decide_eq_true h39]; rfl
        rw [firstQ_f (P := (fun j => !decide (min ((dayIt p (hasL sh nt) n j kp).getD i 0) 99 = to.getD j 0))) hz]
        refine aGo okX0_firstMistold 3 (f' := (50, [some (.inr 96), some (.inl (i : Int)), some (.inr 160), some (.inl (m : Int)), some (.inl (x : Int))], [.inl 1, .inr 64], _)) rfl ?_
        refine b_vV (as := [.inl 1]) (rest := []) (k := 64) (.inl (dayB p (hasL sh nt) n (dayIt p (hasL sh nt) n x kp) 1)) okX0_firstMistold rfl lkX0_24 caX3_passDays (Nat.le_of_ble_eq_true rfl) rfl (Nat.le_of_ble_eq_true rfl) rfl rfl rfl (c_passDays_2 (m := 1) hp7 (by omega) (by rw [dayIt_len]; exact hkp) hn hsh hnt (dayIt_rng rkp) rn hle) ?_
        refine b_cast (f' := (53, [some (.inr 96), some (.inl (i : Int)), some (.inr 160), some (.inl (m : Int)), some (.inl (x : Int))], [.inl (dayB p (hasL sh nt) n (dayIt p (hasL sh nt) n x kp) 1)], [A0, (moSeg 32 k f c n kp l nt w sh (p : Int) t d wa), (moSeg 64 k f c n (dayIt p (hasL sh nt) n 1 (dayIt p (hasL sh nt) n x kp)) l nt w sh (p : Int) t ((d + (x : Int)) + ((1 : Nat) : Int)) wa), (miscSeg z fs ss sp la gr tl tp), B4, (auxSeg to re), C6])) rfl ?_
        refine b_cast (f' := (53, [some (.inr 96), some (.inl (i : Int)), some (.inr 160), some (.inl (m : Int)), some (.inl (x : Int))], [.inl (dayB p (hasL sh nt) n (dayIt p (hasL sh nt) n x kp) 1)], [A0, (moSeg 32 k f c n kp l nt w sh (p : Int) t d wa), (moSeg 64 k f c n (dayIt p (hasL sh nt) n (x + 1) kp) l nt w sh (p : Int) t (d + (((x + 1) : Nat) : Int)) wa), (miscSeg z fs ss sp la gr tl tp), B4, (auxSeg to re), C6])) (congrArg (fun q : Int => ((53, [some (.inr 96), some (.inl (i : Int)), some (.inr 160), some (.inl (m : Int)), some (.inl (x : Int))], [.inl (dayB p (hasL sh nt) n (dayIt p (hasL sh nt) n x kp) 1)], [A0, (moSeg 32 k f c n kp l nt w sh (p : Int) t d wa), (moSeg 64 k f c n (dayIt p (hasL sh nt) n (x + 1) kp) l nt w sh (p : Int) t q wa), (miscSeg z fs ss sp la gr tl tp), B4, (auxSeg to re), C6]) : aF)) (show d + (x : Int) + ((1 : Nat) : Int) = d + ((x + 1 : Nat) : Int) by omega)) ?_
        refine aGo okX0_firstMistold 3 (f' := (14, [some (.inr 96), some (.inl (i : Int)), some (.inr 160), some (.inl (m : Int)), some (.inl ((x : Int) + 1))], [], _)) rfl ?_
        exact ih (x + 1) (by omega)
      · have hz : (fun j => !decide (min ((dayIt p (hasL sh nt) n j kp).getD i 0) 99 = to.getD j 0)) x = true := by simp only [decide_eq_false h39]; rfl
        rw [firstQ_t (P := (fun j => !decide (min ((dayIt p (hasL sh nt) n j kp).getD i 0) 99 = to.getD j 0))) hz]
        refine aGo okX0_firstMistold 1 (f' := (44, [some (.inr 96), some (.inl (i : Int)), some (.inr 160), some (.inl (m : Int)), some (.inl (x : Int))], [.inl (x : Int)], _)) rfl ?_
        exact b_ret (v := (some (.inl (x : Int)))) ⟨rfl, Or.inl rfl⟩ ⟨rfl, _, thk_of (by obtain ⟨a1, a2, a3, a4, a5, a6, a7, a8, a9⟩ := mOK_lens hm; exact ⟨a1, a2, a3, a4, by first | exact a5 | (rw [dayIt_len]; exact a5), a6, a7, a8, a9⟩), rfl⟩ rfl
  refine aGo okX0_firstMistold 4 (f' := (8, [some (.inr 96), some (.inl (i : Int)), some (.inr 160), some (.inl (m : Int)), none], [.inr 32, .inr 64], _)) rfl ?_
  refine b_vN (as := [.inr 32]) (rest := []) (k := 64) okX0_firstMistold rfl lkX0_18 caX3_takeFrom (Nat.le_of_ble_eq_true rfl) rfl (Nat.le_of_ble_eq_true rfl) rfl rfl rfl (c_take_21 (mOK_lens hm) hl0) ?_
  refine b_cast (f' := (11, [some (.inr 96), some (.inl (i : Int)), some (.inr 160), some (.inl (m : Int)), none], [], [A0, (moSeg 32 k f c n kp l nt w sh (p : Int) t d wa), (moSeg 64 k f c n kp l nt w sh (p : Int) t d wa), (miscSeg z fs ss sp la gr tl tp), B4, (auxSeg to re), C6])) rfl ?_
  refine aGo okX0_firstMistold 2 (f' := (14, [some (.inr 96), some (.inl (i : Int)), some (.inr 160), some (.inl (m : Int)), some (.inl 0)], [], _)) rfl ?_
  refine b_cast (f' := (14, [some (.inr 96), some (.inl (i : Int)), some (.inr 160), some (.inl (m : Int)), some (.inl 0)], [], [A0, (moSeg 32 k f c n kp l nt w sh (p : Int) t d wa), (moSeg 64 k f c n kp l nt w sh (p : Int) t (d + ((0 : Nat) : Int)) wa), (miscSeg z fs ss sp la gr tl tp), B4, (auxSeg to re), C6])) (congrArg (fun q : Int => ((14, [some (.inr 96), some (.inl (i : Int)), some (.inr 160), some (.inl (m : Int)), some (.inl 0)], [], [A0, (moSeg 32 k f c n kp l nt w sh (p : Int) t d wa), (moSeg 64 k f c n kp l nt w sh (p : Int) t q wa), (miscSeg z fs ss sp la gr tl tp), B4, (auxSeg to re), C6]) : aF)) (show d = d + ((0 : Nat) : Int) by omega)) ?_
  exact lp m 0 (by omega)
end ADB
