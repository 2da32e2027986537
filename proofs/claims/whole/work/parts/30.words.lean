/-! What calls refuse and what the class is; laid by gen_main.py -/
/-- a moor's own numbers: kinds, figures, cells, needs, kept, lent, people, sum, day -/
abbrev moT : Type := List Int × List Int × List Int × List Int × List Int × List Int × Nat × Int × Int
/-- an image's block -/
def imOK (I : moT) (B4 : List (Option aE)) : Prop := I.2.2.2.2.2.2.1 ≤ 6 ∧ I.2.2.2.2.2.2.2.2 ≤ 999 ∧ ∃ (nt w sh : List Int) (wa : Int), mOK I.2.2.2.2.2.2.1 I.1 I.2.1 I.2.2.1 I.2.2.2.1 I.2.2.2.2.1 I.2.2.2.2.2.1 nt w sh I.2.2.2.2.2.2.2.1 I.2.2.2.2.2.2.2.2 wa ∧ B4 = moSeg 128 I.1 I.2.1 I.2.2.1 I.2.2.2.1 I.2.2.2.2.1 I.2.2.2.2.2.1 nt w sh (I.2.2.2.2.2.2.1 : Int) I.2.2.2.2.2.2.2.1 I.2.2.2.2.2.2.2.2 wa
def mscOK (fs ss sp la gr : List Int) : Prop := fs.length = 25 ∧ ss.length = 25 ∧ sp.length = 6 ∧ la.length = 6 ∧ gr.length = 64
/-- letters, told row, refusals -/
def auxOK (tc : Nat) (to re : List Int) (tl : Nat) (tp : List Int) : Prop := tp.length = 96 ∧ rng tp 255 ∧ tl ≤ 96 ∧ to.length = 12 ∧ rng to 99 ∧ tc ≤ 12 ∧ re.length = 7
/-- the class's blocks -/
def cSt (imt : Int) (tc : Nat) (k f c n kp l : List Int) (p : Nat) (t d : Int) (to re : List Int) (tl : Nat) (tp : List Int) (I : moT) (C6 : List (Option aE)) (h : aH) : Prop :=
  p ≤ 6 ∧ d ≤ 999 ∧ auxOK tc to re tl tp ∧ ∃ (nt w sh : List Int) (wa : Int) (B : List (Option aE)) (z : Int) (fs ss sp la gr : List Int) (B4 : List (Option aE)),
    mOK p k f c n kp l nt w sh t d wa ∧ thk B ∧ mscOK fs ss sp la gr ∧ imOK I B4 ∧ (imt = 0 ∨ imt = 1) ∧ h = [mainSeg imt (tc : Int), moSeg 32 k f c n kp l nt w sh (p : Int) t d wa, B, miscSeg z fs ss sp la gr (tl : Int) tp, B4, auxSeg to re, C6]
theorem cSt_of {imt : Int} {tc : Nat} {k f c n kp l : List Int} {p : Nat} {t d : Int} {to re : List Int} {tl : Nat} {tp : List Int} {I : moT} {C6 : List (Option aE)} {nt w sh : List Int} {wa : Int} {B : List (Option aE)} {z : Int} {fs ss sp la gr : List Int} {B4 : List (Option aE)}
    (h1 : p ≤ 6) (h2 : d ≤ 999) (h3 : auxOK tc to re tl tp) (h4 : mOK p k f c n kp l nt w sh t d wa) (h5 : thk B) (h6 : mscOK fs ss sp la gr) (h7 : imOK I B4) (h8 : imt = 0 ∨ imt = 1) :
    cSt imt tc k f c n kp l p t d to re tl tp I C6 [mainSeg imt (tc : Int), moSeg 32 k f c n kp l nt w sh (p : Int) t d wa, B, miscSeg z fs ss sp la gr (tl : Int) tp, B4, auxSeg to re, C6] :=
  ⟨h1, h2, h3, nt, w, sh, wa, B, z, fs, ss, sp, la, gr, B4, h4, h5, h6, h7, h8, rfl⟩
/-- a refusal is counted -/
def bump (re : List Int) (w : Int) : List Int := re.set (-w).toNat (re.getD (-w).toNat 0 + 1)
theorem bump_len (re : List Int) (w : Int) : (bump re w).length = re.length := List.length_set
theorem bump_1 (re : List Int) : bump re (-1) = re.set 1 (re.getD 1 0 + 1) := rfl
theorem bump_2 (re : List Int) : bump re (-2) = re.set 2 (re.getD 2 0 + 1) := rfl
theorem bump_3 (re : List Int) : bump re (-3) = re.set 3 (re.getD 3 0 + 1) := rfl
theorem bump_4 (re : List Int) : bump re (-4) = re.set 4 (re.getD 4 0 + 1) := rfl
theorem bump_6 (re : List Int) : bump re (-6) = re.set 6 (re.getD 6 0 + 1) := rfl
section MOV
variable {p : Nat} {k f c n kp l nt w sh : List Int} {t d wa : Int}
theorem mOK_place (hm : mOK p k f c n kp l nt w sh t d wa) {i : Nat} {v : Int} (h0 : 0 ≤ v) (h1 : v ≤ 35) {w2 sh2 : List Int} (zw : wOK p k f (c.set i v) w2 (wAll p k f (c.set i v))) (zs : sOK p k f (c.set i v) sh2 t) : mOK p k f (c.set i v) n kp l nt w2 sh2 t d (wAll p k f (c.set i v)) := by
  obtain ⟨⟨hp7, hk, hf, hc, hn, hkp, hl, rk, rf, rc, rn, rkp, rl, ht0, ht1, hd0, hd1⟩, hnt, -, -⟩ := hm
  exact ⟨⟨hp7, hk, hf, by rw [List.length_set]; exact hc, hn, hkp, hl, rk, rf, rng_set rc h0 h1, rn, rkp, rl, ht0, ht1, hd0, hd1⟩, hnt, zw, zs⟩
theorem mOK_lent (hm : mOK p k f c n kp l nt w sh t d wa) {q : Nat} {v : Int} (h0 : 0 ≤ v) (h1 : v ≤ 99) {nt2 : List Int} (zn : nOK p (l.set q v) nt2) : mOK p k f c n kp (l.set q v) nt2 w sh t d wa := by
  obtain ⟨⟨hp7, hk, hf, hc, hn, hkp, hl, rk, rf, rc, rn, rkp, rl, ht0, ht1, hd0, hd1⟩, -, hw, hs⟩ := hm
  exact ⟨⟨hp7, hk, hf, hc, hn, hkp, by rw [List.length_set]; exact hl, rk, rf, rc, rn, rkp, rng_set rl h0 h1, ht0, ht1, hd0, hd1⟩, zn, hw, hs⟩
theorem mOK_kept (hm : mOK p k f c n kp l nt w sh t d wa) {q : Nat} {v : Int} (h0 : 0 ≤ v) (h1 : v ≤ 9999) : mOK p k f c n (kp.set q v) l nt w sh t d wa := by
  obtain ⟨⟨hp7, hk, hf, hc, hn, hkp, hl, rk, rf, rc, rn, rkp, rl, ht0, ht1, hd0, hd1⟩, hnt, hw, hs⟩ := hm
  exact ⟨⟨hp7, hk, hf, hc, hn, by rw [List.length_set]; exact hkp, hl, rk, rf, rc, rn, rng_set rkp h0 h1, rl, ht0, ht1, hd0, hd1⟩, hnt, hw, hs⟩
theorem mOK_need (hm : mOK p k f c n kp l nt w sh t d wa) {q : Nat} {v : Int} (h0 : 0 ≤ v) (h1 : v ≤ 99) : mOK p k f c (n.set q v) kp l nt w sh t d wa := by
  obtain ⟨⟨hp7, hk, hf, hc, hn, hkp, hl, rk, rf, rc, rn, rkp, rl, ht0, ht1, hd0, hd1⟩, hnt, hw, hs⟩ := hm
  exact ⟨⟨hp7, hk, hf, hc, by rw [List.length_set]; exact hn, hkp, hl, rk, rf, rc, rng_set rn h0 h1, rkp, rl, ht0, ht1, hd0, hd1⟩, hnt, hw, hs⟩
theorem mOK_total (hm : mOK p k f c n kp l nt w sh t d wa) {v : Int} (h0 : 0 ≤ v) (h1 : v ≤ 999) {sh2 : List Int} (zs : sOK p k f c sh2 v) : mOK p k f c n kp l nt w sh2 v d wa := by
  obtain ⟨⟨hp7, hk, hf, hc, hn, hkp, hl, rk, rf, rc, rn, rkp, rl, ht0, ht1, hd0, hd1⟩, hnt, hw, -⟩ := hm
  exact ⟨⟨hp7, hk, hf, hc, hn, hkp, hl, rk, rf, rc, rn, rkp, rl, h0, h1, hd0, hd1⟩, hnt, hw, zs⟩
theorem mOK_days (hm : mOK p k f c n kp l nt w sh t d wa) {m : Nat} (hd : d + (m : Int) ≤ 5000) : mOK p k f c n (dayIt p (hasM p k f c l t) n m kp) l nt w sh t (d + (m : Int)) wa := by
  obtain ⟨⟨hp7, hk, hf, hc, hn, hkp, hl, rk, rf, rc, rn, rkp, rl, ht0, ht1, hd0, hd1⟩, hnt, hw, hs⟩ := hm
  exact ⟨⟨hp7, hk, hf, hc, hn, by rw [dayIt_len]; exact hkp, hl, rk, rf, rc, rn, dayIt_rng rkp, rl, ht0, ht1, by omega, hd⟩, hnt, hw, hs⟩
theorem mOK_it (hm : mOK p k f c n kp l nt w sh t d wa) (m : Nat) : dayIt p (hasL sh nt) n m kp = dayIt p (hasM p k f c l t) n m kp := dayIt_congr (fun q hq => mOK_has hm hq) n m kp
theorem mOK_sht (hm : mOK p k f c n kp l nt w sh t d wa) {q : Nat} (hq : q < p) (m : Nat) : sht p (hasL sh nt) n kp q m = sht p (hasM p k f c l t) n kp q m := by
  have e : dayV (dayIt p (hasL sh nt) n m kp) (hasL sh nt) n q = dayV (dayIt p (hasM p k f c l t) n m kp) (hasM p k f c l t) n q := by
    rw [mOK_it hm]; unfold dayV; rw [mOK_has hm hq]
  unfold sht; rw [e]
theorem mOK_bit (hm : mOK p k f c n kp l nt w sh t d wa) {m : Nat} (h : 1 ≤ m) : bcE (dayB p (hasL sh nt) n kp m) = cntN p (fun q => sht p (hasM p k f c l t) n kp q (m - 1)) := by
  obtain ⟨m, rfl⟩ : ∃ x, m = x + 1 := ⟨m - 1, by omega⟩
  have hp := hm.1.1
  show bcE (bitsN p (fun q => sht p (hasL sh nt) n kp q m)) = _
  rw [bits_cnt hp]
  exact sumN_congr fun q hq => by show (if sht p (hasL sh nt) n kp q m = true then (1 : Int) else 0) = _; rw [mOK_sht hm hq]; rfl
end MOV
theorem firstF_congr {P P' : Nat → Bool} (h : ∀ q, P q = P' q) : ∀ j i, firstF P j i = firstF P' j i := by
  intro j
  induction j with
  | zero => intro i; rfl
  | succ j ih => intro i; simp only [firstF]; rw [h, ih]
theorem lastF_congr {P P' : Nat → Bool} (h : ∀ q, P q = P' q) : ∀ j i, lastF P j i = lastF P' j i := by
  intro j
  induction j with
  | zero => intro i; rfl
  | succ j ih => intro i; simp only [lastF]; rw [h, ih]
theorem firstQ_congrB {P P' : Nat → Bool} {m : Nat} (h : ∀ q, q < m → P q = P' q) : ∀ j i, i + j ≤ m → firstQ P j i = firstQ P' j i := by
  intro j
  induction j with
  | zero => intro i _; rfl
  | succ j ih => intro i hi; simp only [firstQ]; rw [h i (by omega), ih (i + 1) (by omega)]
theorem firstO_congr {p : Nat} {P P' : Nat → Nat → Bool} (h : ∀ i q, q < p → P i q = P' i q) : ∀ j i, firstO P p j i = firstO P' p j i := by
  intro j
  induction j with
  | zero => intro i; rfl
  | succ j ih => intro i; simp only [firstO]; rw [firstQ_congrB (m := p) (h i) p 0 (by omega), ih]
theorem npOK_2 {c : List Int} {p : Nat} {z : Int × Int} (h : npOK c p z) (hz : z.1 ≠ -9) : ∃ a b : Nat, a < b ∧ b < p ∧ z.1 = 10 * (a : Int) + (b : Int) ∧ z.2 = stp (c.getD a 0) (c.getD b 0) := by
  rcases h with rfl | ⟨a, b, h1, h2, rfl⟩
  · exact absurd rfl hz
  · exact ⟨a, b, h1, h2, rfl, rfl⟩
def wy_letter (tl : Nat) (x : Int) : Int := if x < 0 then -4 else if 255 < x ∨ 96 ≤ (tl : Int) then -6 else 0
def wy_person (p : Nat) (x y : Int) : Int := if ¬ (0 ≤ x ∧ x < (p : Int)) then -1 else if ¬ (0 ≤ y ∧ y ≤ 6) then -2 else 0
def wy_owns (p : Nat) (x : Int) : Int := if ¬ (0 ≤ x ∧ x < (p : Int)) then -1 else 0
def wy_loan (p : Nat) (x y : Int) : Int := if ¬ (0 ≤ x ∧ x < (p : Int) ∧ 0 ≤ y ∧ y < (p : Int) ∧ x ≠ y) then -1 else 0
def wy_go (p : Nat) (x y : Int) : Int := if ¬ (0 ≤ x ∧ x < (p : Int) ∧ 0 ≤ y ∧ y ≤ 35) then -1 else 0
def wy_lend (p : Nat) (x y z : Int) : Int := if ¬ (0 ≤ x ∧ x < (p : Int) ∧ 0 ≤ y ∧ y < (p : Int) ∧ x ≠ y) then -1 else if z < 0 then -4 else if 99 < z then -6 else 0
def wy_keep (p : Nat) (x y : Int) : Int := if ¬ (0 ≤ x ∧ x < (p : Int)) then -1 else if y < 0 then -4 else if 9999 < y then -6 else 0
def wy_need (p : Nat) (x y : Int) : Int := if ¬ (0 ≤ x ∧ x < (p : Int)) then -1 else if y < 0 then -4 else if 99 < y then -6 else 0
def wy_sum (x : Int) : Int := if x < 0 then -4 else if 999 < x then -6 else 0
def wy_days (d : Int) (x : Int) : Int := if x < 1 then -4 else if 60 < x ∨ 999 < d + x then -6 else 0
def wy_behind (p : Nat) (x y z : Int) : Int := if ¬ (0 ≤ x ∧ x < (p : Int)) then -1 else if y < 0 then -4 else if 99 < y then -6 else if ¬ (0 ≤ z ∧ z ≤ 1) then -2 else 0
def wy_firstShort (x : Int) : Int := if ¬ (0 ≤ x ∧ x ≤ 1) then -2 else 0
def wy_lasts (p : Nat) (x : Int) : Int := if ¬ (0 ≤ x ∧ x < (p : Int)) then -1 else 0
def wy_bestCell (p : Nat) (x y : Int) : Int := if ¬ (0 ≤ x ∧ x < (p : Int)) then -1 else if ¬ (0 ≤ y ∧ y ≤ 2) then -2 else 0
def wy_takes (p : Nat) (x y : Int) : Int := if ¬ (0 ≤ x ∧ x < (p : Int) ∧ 0 ≤ y ∧ y < (p : Int) ∧ x ≠ y) then -1 else 0
def wy_worst (p : Nat) (x : Int) : Int := if ¬ (0 ≤ x ∧ x < (p : Int)) then -1 else 0
def wy_newcomer (x y : Int) : Int := if ¬ (0 ≤ x ∧ x ≤ 35) then -1 else if ¬ (0 ≤ y ∧ y ≤ 1) then -2 else 0
def wy_leaves (x : Int) : Int := if ¬ (0 ≤ x ∧ x ≤ 1) then -2 else 0
def wy_help (x y : Int) : Int := if x < 0 then -4 else if 10 < x then -6 else if ¬ (0 ≤ y ∧ y ≤ 1) then -2 else 0
def wy_net (p : Nat) (x : Int) : Int := if ¬ (0 ≤ x ∧ x < (p : Int)) then -1 else 0
def wy_loans (x : Int) : Int := if ¬ (0 ≤ x ∧ x ≤ 1) then -2 else 0
def wy_survey (x : Int) : Int := if ¬ (0 ≤ x ∧ x ≤ 35) then -1 else 0
def wy_quarrel (p : Nat) (x y z u : Int) : Int := if ¬ (0 ≤ x ∧ x < (p : Int) ∧ 0 ≤ y ∧ y < (p : Int) ∧ x ≠ y) then -1 else if z < 1 then -4 else if 10 < z then -6 else if ¬ (0 ≤ u ∧ u ≤ 1) then -2 else 0
def wy_two (p : Nat) (x y : Int) : Int := if ¬ (0 ≤ x ∧ x < (p : Int) ∧ 0 ≤ y ∧ y < (p : Int) ∧ x ≠ y) then -1 else 0
def wy_crowd (x : Int) : Int := if ¬ (0 ≤ x ∧ x ≤ 2) then -2 else 0
def wy_easter (p : Nat) (x y z : Int) : Int := if ¬ (0 ≤ x ∧ x < (p : Int) ∧ 0 ≤ y ∧ y < (p : Int) ∧ x ≠ y) then -1 else if z < 0 then -4 else if 99 < z then -6 else 0
def wy_whatIs (tc : Nat) (p : Nat) (x y : Int) : Int := if ¬ (0 ≤ x ∧ x < (p : Int)) then -1 else if ¬ (0 ≤ y ∧ y ≤ 1) then -2 else if (tc : Int) ≠ (p : Int) then -3 else 0
def wy_row (tc : Nat) (x : Int) : Int := if x < 0 then -4 else if 99 < x ∨ 12 ≤ (tc : Int) then -6 else 0
def wy_judge (p : Nat) (x : Int) : Int := if ¬ (0 ≤ x ∧ x < (p : Int)) then -1 else 0
def wy_lots (p : Nat) (x y z : Int) : Int := if x < 1 then -4 else if 20 < x then -6 else if ¬ (0 ≤ z ∧ z ≤ 1) then -2 else if (p : Int) < 1 then -3 else 0
def wy_on (imt : Int) : Int := if imt = 0 then -3 else 0
