/-! String constants: rules. -/
section ASTR
variable {M Mc : aM} {d dc kc ks kc1 ks1 n na : Nat} {sc : Option (Nat × (Nat → Int32))} {Q Q1 : Option aV → aH → Prop} {pc idx idx2 i : Nat} {ls : aLs} {st rest as : List aV} {h : aH}
theorem aAd_tx {base b0 : Nat} {adK : Nat → Nat} (i : Nat) : aAd base b0 adK (1025 + i) = adK i := by
  unfold aAd
  rw [if_neg (by omega), if_neg (by omega), show 1025 + i - 1025 = i by omega]
theorem aAd_bt {base b0 : Nat} {adK : Nat → Nat} (i : Nat) : aAd base b0 adK (1033 + i) = adK (8 + i) := by
  unfold aAd
  rw [if_neg (by omega), if_neg (by omega), show 1033 + i - 1025 = 8 + i by omega]
/-- a String constant -/
theorem b_ldcS {tx : String} (hM : aOK M) (hf : aFetch (aMt M) pc = some (.ldc idx)) (hown : (aMy M).cls = RX6) (hi : aTx[i]? = some (idx, tx)) (kk : AW M d kc ks n sc Q (pc + 2, ls, .inr (1025 + i) :: st, h)) : AW M d kc ks n sc Q (pc, ls, st, h) := by
  intro p l e R s m args below meth c D cI base b0 adK adV C1 S1 Z hcx hC hS1 hfin la H locs cells slots hP hz hS hL hcs hss
  obtain ⟨hX, hb, hml, hr, hin, hown', hts, hlk, hiv, -⟩ := id hcx
  have k2 := kk p l e R s m args below meth c D cI base b0 adK adV C1 S1 Z hcx hC hS1 hfin la H locs cells slots hP hz hS hL hcs hss
  simp only [List.map_cons, aC, aAd_tx] at k2
  exact va_ldcS hX hb hown' (by rw [hown]; exact hiv.2.2.2.1 i _ hi) (aDec1 hM hf rfl rfl) k2
/-- its bytes -/
theorem b_sval (hM : aOK M) (hf : aFetch (aMt M) pc = some (.getfield idx)) (hl : Cond.fieldLink (aMy M).cls idx "java/lang/String" "value" "[B" ∈ aBW) (hi : i < 8) (kk : AW M d kc ks n sc Q (pc + 3, ls, .inr (1033 + i) :: st, h)) : AW M d kc ks n sc Q (pc, ls, .inr (1025 + i) :: st, h) := by
  intro p l e R s m args below meth c D cI base b0 adK adV C1 S1 Z hcx hC hS1 hfin la H locs cells slots hP hz hS hL hcs hss
  obtain ⟨hX, hb, hml, hr, hin, hown', hts, hlk, hiv, -⟩ := id hcx
  have k2 := kk p l e R s m args below meth c D cI base b0 adK adV C1 S1 Z hcx hC hS1 hfin la H locs cells slots hP hz hS hL hcs hss
  simp only [List.map_cons, aC, aAd_bt] at k2
  simp only [List.map_cons, aC, aAd_tx]
  exact vk_getf hX hb (hiv.2.2.1.1 i hi).2.2.1 hS hown' (hts _ hl) (fun x hx => hx) (aDec1 hM hf rfl rfl) k2
/-- its coder -/
theorem b_scod (hM : aOK M) (hf : aFetch (aMt M) pc = some (.getfield idx)) (hl : Cond.fieldLink (aMy M).cls idx "java/lang/String" "coder" "B" ∈ aBW) (hi : i < 8) (kk : AW M d kc ks n sc Q (pc + 3, ls, .inl 0 :: st, h)) : AW M d kc ks n sc Q (pc, ls, .inr (1025 + i) :: st, h) := by
  intro p l e R s m args below meth c D cI base b0 adK adV C1 S1 Z hcx hC hS1 hfin la H locs cells slots hP hz hS hL hcs hss
  obtain ⟨hX, hb, hml, hr, hin, hown', hts, hlk, hiv, -⟩ := id hcx
  have k2 := kk p l e R s m args below meth c D cI base b0 adK adV C1 S1 Z hcx hC hS1 hfin la H locs cells slots hP hz hS hL hcs hss
  simp only [List.map_cons, aC, aAd_tx]
  exact vk_getf hX hb (hiv.2.2.1.1 i hi).2.1 hS hown' (hts _ hl) (fun x hx => hx) (aDec1 hM hf rfl rfl) k2
/-- how many bytes -/
theorem b_sblen (hM : aOK M) (hf : aFetch (aMt M) pc = some .arraylength) (hi : i < 8) (kk : AW M d kc ks n sc Q (pc + 1, ls, .inl ((aTxLen.getD i 0 : Nat) : Int) :: st, h)) : AW M d kc ks n sc Q (pc, ls, .inr (1033 + i) :: st, h) := by
  intro p l e R s m args below meth c D cI base b0 adK adV C1 S1 Z hcx hC hS1 hfin la H locs cells slots hP hz hS hL hcs hss
  obtain ⟨hX, hb, hml, hr, hin, hown', hts, hlk, hiv, -⟩ := id hcx
  have k2 := kk p l e R s m args below meth c D cI base b0 adK adV C1 S1 Z hcx hC hS1 hfin la H locs cells slots hP hz hS hL hcs hss
  simp only [List.map_cons, aC, aAd_bt]
  exact va_tlen (ty := .byte) hX hb (hiv.2.2.1.1 i hi).2.2.2 hS rfl (aDec1 hM hf rfl rfl) k2
/-- the letter at j of constant i -/
def chr (i j : Nat) : Int := ((aTxByt.getD i []).getD j 0).toInt
/-- one byte -/
theorem b_sbld {j : Nat} {x : Int} (hM : aOK M) (hf : aFetch (aMt M) pc = some .baload) (hi : i < 8) (hx : x = (j : Int)) (hj : j < aTxLen.getD i 0) (hj2 : aTxLen.getD i 0 < 2147483648) (kk : AW M d kc ks n sc Q (pc + 1, ls, .inl (chr i j) :: st, h)) : AW M d kc ks n sc Q (pc, ls, .inl x :: .inr (1033 + i) :: st, h) := by
  intro p l e R s m args below meth c D cI base b0 adK adV C1 S1 Z hcx hC hS1 hfin la H locs cells slots hP hz hS hL hcs hss
  obtain ⟨hX, hb, hml, hr, hin, hown', hts, hlk, hiv, -⟩ := id hcx
  have ej : Int32.ofInt x = nI j := by rw [hx]; rfl
  have k2 := kk p l e R s m args below meth c D cI base b0 adK adV C1 S1 Z hcx hC hS1 hfin la H locs cells slots hP hz hS hL hcs hss
  simp only [List.map_cons, aC, chr, Int32.ofInt_toInt] at k2
  simp only [List.map_cons, aC, aAd_bt]
  refine va_tb hX hb (hiv.2.2.1.1 i hi).2.2.2 hS (i := Int32.ofInt x) (by rw [ej]; exact aIx hj (by omega)) (v := .int ((aTxByt.getD i []).getD j 0)) (by rw [ej, nI_clamp (by omega)]) (aDec1 hM hf rfl rfl) k2
/-- COMPACT_STRINGS -/
theorem b_gets (hd : decode (aMc M) pc = .ok (.getstatic idx, 3)) (hl : Cond.fieldLink (aMy M).cls idx "java/lang/String" "COMPACT_STRINGS" "Z" ∈ aBW) (kk : AW M d kc ks n sc Q (pc + 3, ls, .inl 1 :: st, h)) : AW M d kc ks n sc Q (pc, ls, st, h) := by
  intro p l e R s m args below meth c D cI base b0 adK adV C1 S1 Z hcx hC hS1 hfin la H locs cells slots hP hz hS hL hcs hss
  obtain ⟨hX, hb, hml, hr, hin, hown', hts, hlk, hiv, -⟩ := id hcx
  have k2 := kk p l e R s m args below meth c D cI base b0 adK adV C1 S1 Z hcx hC hS1 hfin la H locs cells slots hP hz hS hL hcs hss
  exact va_gets hX hb hiv.2.2.2.2.1 hS hown' (hts _ hl) (fun x hx => hx) hd k2
/-- to a char -/
theorem b_i2c {x : Int} (hM : aOK M) (hf : aFetch (aMt M) pc = some .i2c) (hx : 0 ≤ x ∧ x ≤ 65535) (kk : AW M d kc ks n sc Q (pc + 1, ls, .inl x :: st, h)) : AW M d kc ks n sc Q (pc, ls, .inl x :: st, h) := by
  intro p l e R s m args below meth c D cI base b0 adK adV C1 S1 Z hcx hC hS1 hfin la H locs cells slots hP hz hS hL hcs hss
  obtain ⟨hX, hb, hml, hr, hin, hown', hts, hlk, hiv, -⟩ := id hcx
  have k2 := kk p l e R s m args below meth c D cI base b0 adK adV C1 S1 Z hcx hC hS1 hfin la H locs cells slots hP hz hS hL hcs hss
  have e2 : (Int32.ofInt x).toUInt32.toNat = x.toNat := by
    show (BitVec.ofInt 32 x).toNat = _
    rw [BitVec.toNat_ofInt]
    omega
  have e : ((Int32.ofInt x).toUInt32 % 65536).toInt32 = Int32.ofInt x := by
    have e3 : (Int32.ofInt x).toUInt32 % 65536 = (Int32.ofInt x).toUInt32 := by
      apply UInt32.toNat_inj.mp
      rw [UInt32.toNat_mod, e2]
      show x.toNat % 65536 = x.toNat
      omega
    rw [e3]; rfl
  exact lv_i2c hX hb (aDec1 hM hf rfl rfl) e k2
/-- a call on a constant -/
theorem b_callZ (hM : aOK M) (hf : aFetch (aMt M) pc = some (.invokevirtual idx)) (hl : aLkV (aMy M).cls idx Mc) (hc : aCal Mc na) (hd : dc + 1 ≤ d) (hna : as.length = na) (hrl : rest.length ≤ 8) (hi : i < 8) (hcl : (aMy Mc).cls = "java/lang/String") (hst : st = as.reverse ++ .inr (1025 + i) :: rest) (ev : aEv Mc dc kc1 ks1 n (.inr (1025 + i) :: as) h Q1)
    (kk : ∀ v h', Q1 v h' → AW M d kc ks (n + kc1) sc Q (pc + 3, ls, v.toList ++ rest, h')) : AW M d (kc1 + kc) (ks1 + ks) n sc Q (pc, ls, st, h) := by
  intro p l e R s m args below meth c D cI base b0 adK adV C1 S1 Z hcx hC hS1 hfin la H locs cells slots hP hz hS hL hcs hss
  obtain ⟨hX, hb, hml, hr, hin, hown, hts, hlk, hiv, hrm, hba, hsc⟩ := id hcx
  obtain ⟨c1, c2, c3, c4, c5, c6⟩ := hc
  have hev := ev l D cI base b0 adK adV
  have hcall : va_Run p l e R s m args below meth c H locs cells slots kc1 ks1 (F0 m pc la (st.map (aC (aAd base b0 adK)))) (rest.map (aC (aAd base b0 adK))) (aPost D cI base b0 adK (n + kc1) Q1 (Value.ref (aAd base b0 adK (1025 + i)) :: as.map (aC (aAd base b0 adK))).toArray) (fun q => base ≤ q) := by
    refine va_runV (As := as.map (aC (aAd base b0 adK))) (rest := rest.map (aC (aAd base b0 adK))) ⟨hX, hb, hml, hown, hts⟩ hev ⟨callB_of (maxL := aMn Mc) (bytes := aMc Mc) (ret := aMr Mc) na hts (aBW_in c1) rfl rfl rfl (hts _ c2) (hts _ hl.1) ⟨c3.1, c3.2, c4⟩ ⟨by show dc + 1 ≤ _; omega, by show 8 + (aMn Mc + 11) + 36 * dc ≤ _; omega⟩, hts _ hl.2.1, hts _ hl.2.2⟩ ⟨aPre_blind, by rw [hcl, aAd_tx]; exact vk_recv hiv.2.2.1 hi hS, a_pre hcx hP hz hS (.inr (1025 + i) :: as) _ rfl⟩ rfl (by rw [List.length_map]; exact hna) hL.1 (by rw [hst, List.map_append, List.map_reverse]; rfl) (lv_room (by rw [aCat_sum]; exact hrl)) (aDec1 hM hf rfl rfl) ⟨by omega, by omega⟩
  refine a_cont hcall hS fun v h' H1 locs1 g1 g2 g3 g4 => ?_
  have hkk := kk v h' g1 p l e R s m args below meth c D cI base b0 adK adV C1 S1 Z hcx hC hS1 (fun v h pc la H locs slots z1 z2 z3 => hfin v h pc la H locs slots z1 z2 (by omega)) la H1 locs1 (cells + kc1) (slots + ks1) g2 g3 g4 hL (by omega) (by omega)
  simp only [List.map_append] at hkk
  cases v <;> exact hkk
theorem b_vZ (v : aV) (hM : aOK M) (hf : aFetch (aMt M) pc = some (.invokevirtual idx)) (hl : aLkV (aMy M).cls idx Mc) (hc : aCal Mc na) (hd : dc + 1 ≤ d) (hna : as.length = na) (hrl : rest.length ≤ 8) (hi : i < 8) (hcl : (aMy Mc).cls = "java/lang/String") (hst : st = as.reverse ++ .inr (1025 + i) :: rest) (ev : aEx Mc dc n (.inr (1025 + i) :: as) h (some v) h)
    (kk : AW M d kc ks n sc Q (pc + 3, ls, v :: rest, h)) : AW M d kc ks n sc Q (pc, ls, st, h) := by
  have := b_callZ (kc := kc) (ks := ks) hM hf hl hc hd hna hrl hi hcl hst ev (ls := ls) (Q := Q) (sc := sc) (fun v1 h1 z => by obtain ⟨rfl, rfl⟩ := z; exact kk)
  rwa [Nat.zero_add, Nat.zero_add] at this
/-! a last argument of which nothing is known but that it is a reference -/
def aPreX (D : va_G) (cI : ClassId) (base b0 : Nat) (adK adV : Nat → Nat) (n : Nat) (as : List aV) (h : aH) : Array Value → State → Prop := fun v U =>
  ∃ w : Value, (w = .null ∨ ∃ t, w = .ref t) ∧ v = (as.map (aC (aAd base b0 adK)) ++ [w]).toArray ∧ aPre D cI base b0 adK adV n as h (as.map (aC (aAd base b0 adK))).toArray U
theorem aPreX_blind {D : va_G} {cI : ClassId} {base b0 : Nat} {adK adV : Nat → Nat} {n : Nat} {as : List aV} {h : aH} : FrameBlind (aPreX D cI base b0 adK adV n as h) := by
  rintro a U g mk ⟨w, h1, h2, -, h3, h4, h5, h6⟩
  exact ⟨w, h1, h2, rfl, h3, h4, h5, aIv_moved (s := U) (U := U.calling g mk a) (State.WarmedH.refl U) (fun _ _ _ => rfl) h6⟩
theorem lv_args_memX (ad : Nat → Nat) (x : Value) : ∀ (as : List aV) (i k : Nat) (w : aV), as[k]? = some w → (i + k, aC ad w) ∈ lv_args i (as.map (aC ad) ++ [x])
  | [], i, k, w, h => by simp at h
  | a :: as, i, 0, w, h => by
    simp only [List.getElem?_cons_zero, Option.some.injEq] at h
    subst h
    exact List.mem_cons_self
  | a :: as, i, k + 1, w, h => by
    simp only [List.getElem?_cons_succ] at h
    have := lv_args_memX ad x as (i + 1) k w h
    show _ ∈ (i, aC ad a) :: lv_args (if (aC ad a).category = 2 then i + 2 else i + 1) (as.map (aC ad) ++ [x])
    rw [aC_cat, if_neg (by decide)]
    rw [show i + (k + 1) = i + 1 + k by omega]
    exact List.mem_cons_of_mem _ this
theorem lg_sl_lenX (ad : Nat → Nat) (as : List aV) {x : Value} (hx : x = .null ∨ ∃ t, x = .ref t) : (lg_sl (as.map (aC ad) ++ [x])).length = as.length + 1 := by
  have h1 := lg_sl_len ad as
  have h2 : (lg_sl [x]).length = 1 := by
    rcases hx with rfl | ⟨t, rfl⟩ <;> rfl
  unfold lg_sl at h1 h2 ⊢
  rw [List.flatMap_append, List.length_append, h1, h2]
theorem aEn_okX (ad : Nat → Nat) {nL : Nat} {as : List aV} {x : Value} (hx : x = .null ∨ ∃ t, x = .ref t) (hn : as.length + 1 ≤ nL) : aL ad (aEn nL as) ((lg_sl (as.map (aC ad) ++ [x]) ++ List.replicate (nL - (lg_sl (as.map (aC ad) ++ [x])).length) Slot.unset).toArray) nL := by
  refine lv_less (lv_entry (as.map (aC ad) ++ [x]) (n := nL) (by rw [lg_sl_lenX ad as hx]; exact hn)) fun q hq => ?_
  obtain ⟨i, v⟩ := q
  obtain ⟨w, h1, rfl⟩ := aAss_in.mp hq
  unfold aEn at h1
  by_cases hi : i < as.length
  · rw [List.getElem?_append_left (by rw [List.length_map]; exact hi), List.getElem?_map] at h1
    have h2 : as[i]? = some w := by
      cases hh : as[i]? with
      | none => rw [hh] at h1; cases h1
      | some z => rw [hh] at h1; cases h1; rfl
    have := lv_args_memX ad x as 0 i w h2
    rwa [Nat.zero_add] at this
  · rw [List.getElem?_append_right (by rw [List.length_map]; omega), List.getElem?_replicate] at h1
    split at h1 <;> cases h1
def aEvX (M : aM) (d kc ks n : Nat) (as : List aV) (h : aH) (Q : Option aV → aH → Prop) : Prop :=
  ∀ (l : Launch) (D : va_G) (cI : ClassId) (base b0 : Nat) (adK adV : Nat → Nat), Met l (aMy M) (aWs M) (aRm d kc ks) (aPreX D cI base b0 adK adV n as h) (aPost D cI base b0 adK (n + kc) Q) kc ks (fun q => base ≤ q)
theorem aEvX_of (hM : aOK M) (hc : aCal M na) (hn : as.length + 1 ≤ aMn M) (k : AW M d kc ks n none Q (0, aEn (aMn M) as, [], h)) : aEvX M d kc ks n as h Q := by
  intro l D cI base b0 adK adV
  refine Met.ofW (cc := aMc M) (maxL := aMn M) (ret := aMr M) hc.2.2.2.2.1 rfl ?_
  intro p e s m args below meth c s₁ B hml hv
  obtain ⟨w, hw0, rfl, -, hz, hba, hP, hiv⟩ := hv
  rw [lg_entry_eq]
  have hw := atoms_spec (ws := aWs M) B.pre
  refine k p l e (aRm d kc ks) s m _ below meth c D cI base b0 adK adV kc ks _ ⟨B.exec, B.bytes, hml, B.returns, fun z => by rw [(name_of_methodNamed B.named B.method).1, z], findClass_of_methodNamed B.named, fun w hh => hw w (List.mem_cons_of_mem _ hh), B.notSynchronized, hiv, ⟨Nat.le_refl _, Nat.le_refl _⟩, hba, fun L xs z => by cases z⟩ (Nat.le_refl _) (Nat.le_refl _) ?_ _ s.heap [] 0 0 hP hz va_S.rf (aEn_okX (aAd base b0 adK) hw0 hn) (by omega) (by omega)
  intro v h' pc la H locs slots hq hP' hz' hS' hss hret
  refine W.widen (Nat.le_refl _) hss ?_
  have hqc : ∀ t : State, t.heap = H → s.WarmedH t.vm → aPost D cI base b0 adK (n + kc) Q (as.map (aC (aAd base b0 adK)) ++ [w]).toArray s (.returned (v.map (aC (aAd base b0 adK)))) t := fun t ht hW => ⟨⟨v, h', rfl, hq, by rw [ht]; exact hz', by rw [ht]; exact hP'⟩, hS'.F ht⟩
  cases v with
  | none =>
    obtain ⟨g1, g2⟩ := hret
    exact W.vret B.exec B.bytes (by rw [B.returns, g2]) (hqc) hS'.2.2 (aDec1 hM g1 rfl rfl)
  | some v => cases v with
    | inl z =>
      obtain ⟨g1, g2⟩ := hret
      rcases g2 with g2 | ⟨g2, g3⟩
      · obtain ⟨ty, g3, g4⟩ := aNar_of g2
        exact W.zret (ty := ty) B.exec B.bytes (by rw [B.returns, g3]) g4 hqc hS'.2.2 (aDec1 hM g1 rfl rfl)
      · exact W.zret (ty := .boolean) B.exec B.bytes (by rw [B.returns, g2]) (by rcases g3 with rfl | rfl <;> decide) hqc hS'.2.2 (aDec1 hM g1 rfl rfl)
    | inr z =>
      obtain ⟨g1, cn, g2⟩ := hret
      exact W.aret (rt := .object cn) B.exec B.bytes (by rw [B.returns, g2]) (Or.inl ⟨cn, rfl⟩) (Or.inr ⟨_, rfl⟩) hqc hS'.2.2 (aDec1 hM g1 rfl rfl)
/-- SIOOBE_FORMATTER, and a call that has it for its last argument -/
theorem b_callX (hM : aOK M) (hd0 : decode (aMc M) pc = .ok (.getstatic idx, 3)) (hl0 : Cond.fieldLink (aMy M).cls idx "jdk/internal/util/Preconditions" "SIOOBE_FORMATTER" "Ljava/util/function/BiFunction;" ∈ aBW) (hf : aFetch (aMt M) (pc + 3) = some (.invokestatic idx2)) (hl : aLkS (aMy M).cls idx2 Mc) (hc : aCal Mc na) (hd : dc + 1 ≤ d) (hna : as.length + 1 = na) (hrl : rest.length ≤ 8) (hst : st = as.reverse ++ rest) (ev : aEvX Mc dc kc1 ks1 n as h Q1)
    (kk : ∀ v h', Q1 v h' → AW M d kc ks (n + kc1) sc Q (pc + 3 + 3, ls, v.toList ++ rest, h')) : AW M d (kc1 + kc) (ks1 + ks) n sc Q (pc, ls, st, h) := by
  intro p l e R s m args below meth c D cI base b0 adK adV C1 S1 Z hcx hC hS1 hfin la H locs cells slots hP hz hS hL hcs hss
  obtain ⟨hX, hb, hml, hr, hin, hown, hts, hlk, hiv, hrm, hba, hsc⟩ := id hcx
  obtain ⟨c1, c2, c3, c4, c5, c6⟩ := hc
  have hev := ev l D cI base b0 adK adV
  obtain ⟨w, hw, hZ⟩ : ∃ w : Value, (w = .null ∨ ∃ t, w = .ref t) ∧ va_Z "jdk/internal/util/Preconditions" "SIOOBE_FORMATTER" "Ljava/util/function/BiFunction;" w (fun q => base ≤ q) s s.heap := by
    rcases hiv.2.2.2.2.2 with z | ⟨t, z⟩
    · exact ⟨_, Or.inl rfl, z⟩
    · exact ⟨_, Or.inr ⟨t, rfl⟩, z⟩
  refine va_gets hX hb hZ hS hown (hts _ hl0) (fun x hx => hx) hd0 ?_
  have hcall : va_Run p l e R s m args below meth c H locs cells slots kc1 ks1 (F0 m (pc + 3) la (w :: st.map (aC (aAd base b0 adK)))) (rest.map (aC (aAd base b0 adK))) (aPost D cI base b0 adK (n + kc1) Q1 (as.map (aC (aAd base b0 adK)) ++ [w]).toArray) (fun q => base ≤ q) := by
    refine va_runS (As := as.map (aC (aAd base b0 adK)) ++ [w]) (rest := rest.map (aC (aAd base b0 adK))) ⟨hX, hb, hml, hown, hts⟩ hev ⟨callB_of (maxL := aMn Mc) (bytes := aMc Mc) (ret := aMr Mc) na hts (aBW_in c1) rfl rfl rfl (hts _ c2) (hts _ hl.1) ⟨c3.1, c3.2, c4⟩ ⟨by show dc + 1 ≤ _; omega, by show 8 + (aMn Mc + 11) + 36 * dc ≤ _; omega⟩, hts _ hl.2⟩ ⟨aPreX_blind, fun U hU hW => ⟨w, hw, rfl, a_pre hcx hP hz hS as _ rfl U hU hW⟩⟩ rfl (by rw [List.length_append, List.length_map]; exact hna) hL.1 (by rw [hst, List.map_append, List.map_reverse, List.reverse_append]; rfl) (lv_room (by rw [aCat_sum]; exact hrl)) (aDec1 hM hf rfl rfl) ⟨by omega, by omega⟩
  refine a_cont hcall hS fun v h' H1 locs1 g1 g2 g3 g4 => ?_
  have hkk := kk v h' g1 p l e R s m args below meth c D cI base b0 adK adV C1 S1 Z hcx hC hS1 (fun v h pc la H locs slots z1 z2 z3 => hfin v h pc la H locs slots z1 z2 (by omega)) la H1 locs1 (cells + kc1) (slots + ks1) g2 g3 g4 hL (by omega) (by omega)
  simp only [List.map_append] at hkk
  cases v <;> exact hkk
end ASTR
