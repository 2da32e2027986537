/-! Methods' contracts over the abstract machine, and calls. -/
def aRm (d kc ks : Nat) : Room := { frames := d, cells := kc, slots := ks, locals := 36 * d }
def aPre (D : va_G) (cI : ClassId) (base b0 : Nat) (adK adV : Nat → Nat) (n : Nat) (as : List aV) (h : aH) : Array Value → State → Prop := fun v U =>
  v = (as.map (aC (aAd base b0 adK))).toArray ∧ U.heap.size = base + n ∧ base ≤ U.heap.size ∧ aP D cI (aAd base b0 adK) h U.heap ∧ aIv base D cI adK adV U
def aPost (D : va_G) (cI : ClassId) (base b0 : Nat) (adK : Nat → Nat) (n : Nat) (Q : Option aV → aH → Prop) : Array Value → State → Outcome → State → Prop := fun _ st o t =>
  (∃ (v : Option aV) (h : aH), o = .returned (v.map (aC (aAd base b0 adK))) ∧ Q v h ∧ t.heap.size = base + n ∧ aP D cI (aAd base b0 adK) h t.heap) ∧ va_F (fun q => base ≤ q) st t
def aWs (M : aM) : List Cond := Cond.code (aMy M) (aMc M) (aMn M) (aMr M) :: aBW
/-- method M, on these arguments over this heap with n cells made before, ends with Q; it makes kc cells of ks slots; d frames -/
def aEv (M : aM) (d kc ks n : Nat) (as : List aV) (h : aH) (Q : Option aV → aH → Prop) : Prop :=
  ∀ (l : Launch) (D : va_G) (cI : ClassId) (base b0 : Nat) (adK adV : Nat → Nat), Met l (aMy M) (aWs M) (aRm d kc ks) (aPre D cI base b0 adK adV n as h) (aPost D cI base b0 adK (n + kc) Q) kc ks (fun q => base ≤ q)
theorem aNW_is {w : Cond} (hw : w ∈ aNW) : ∃ a i x h, w = .methodLinkNest a i x h := by
  have h := (List.mem_filter.mp hw).2
  cases w <;> first | exact ⟨_, _, _, _, rfl⟩ | (simp at h)
theorem aIv_moved {base : Nat} {D : va_G} {cI : ClassId} {adK adV : Nat → Nat} {s U : State} (hW : s.WarmedH U.vm) (hk : ∀ a : Nat, a < s.heap.size → ¬ base ≤ a → U.heap[a]? = s.heap[a]?) (h : aIv base D cI adK adV s) : aIv base D cI adK adV U := by
  obtain ⟨h1, h2, h3, h4, h5, h6⟩ := h
  refine ⟨va_K.moved hW.alike h1, fun w hw => ?_, (vk_S.moved hW.alike h3).kept hk, fun i q hq => vk_R.warm hW (h4 i q hq), (va_Z.moved hW.alike h5).kept hk, (va_Zq.moved hW.alike h6).kept hk⟩
  obtain ⟨a, i, x, hh, rfl⟩ := aNW_is hw
  exact va_Nw.warmM hW (h2 _ hw)
theorem aPre_blind {D : va_G} {cI : ClassId} {base b0 : Nat} {adK adV : Nat → Nat} {n : Nat} {as : List aV} {h : aH} : FrameBlind (aPre D cI base b0 adK adV n as h) := by
  rintro a U g mk ⟨h1, h2, h3, h4, h5⟩
  exact ⟨h1, h2, h3, h4, aIv_moved (s := U) (U := U.calling g mk a) (State.WarmedH.refl U) (fun _ _ _ => rfl) h5⟩
/-- the locals of a method's start -/
def aEn (nL : Nat) (as : List aV) : aLs := as.map some ++ List.replicate (nL - as.length) none
theorem lv_args_mem (ad : Nat → Nat) : ∀ (as : List aV) (i k : Nat) (w : aV), as[k]? = some w → (i + k, aC ad w) ∈ lv_args i (as.map (aC ad))
  | [], i, k, w, h => by simp at h
  | a :: as, i, 0, w, h => by
    simp only [List.getElem?_cons_zero, Option.some.injEq] at h
    subst h
    exact List.mem_cons_self
  | a :: as, i, k + 1, w, h => by
    simp only [List.getElem?_cons_succ] at h
    have := lv_args_mem ad as (i + 1) k w h
    show _ ∈ (i, aC ad a) :: lv_args (if (aC ad a).category = 2 then i + 2 else i + 1) (as.map (aC ad))
    rw [aC_cat, if_neg (by decide)]
    rw [show i + (k + 1) = i + 1 + k by omega]
    exact List.mem_cons_of_mem _ this
theorem lg_sl_len (ad : Nat → Nat) (as : List aV) : (lg_sl (as.map (aC ad))).length = as.length := by
  induction as with
  | nil => rfl
  | cons a as ih =>
    simp only [lg_sl, List.map_cons, List.flatMap_cons, List.length_append, List.length_cons, aC_cat] at ih ⊢
    rw [ih]
    simp
    omega
theorem aEn_ok (ad : Nat → Nat) {nL : Nat} {as : List aV} (hn : as.length ≤ nL) : aL ad (aEn nL as) ((lg_sl (as.map (aC ad)) ++ List.replicate (nL - (lg_sl (as.map (aC ad))).length) Slot.unset).toArray) nL := by
  refine lv_less (lv_entry (as.map (aC ad)) (n := nL) (by rw [lg_sl_len]; exact hn)) fun q hq => ?_
  obtain ⟨i, v⟩ := q
  obtain ⟨w, h1, rfl⟩ := aAss_in.mp hq
  unfold aEn at h1
  by_cases hi : i < as.length
  · rw [List.getElem?_append_left (by rw [List.length_map]; exact hi), List.getElem?_map] at h1
    have h2 : as[i]? = some w := by
      cases hh : as[i]? with
      | none => rw [hh] at h1; cases h1
      | some z => rw [hh] at h1; cases h1; rfl
    have := lv_args_mem ad as 0 i w h2
    rwa [Nat.zero_add] at this
  · rw [List.getElem?_append_right (by rw [List.length_map]; omega), List.getElem?_replicate] at h1
    split at h1 <;> cases h1
/-- what a call needs of its callee -/
def aCal (M : aM) (na : Nat) : Prop := Cond.code (aMy M) (aMc M) (aMn M) (aMr M) ∈ aBW ∧ Cond.initialized (aMy M).cls ∈ aBW ∧ ((aMy M).cls ≠ "java/lang/invoke/MethodHandle" ∧ (aMy M).cls ≠ "java/lang/invoke/VarHandle") ∧ (parseMethodDescriptor (aMy M).desc).map (fun d => d.parameters.length) = some na ∧ plainName (aMy M).cls = true ∧ aMn M ≤ 17
theorem aEv_of {M : aM} (hM : aOK M) {d kc ks n : Nat} {as : List aV} {h : aH} {Q : Option aV → aH → Prop} {na : Nat} (hc : aCal M na) (hn : as.length ≤ aMn M) (k : AW M d kc ks n none Q (0, aEn (aMn M) as, [], h)) : aEv M d kc ks n as h Q := by
  intro l D cI base b0 adK adV
  refine Met.ofW (cc := aMc M) (maxL := aMn M) (ret := aMr M) hc.2.2.2.2.1 rfl ?_
  intro p e s m args below meth c s₁ B hml hv
  obtain ⟨rfl, hz, hba, hP, hiv⟩ := hv
  rw [lg_entry_eq]
  have hw := atoms_spec (ws := aWs M) B.pre
  refine k p l e (aRm d kc ks) s m _ below meth c D cI base b0 adK adV kc ks _ ⟨B.exec, B.bytes, hml, B.returns, fun z => by rw [(name_of_methodNamed B.named B.method).1, z], findClass_of_methodNamed B.named, fun w hh => hw w (List.mem_cons_of_mem _ hh), B.notSynchronized, hiv, ⟨Nat.le_refl _, Nat.le_refl _⟩, hba, fun L xs z => by cases z⟩ (Nat.le_refl _) (Nat.le_refl _) ?_ _ s.heap [] 0 0 hP hz va_S.rf (aEn_ok (aAd base b0 adK) hn) (by omega) (by omega)
  intro v h' pc la H locs slots hq hP' hz' hS' hss hret
  refine W.widen (Nat.le_refl _) hss ?_
  have hqc : ∀ t : State, t.heap = H → s.WarmedH t.vm → aPost D cI base b0 adK (n + kc) Q (as.map (aC (aAd base b0 adK))).toArray s (.returned (v.map (aC (aAd base b0 adK)))) t := fun t ht hW => ⟨⟨v, h', rfl, hq, by rw [ht]; exact hz', by rw [ht]; exact hP'⟩, hS'.F ht⟩
  cases v with
  | none =>
    obtain ⟨g1, g2⟩ := hret
    exact W.vret B.exec B.bytes (by rw [B.returns, g2]) (hqc) hS'.2.2 (aDec1 hM g1 rfl rfl)
  | some v => cases v with
    | inl z =>
      obtain ⟨g1, g2⟩ := hret
      rcases g2 with g2 | ⟨g2, g3⟩
      · obtain ⟨ty, g3, g4⟩ := aNar_of g2
        exact W.zret (ty := ty) B.exec B.bytes (by rw [B.returns, g3]) g4 hqc hS'.2.2 (aDec1 hM g1 rfl rfl)
      · exact W.zret (ty := .boolean) B.exec B.bytes (by rw [B.returns, g2]) (by rcases g3 with rfl | rfl <;> decide) hqc hS'.2.2 (aDec1 hM g1 rfl rfl)
    | inr z =>
      obtain ⟨g1, cn, g2⟩ := hret
      exact W.aret (rt := .object cn) B.exec B.bytes (by rw [B.returns, g2]) (Or.inl ⟨cn, rfl⟩) (Or.inr ⟨_, rfl⟩) hqc hS'.2.2 (aDec1 hM g1 rfl rfl)
section ACALL
variable {p : Program} {l : Launch} {e : Env} {R : Room} {s : State} {m : MethodId} {args : Array Value} {below : List Frame} {meth : Method} {c : Code} {Z : State → Prop}
/-- behind a call -/
theorem a_cont {D : va_G} {cI : ClassId} {base b0 : Nat} {adK : Nat → Nat} {n mc ms : Nat} {Q1 : Option aV → aH → Prop} {H : Heap} {locs : List Loc} {cells slots pc : Nat} {la : Array Slot} {st0 rest : List Value} {a : Array Value} (hr : va_Run p l e R s m args below meth c H locs cells slots mc ms (F0 m pc la st0) rest (aPost D cI base b0 adK n Q1 a) (fun q => base ≤ q)) (hS : va_S (fun q => base ≤ q) s.heap H locs)
    (kk : ∀ (v : Option aV) (h' : aH) (H1 : Heap) (locs1 : List Loc), Q1 v h' → aP D cI (aAd base b0 adK) h' H1 → H1.size = base + n → va_S (fun q => base ≤ q) s.heap H1 locs1 → W p l e R s m args below meth c H1 locs1 (cells + mc) (slots + ms) Z (F0 m (pc + 3) la ((v.map (aC (aAd base b0 adK))).toList ++ rest))) : W p l e R s m args below meth c H locs cells slots Z (F0 m pc la st0) := by
  intro T hT X
  obtain ⟨v0, st₀, t, T', L, h0, X', hL, e1, e2, ⟨⟨v, h', hv, hq, hz, hP⟩, hf1, hf2⟩, st⟩ := hr T hT X
  cases hv
  rw [h0] at hf1 hf2
  obtain ⟨t2, a1, b1⟩ := kk v h' T'.heap (locs ++ L) hq (by rw [e1]; exact hP) (by rw [e1]; exact hz) ⟨Nat.le_trans hS.1 (by rw [e1]; exact hf1), fun q h1 h2 => by rw [e1, hf2 q (Nat.lt_of_lt_of_le h1 hS.1) h2]; exact hS.2.1 q h1 h2, fun q hq => by
      rcases List.mem_append.mp hq with h | h
      · exact hS.2.2 q h
      · exact hL q h⟩ T' rfl X'
  exact ⟨t2, st t2 a1, b1⟩
theorem a_pre {M : aM} {d : Nat} {sc : Option (Nat × (Nat → Int32))} {base b0 : Nat} {adK adV : Nat → Nat} {D : va_G} {cI : ClassId} (hcx : aCx M d sc base b0 adK adV D cI p R s m args meth c) {H : Heap} {n : Nat} {h : aH} {locs : List Loc} (hP : aP D cI (aAd base b0 adK) h H) (hz : H.size = base + n) (hS : va_S (fun q => base ≤ q) s.heap H locs) (as : List aV) (va : List Value) (hva : va = as.map (aC (aAd base b0 adK))) : ∀ U : State, U.heap = H → s.WarmedH U.vm → aPre D cI base b0 adK adV n as h va.toArray U := by
  intro U hU hW
  subst hva
  have hba := hcx.2.2.2.2.2.2.2.2.2.2.1
  exact ⟨rfl, by rw [hU]; exact hz, by rw [hU, hz]; omega, by rw [hU]; exact hP, aIv_moved hW (fun a h1 h2 => by rw [hU]; exact hS.2.1 a h1 h2) hcx.2.2.2.2.2.2.2.2.1⟩
end ACALL
section ARC
variable {M Mc : aM} {d dc kc ks kc1 ks1 n na : Nat} {sc : Option (Nat × (Nat → Int32))} {Q Q1 : Option aV → aH → Prop} {pc idx k ci N : Nat} {ls : aLs} {st rest as : List aV} {h : aH} {fs : List (Option aV)} {T : u_T} {host : String}
def aLkV (own : String) (idx : Nat) (Mc : aM) : Prop := Cond.methodLink own idx (aMy Mc) ∈ aBW ∧ Cond.instanceMethod (aMy Mc) ∈ aBW ∧ Cond.selects (aMy Mc).cls (aMy Mc) (aMy Mc) ∈ aBW
def aLkS (own : String) (idx : Nat) (Mc : aM) : Prop := Cond.methodLink own idx (aMy Mc) ∈ aBW ∧ Cond.static (aMy Mc) ∈ aBW
def aLkSN (own : String) (idx : Nat) (Mc : aM) (host : String) : Prop := Cond.methodLinkNest own idx (aMy Mc) host ∈ aNW ∧ Cond.static (aMy Mc) ∈ aBW
def aLkI (own : String) (idx : Nat) (Mc : aM) : Prop := Cond.methodLink own idx (aMy Mc) ∈ aBW ∧ Cond.instanceMethod (aMy Mc) ∈ aBW ∧ (aMy Mc).name = "<init>" ∧ aMr Mc = none
def aLkIN (own : String) (idx : Nat) (Mc : aM) (host : String) : Prop := Cond.methodLinkNest own idx (aMy Mc) host ∈ aNW ∧ Cond.instanceMethod (aMy Mc) ∈ aBW ∧ (aMy Mc).name = "<init>" ∧ aMr Mc = none
theorem b_callV (hM : aOK M) (hf : aFetch (aMt M) pc = some (.invokevirtual idx)) (hl : aLkV (aMy M).cls idx Mc) (hc : aCal Mc na) (hd : dc + 1 ≤ d) (hna : as.length = na) (hrl : rest.length ≤ 8) (hk : aGet h k = some (.inr (ci, fs))) (hcl : aCls[ci]? = some ((aMy Mc).cls, T, N)) (hst : st = as.reverse ++ .inr k :: rest) (ev : aEv Mc dc kc1 ks1 n (.inr k :: as) h Q1)
    (kk : ∀ v h', Q1 v h' → AW M d kc ks (n + kc1) sc Q (pc + 3, ls, v.toList ++ rest, h')) : AW M d (kc1 + kc) (ks1 + ks) n sc Q (pc, ls, st, h) := by
  intro p l e R s m args below meth c D cI base b0 adK adV C1 S1 Z hcx hC hS1 hfin la H locs cells slots hP hz hS hL hcs hss
  obtain ⟨hX, hb, hml, hr, hin, hown, hts, hlk, hiv, hrm, hba, hsc⟩ := id hcx
  obtain ⟨c1, c2, c3, c4, c5, c6⟩ := hc
  have hev := ev l D cI base b0 adK adV
  have hcall : va_Run p l e R s m args below meth c H locs cells slots kc1 ks1 (F0 m pc la (st.map (aC (aAd base b0 adK)))) (rest.map (aC (aAd base b0 adK))) (aPost D cI base b0 adK (n + kc1) Q1 (Value.ref (aAd base b0 adK k) :: as.map (aC (aAd base b0 adK))).toArray) (fun q => base ≤ q) := by
    refine va_runV (As := as.map (aC (aAd base b0 adK))) (rest := rest.map (aC (aAd base b0 adK))) ⟨hX, hb, hml, hown, hts⟩ hev ⟨callB_of (maxL := aMn Mc) (bytes := aMc Mc) (ret := aMr Mc) na hts (aBW_in c1) rfl rfl rfl (hts _ c2) (hts _ hl.1) ⟨c3.1, c3.2, c4⟩ ⟨by show dc + 1 ≤ _; omega, by show 8 + (aMn Mc + 11) + 36 * dc ≤ _; omega⟩, hts _ hl.2.1, hts _ hl.2.2⟩ ⟨aPre_blind, va_recv hiv.1 (aP_one hP hk) (ci := ci) (q0 := 0) hcl rfl, a_pre hcx hP hz hS (.inr k :: as) _ rfl⟩ rfl (by rw [List.length_map]; exact hna) hL.1 (by rw [hst, List.map_append, List.map_reverse]; rfl) (lv_room (by rw [aCat_sum]; exact hrl)) (aDec1 hM hf rfl rfl) ⟨by omega, by omega⟩
  refine a_cont hcall hS fun v h' H1 locs1 g1 g2 g3 g4 => ?_
  have hkk := kk v h' g1 p l e R s m args below meth c D cI base b0 adK adV C1 S1 Z hcx hC hS1 (fun v h pc la H locs slots z1 z2 z3 => hfin v h pc la H locs slots z1 z2 (by omega)) la H1 locs1 (cells + kc1) (slots + ks1) g2 g3 g4 hL (by omega) (by omega)
  simp only [List.map_append] at hkk
  cases v <;> exact hkk
theorem b_callS (hM : aOK M) (hf : aFetch (aMt M) pc = some (.invokestatic idx)) (hl : aLkS (aMy M).cls idx Mc) (hc : aCal Mc na) (hd : dc + 1 ≤ d) (hna : as.length = na) (hrl : rest.length ≤ 8) (hst : st = as.reverse ++ rest) (ev : aEv Mc dc kc1 ks1 n as h Q1)
    (kk : ∀ v h', Q1 v h' → AW M d kc ks (n + kc1) sc Q (pc + 3, ls, v.toList ++ rest, h')) : AW M d (kc1 + kc) (ks1 + ks) n sc Q (pc, ls, st, h) := by
  intro p l e R s m args below meth c D cI base b0 adK adV C1 S1 Z hcx hC hS1 hfin la H locs cells slots hP hz hS hL hcs hss
  obtain ⟨hX, hb, hml, hr, hin, hown, hts, hlk, hiv, hrm, hba, hsc⟩ := id hcx
  obtain ⟨c1, c2, c3, c4, c5, c6⟩ := hc
  have hev := ev l D cI base b0 adK adV
  have hcall : va_Run p l e R s m args below meth c H locs cells slots kc1 ks1 (F0 m pc la (st.map (aC (aAd base b0 adK)))) (rest.map (aC (aAd base b0 adK))) (aPost D cI base b0 adK (n + kc1) Q1 (as.map (aC (aAd base b0 adK))).toArray) (fun q => base ≤ q) := by
    refine va_runS (As := as.map (aC (aAd base b0 adK))) (rest := rest.map (aC (aAd base b0 adK))) ⟨hX, hb, hml, hown, hts⟩ hev ⟨callB_of (maxL := aMn Mc) (bytes := aMc Mc) (ret := aMr Mc) na hts (aBW_in c1) rfl rfl rfl (hts _ c2) (hts _ hl.1) ⟨c3.1, c3.2, c4⟩ ⟨by show dc + 1 ≤ _; omega, by show 8 + (aMn Mc + 11) + 36 * dc ≤ _; omega⟩, hts _ hl.2⟩ ⟨aPre_blind, a_pre hcx hP hz hS as _ rfl⟩ rfl (by rw [List.length_map]; exact hna) hL.1 (by rw [hst, List.map_append, List.map_reverse]) (lv_room (by rw [aCat_sum]; exact hrl)) (aDec1 hM hf rfl rfl) ⟨by omega, by omega⟩
  refine a_cont hcall hS fun v h' H1 locs1 g1 g2 g3 g4 => ?_
  have hkk := kk v h' g1 p l e R s m args below meth c D cI base b0 adK adV C1 S1 Z hcx hC hS1 (fun v h pc la H locs slots z1 z2 z3 => hfin v h pc la H locs slots z1 z2 (by omega)) la H1 locs1 (cells + kc1) (slots + ks1) g2 g3 g4 hL (by omega) (by omega)
  simp only [List.map_append] at hkk
  cases v <;> exact hkk
theorem b_callSN (hM : aOK M) (hf : aFetch (aMt M) pc = some (.invokestatic idx)) (hl : aLkSN (aMy M).cls idx Mc host) (hc : aCal Mc na) (hd : dc + 1 ≤ d) (hna : as.length = na) (hrl : rest.length ≤ 8) (hst : st = as.reverse ++ rest) (ev : aEv Mc dc kc1 ks1 n as h Q1)
    (kk : ∀ v h', Q1 v h' → AW M d kc ks (n + kc1) sc Q (pc + 3, ls, v.toList ++ rest, h')) : AW M d (kc1 + kc) (ks1 + ks) n sc Q (pc, ls, st, h) := by
  intro p l e R s m args below meth c D cI base b0 adK adV C1 S1 Z hcx hC hS1 hfin la H locs cells slots hP hz hS hL hcs hss
  obtain ⟨hX, hb, hml, hr, hin, hown, hts, hlk, hiv, hrm, hba, hsc⟩ := id hcx
  obtain ⟨c1, c2, c3, c4, c5, c6⟩ := hc
  have hev := ev l D cI base b0 adK adV
  have hcall : va_Run p l e R s m args below meth c H locs cells slots kc1 ks1 (F0 m pc la (st.map (aC (aAd base b0 adK)))) (rest.map (aC (aAd base b0 adK))) (aPost D cI base b0 adK (n + kc1) Q1 (as.map (aC (aAd base b0 adK))).toArray) (fun q => base ≤ q) := by
    refine va_runSN (As := as.map (aC (aAd base b0 adK))) (rest := rest.map (aC (aAd base b0 adK))) ⟨hX, hb, hml, hown, hts⟩ hev ⟨va_cnB (maxL := aMn Mc) (bytes := aMc Mc) (ret := aMr Mc) na hts (aBW_in c1) rfl rfl rfl (hiv.2.1 _ hl.1) (hts _ c2) ⟨c3.1, c3.2, c4⟩ ⟨by show dc + 1 ≤ _; omega, by show 8 + (aMn Mc + 11) + 36 * dc ≤ _; omega⟩, hts _ hl.2, trivial⟩ ⟨aPre_blind, a_pre hcx hP hz hS as _ rfl⟩ rfl (by rw [List.length_map]; exact hna) hL.1 (by rw [hst, List.map_append, List.map_reverse]) (lv_room (by rw [aCat_sum]; exact hrl)) (aDec1 hM hf rfl rfl) ⟨by omega, by omega⟩
  refine a_cont hcall hS fun v h' H1 locs1 g1 g2 g3 g4 => ?_
  have hkk := kk v h' g1 p l e R s m args below meth c D cI base b0 adK adV C1 S1 Z hcx hC hS1 (fun v h pc la H locs slots z1 z2 z3 => hfin v h pc la H locs slots z1 z2 (by omega)) la H1 locs1 (cells + kc1) (slots + ks1) g2 g3 g4 hL (by omega) (by omega)
  simp only [List.map_append] at hkk
  cases v <;> exact hkk
theorem b_callI (hM : aOK M) (hf : aFetch (aMt M) pc = some (.invokespecial idx)) (hl : aLkI (aMy M).cls idx Mc) (hc : aCal Mc na) (hd : dc + 1 ≤ d) (hna : as.length = na) (hrl : rest.length ≤ 8) (hst : st = as.reverse ++ .inr k :: rest) (ev : aEv Mc dc kc1 ks1 n (.inr k :: as) h Q1)
    (kk : ∀ v h', Q1 v h' → AW M d kc ks (n + kc1) sc Q (pc + 3, ls, v.toList ++ rest, h')) : AW M d (kc1 + kc) (ks1 + ks) n sc Q (pc, ls, st, h) := by
  intro p l e R s m args below meth c D cI base b0 adK adV C1 S1 Z hcx hC hS1 hfin la H locs cells slots hP hz hS hL hcs hss
  obtain ⟨hX, hb, hml, hr, hin, hown, hts, hlk, hiv, hrm, hba, hsc⟩ := id hcx
  obtain ⟨c1, c2, c3, c4, c5, c6⟩ := hc
  have hev := ev l D cI base b0 adK adV
  obtain ⟨l1, l2, l3, l4⟩ := hl
  unfold aWs at hev
  rw [l4] at hev c1
  have hcall : va_Run p l e R s m args below meth c H locs cells slots kc1 ks1 (F0 m pc la (st.map (aC (aAd base b0 adK)))) (rest.map (aC (aAd base b0 adK))) (aPost D cI base b0 adK (n + kc1) Q1 (Value.ref (aAd base b0 adK k) :: as.map (aC (aAd base b0 adK))).toArray) (fun q => base ≤ q) := by
    refine va_runI (As := as.map (aC (aAd base b0 adK))) (rest := rest.map (aC (aAd base b0 adK))) ⟨hX, hb, hml, hown, hts⟩ hev ⟨callB_of (maxL := aMn Mc) (bytes := aMc Mc) (ret := none) na hts (aBW_in c1) rfl rfl rfl (hts _ c2) (hts _ l1) ⟨c3.1, c3.2, c4⟩ ⟨by show dc + 1 ≤ _; omega, by show 8 + (aMn Mc + 11) + 36 * dc ≤ _; omega⟩, l3, hts _ l2⟩ ⟨aPre_blind, a_pre hcx hP hz hS (.inr k :: as) _ rfl⟩ rfl (by rw [List.length_map]; exact hna) hL.1 (by rw [hst, List.map_append, List.map_reverse]; rfl) (lv_room (by rw [aCat_sum]; exact hrl)) (aDec1 hM hf rfl rfl) ⟨by omega, by omega⟩
  refine a_cont hcall hS fun v h' H1 locs1 g1 g2 g3 g4 => ?_
  have hkk := kk v h' g1 p l e R s m args below meth c D cI base b0 adK adV C1 S1 Z hcx hC hS1 (fun v h pc la H locs slots z1 z2 z3 => hfin v h pc la H locs slots z1 z2 (by omega)) la H1 locs1 (cells + kc1) (slots + ks1) g2 g3 g4 hL (by omega) (by omega)
  simp only [List.map_append] at hkk
  cases v <;> exact hkk
theorem b_callIN (hM : aOK M) (hf : aFetch (aMt M) pc = some (.invokespecial idx)) (hl : aLkIN (aMy M).cls idx Mc host) (hc : aCal Mc na) (hd : dc + 1 ≤ d) (hna : as.length = na) (hrl : rest.length ≤ 8) (hst : st = as.reverse ++ .inr k :: rest) (ev : aEv Mc dc kc1 ks1 n (.inr k :: as) h Q1)
    (kk : ∀ v h', Q1 v h' → AW M d kc ks (n + kc1) sc Q (pc + 3, ls, v.toList ++ rest, h')) : AW M d (kc1 + kc) (ks1 + ks) n sc Q (pc, ls, st, h) := by
  intro p l e R s m args below meth c D cI base b0 adK adV C1 S1 Z hcx hC hS1 hfin la H locs cells slots hP hz hS hL hcs hss
  obtain ⟨hX, hb, hml, hr, hin, hown, hts, hlk, hiv, hrm, hba, hsc⟩ := id hcx
  obtain ⟨c1, c2, c3, c4, c5, c6⟩ := hc
  have hev := ev l D cI base b0 adK adV
  obtain ⟨l1, l2, l3, l4⟩ := hl
  unfold aWs at hev
  rw [l4] at hev c1
  have hcall : va_Run p l e R s m args below meth c H locs cells slots kc1 ks1 (F0 m pc la (st.map (aC (aAd base b0 adK)))) (rest.map (aC (aAd base b0 adK))) (aPost D cI base b0 adK (n + kc1) Q1 (Value.ref (aAd base b0 adK k) :: as.map (aC (aAd base b0 adK))).toArray) (fun q => base ≤ q) := by
    refine va_runIN (As := as.map (aC (aAd base b0 adK))) (rest := rest.map (aC (aAd base b0 adK))) ⟨hX, hb, hml, hown, hts⟩ hev ⟨va_cnB (maxL := aMn Mc) (bytes := aMc Mc) (ret := none) na hts (aBW_in c1) rfl rfl rfl (hiv.2.1 _ l1) (hts _ c2) ⟨c3.1, c3.2, c4⟩ ⟨by show dc + 1 ≤ _; omega, by show 8 + (aMn Mc + 11) + 36 * dc ≤ _; omega⟩, l3, hts _ l2⟩ ⟨aPre_blind, a_pre hcx hP hz hS (.inr k :: as) _ rfl⟩ rfl (by rw [List.length_map]; exact hna) hL.1 (by rw [hst, List.map_append, List.map_reverse]; rfl) (lv_room (by rw [aCat_sum]; exact hrl)) (aDec1 hM hf rfl rfl) ⟨by omega, by omega⟩
  refine a_cont hcall hS fun v h' H1 locs1 g1 g2 g3 g4 => ?_
  have hkk := kk v h' g1 p l e R s m args below meth c D cI base b0 adK adV C1 S1 Z hcx hC hS1 (fun v h pc la H locs slots z1 z2 z3 => hfin v h pc la H locs slots z1 z2 (by omega)) la H1 locs1 (cells + kc1) (slots + ks1) g2 g3 g4 hL (by omega) (by omega)
  simp only [List.map_append] at hkk
  cases v <;> exact hkk
end ARC
