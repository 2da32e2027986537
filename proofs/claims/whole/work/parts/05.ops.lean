/-! Each step of a straight stretch. -/
section AOP
variable {p : Program} {l : Launch} {e : Env} {R : Room} {s : State} {m : MethodId} {args : Array Value} {below : List Frame} {meth : Method} {c : Code} {D : va_G} {cI : ClassId} {base b0 : Nat} {adK adV : Nat → Nat} {Z : State → Prop}
variable {M : aM} {d kc ks n : Nat} {sc : Option (Nat × (Nat → Int32))} {Q : Option aV → aH → Prop}
theorem a_getfield (hM : aOK M) {h : aH} {idx k : Nat} {v : aV} (hg : aGetF M h idx k = some v) (hcx : aCx M d sc base b0 adK adV D cI p R s m args meth c) {H : Heap} (hP : aP D cI (aAd base b0 adK) h H) {pc : Nat} (hd : decode (aMc M) pc = .ok (.getfield idx, 3)) {la : Array Slot} {rest : List Value} {locs : List Loc} {cells slots : Nat}
    (kk : W p l e R s m args below meth c H locs cells slots Z (F0 m (pc + 3) la (aC (aAd base b0 adK) v :: rest))) : W p l e R s m args below meth c H locs cells slots Z (F0 m pc la (.ref (aAd base b0 adK k) :: rest)) := by
  obtain ⟨hx, hb, hml, hr, hin, hown, hts, hlk, hiv, hrm, hba, hsc⟩ := id hcx
  unfold aGetF at hg
  cases hf : aFld (aMf M) idx with
  | none => rw [hf] at hg; cases hg
  | some f =>
    cases hk : aGet h k with
    | none => rw [hf, hk] at hg; cases hg
    | some ee =>
      cases ee with
      | inl a => rw [hf, hk] at hg; cases hg
      | inr o =>
        rw [hf, hk] at hg
        simp only at hg
        cases hbq : Nat.beq f.1 o.1 with
        | false => rw [hbq] at hg; cases hg
        | true =>
          rw [hbq] at hg
          have hco := Nat.eq_of_beq_eq_true hbq
          simp only [cond_true] at hg
          cases hq : o.2[f.2.1]? with
          | none => rw [hq] at hg; cases hg
          | some w =>
            cases w with
            | none => rw [hq] at hg; cases hg
            | some w =>
              rw [hq] at hg
              cases hg
              obtain ⟨C, T, N, ty, g1, g2, g3, g4, -⟩ := hM.2.1 _ (aFld_in hf)
              have hc := (aCls_at g1)
              refine va_get (D := D) (cl := aCls) (tys := [(cI, .int)]) (C := C) (T := T) (N := N) (ci := f.1) (Ts := aBW) (fs := o.2.map (aN (aAd base b0 adK))) hx hb hts hc.1 hown hiv.1 (aP_one hP hk) 0 ?_ g1 f.2.1 g2 (hts _ g3) (fun x hx => by rw [← g4]; exact hx) ?_ hd kk
              · rw [hco]; rfl
              · rw [List.getElem?_map, hq]; rfl
theorem aTy_narrow {t : Nat} {ty : FieldType} {v : aV} (ad : Nat → Nat) (ht : aTyc ty = t) (hv : aTyFit t v = true) : narrow ty (aC ad v) = aC ad v ∧ fits ty (aC ad v) = true := by
  subst ht
  cases ty with
  | int => cases v with
    | inl z => exact ⟨rfl, rfl⟩
    | inr z => simp [aTyc, aTyFit] at hv
  | boolean => cases v with
    | inl z =>
      simp only [aTyc, aTyFit, Bool.or_eq_true, decide_eq_true_eq] at hv
      rcases hv with rfl | rfl
      · exact ⟨(by decide : narrow .boolean (.int (Int32.ofInt 0)) = .int (Int32.ofInt 0)), (by decide : fits .boolean (.int (Int32.ofInt 0)) = true)⟩
      · exact ⟨(by decide : narrow .boolean (.int (Int32.ofInt 1)) = .int (Int32.ofInt 1)), (by decide : fits .boolean (.int (Int32.ofInt 1)) = true)⟩
    | inr z => simp [aTyc, aTyFit] at hv
  | object q => cases v with
    | inl z => simp [aTyc, aTyFit] at hv
    | inr z => exact ⟨rfl, rfl⟩
  | array q => cases v with
    | inl z => simp [aTyc, aTyFit] at hv
    | inr z => exact ⟨rfl, rfl⟩
  | _ => simp [aTyc, aTyFit] at hv
theorem a_putfield (hM : aOK M) {h h' : aH} {idx k : Nat} {v : aV} (hg : aPutF M h idx k v = some h') (hcx : aCx M d sc base b0 adK adV D cI p R s m args meth c) {H : Heap} (hP : aP D cI (aAd base b0 adK) h H) {pc : Nat} (hd : decode (aMc M) pc = .ok (.putfield idx, 3)) {la : Array Slot} {rest : List Value} {locs : List Loc} {cells slots : Nat} (hS : va_S (fun q => base ≤ q) s.heap H locs)
    (kk : ∀ (H1 : Heap) (locs1 : List Loc), aP D cI (aAd base b0 adK) h' H1 → H1.size = H.size → va_S (fun q => base ≤ q) s.heap H1 locs1 → W p l e R s m args below meth c H1 locs1 cells slots Z (F0 m (pc + 3) la rest)) : W p l e R s m args below meth c H locs cells slots Z (F0 m pc la (aC (aAd base b0 adK) v :: .ref (aAd base b0 adK k) :: rest)) := by
  obtain ⟨hx, hb, hml, hr, hin, hown, hts, hlk, hiv, hrm, hba, hsc⟩ := id hcx
  unfold aPutF at hg
  cases hf : aFld (aMf M) idx with
  | none => rw [hf] at hg; cases hg
  | some f =>
    cases hk : aGet h k with
    | none => rw [hf, hk] at hg; cases hg
    | some ee =>
      cases ee with
      | inl a => rw [hf, hk] at hg; cases hg
      | inr o =>
        rw [hf, hk] at hg
        simp only at hg
        cases hbq : (Nat.beq f.1 o.1 && Nat.blt f.2.1 o.2.length && aTyFit f.2.2.1 v && (!f.2.2.2 || decide ((aMy M).name = "<init>"))) with
        | false => rw [hbq] at hg; cases hg
        | true =>
          rw [hbq] at hg
          cases hg
          simp only [Bool.and_eq_true, Bool.or_eq_true, Bool.not_eq_true', decide_eq_true_eq] at hbq
          obtain ⟨⟨⟨q1, q2⟩, q3⟩, q4⟩ := hbq
          have hco := Nat.eq_of_beq_eq_true q1
          have hlt : f.2.1 < o.2.length := Nat.le_of_ble_eq_true q2
          obtain ⟨C, T, N, ty, g1, g2, g3, g4, g5, g6, g7, g8⟩ := hM.2.1 _ (aFld_in hf)
          simp only at g1 g2 g3 g4 g5 g6 g7 g8
          obtain ⟨c1, ⟨tyF, c2, -⟩, c3, -⟩ := aCls_at g1
          simp only at c1 c2 c3
          obtain ⟨hn, hfit⟩ := aTy_narrow (aAd base b0 adK) g7 q3
          have hfk := aGet_fits hP.1 hk
          have hba' : base ≤ aAd base b0 adK k := by rw [aAd_fits hfk]; omega
          have hap := va_apart (own := C) hts c1 tyF c2 c3 hiv.1 g1
          have hat := hP.2 k _ hk
          obtain ⟨r, h1, cell, e1, e2, e3, e4⟩ := hat
          rw [hco] at g1 hap
          have hr' : r = (C, T, N) := Option.some.inj (h1.symm.trans g1)
          subst hr'
          obtain ⟨hSl, hfc, kC, hkC, hkind⟩ := hiv.1.1 o.1 _ g1
          obtain ⟨cf, kf, fi, fd, hi, hsl⟩ := hSl f.2.1 g2
          have hlay := hts _ (c1 _ (u_in_lay g2))
          have hst := (u_facts hfc hkC (u_lays hts c1 g2) hi).1
          have hput : ∀ H1 : Heap, H1[aAd base b0 adK k]? = some (cell.setSlot fd.slot (aC (aAd base b0 adK) v)) → (∀ q : Nat, q ≠ aAd base b0 adK k → H1[q]? = H[q]?) → aP D cI (aAd base b0 adK) (aSet h k (.inr (o.1, o.2.set f.2.1 (some v)))) H1 := by
            intro H1 z1 z2
            refine aP_set hP hfk ?_ z2
            refine ⟨_, g1, t_OB.to (V := updV (vp_V (o.2.map (aN (aAd base b0 adK)))) f.2.1 (aC (aAd base b0 adK) v)) ⟨_, z1, e2, e3, ?_⟩ (fun j _ => ?_)⟩
            · rw [hsl]; exact t_set e4 hap g2 _
            · have hl2 : f.2.1 < (o.2.map (aN (aAd base b0 adK))).length := by rw [List.length_map]; exact hlt
              rw [vp_updV_set hl2]
              show vp_V _ j = vp_V _ j
              rw [List.map_set]
              rfl
          have hsame : s.fieldFound? C (T f.2.1).2.1 (T f.2.1).2.2.1 = some (cf, kf, fi, fd) := by rw [← hi, g4]
          cases hfin : f.2.2.2 with
          | false =>
            rw [hfin] at g5
            unfold u_lay at hlay
            rw [if_neg (by rw [g5]; decide)] at hlay
            have h6 := u_store hfc hkC hkind hlay hi g6 hn hfit
            refine W.putK hx hb (f := fd) ⟨hown, hts _ g3, ⟨_, _, _, hsame⟩, hst⟩ (by rw [e2]; exact h6) e1 e3 (by rw [hsl]; exact k2_hasslot (e4 f.2.1 g2)) rfl rfl hd fun H1 z1 z2 z3 => ?_
            exact kk H1 _ (hput H1 z1 z3) z2 (hS.put z2 z3 hba')
          | true =>
            rw [hfin] at g5 g8 q4
            unfold u_lay at hlay
            rw [if_pos g5] at hlay
            have hcf : m.cls = cf := by
              obtain ⟨_, _, c', _, _, _, -, -, hf', -, -, -, hown2, -⟩ := Cond.laysFinal_spec hlay
              have z1 : c' = cf := by have := hi.symm.trans hf'; simp at this; exact this.1.symm
              rw [g4, g8 rfl] at hown2
              rw [← z1]; exact Option.some.inj (hown.symm.trans hown2)
            have h6 := u_fits hfc hkC hkind (Or.inr hlay) hi g6 hn hfit
            have hin2 : meth.name = "<init>" := by
              rcases q4 with z | z
              · cases z
              · exact hin z
            refine W.putFinK hx hb hown (hts _ g3) hsame hst hcf hin2 (by rw [e2]; exact h6) e1 e3 (by rw [hsl]; exact k2_hasslot (e4 f.2.1 g2)) rfl rfl hd fun H1 z1 z2 z3 => ?_
            exact kk H1 _ (hput H1 z1 z3) z2 (hS.put z2 z3 hba')
theorem aBlt {a b : Nat} {α : Type} {x y : α} (h : (bif Nat.blt a b then some x else none) = some y) : a < b ∧ x = y := by
  cases hb : Nat.blt a b with
  | true => rw [hb] at h; exact ⟨Nat.le_of_ble_eq_true hb, Option.some.inj h⟩
  | false => rw [hb] at h; cases h
set_option maxHeartbeats 4000000 in
theorem aOp_ok (hM : aOK M) {i : Instr} {pc : Nat} {ls : aLs} {st : List aV} {h : aH} {f' : aF} (hf : aFetch (aMt M) pc = some i) (ho : aOp M i pc ls st h = some f') (k : AW M d kc ks n sc Q f') : AW M d kc ks n sc Q (pc, ls, st, h) := by
  intro p l e R s m args below meth c D cI base b0 adK adV C1 S1 Z hcx hC hS1 hfin la H locs cells slots hP hz hS hL hcs hss
  obtain ⟨hx, hb, hml, hr, hin, hown, hts, hlk, hiv, hrm, hba, hsc⟩ := id hcx
  have kk := k p l e R s m args below meth c D cI base b0 adK adV C1 S1 Z hcx hC hS1 hfin
  clear k
  simp only at hP hL
  cases i with
  | iconst z =>
    cases ho
    exact lv_iconst hx hb (aDec1 hM hf rfl rfl) rfl (kk la H locs cells slots hP hz hS hL hcs hss)
  | bipush z =>
    cases ho
    exact lv_bipush hx hb (aDec1 hM hf rfl rfl) (i32_byte (aDec_of hM hf).choose_spec.2.2) (kk la H locs cells slots hP hz hS hL hcs hss)
  | sipush z =>
    cases ho
    exact lv_sipush hx hb (aDec1 hM hf rfl rfl) (i32_short (aDec_of hM hf).choose_spec.2.2) (kk la H locs cells slots hP hz hS hL hcs hss)
  | ldc q =>
    obtain ⟨z, hz1, hz2⟩ := Option.map_eq_some_iff.mp ho
    cases hz2
    exact lv_ldc hx hb hown (hts _ (hM.2.2.1 _ (aKst_in hz1))) (aDec1 hM hf rfl rfl) (kk la H locs cells slots hP hz hS hL hcs hss)
  | ldc_w q =>
    obtain ⟨z, hz1, hz2⟩ := Option.map_eq_some_iff.mp ho
    cases hz2
    exact lv_ldcw hx hb hown (hts _ (hM.2.2.1 _ (aKst_in hz1))) (aDec1 hM hf rfl rfl) (kk la H locs cells slots hP hz hS hL hcs hss)
  | iload q =>
    cases hq : aLoc ls q with
    | none => simp [aOp, hq] at ho
    | some v => cases v with
      | inr z => simp [aOp, hq] at ho
      | inl z =>
        simp only [aOp, hq] at ho
        cases ho
        exact lv_iload hx hb (aDec1 hM hf rfl rfl) (aL_at hL hq) (kk la H locs cells slots hP hz hS hL hcs hss)
  | iload_n q =>
    cases hq : aLoc ls q.val with
    | none => simp [aOp, hq] at ho
    | some v => cases v with
      | inr z => simp [aOp, hq] at ho
      | inl z =>
        simp only [aOp, hq] at ho
        cases ho
        exact lv_iload_n hx hb (aDec1 hM hf rfl rfl) rfl (aL_at hL hq) (kk la H locs cells slots hP hz hS hL hcs hss)
  | aload q =>
    cases hq : aLoc ls q with
    | none => simp [aOp, hq] at ho
    | some v => cases v with
      | inl z => simp [aOp, hq] at ho
      | inr z =>
        simp only [aOp, hq] at ho
        cases ho
        exact lv_aload hx hb (aDec1 hM hf rfl rfl) (aL_at hL hq) (kk la H locs cells slots hP hz hS hL hcs hss)
  | aload_n q =>
    cases hq : aLoc ls q.val with
    | none => simp [aOp, hq] at ho
    | some v => cases v with
      | inl z => simp [aOp, hq] at ho
      | inr z =>
        simp only [aOp, hq] at ho
        cases ho
        exact lv_aload_n hx hb (aDec1 hM hf rfl rfl) rfl (aL_at hL hq) (kk la H locs cells slots hP hz hS hL hcs hss)
  | istore q =>
    cases st with
    | nil => simp [aOp] at ho
    | cons v st => cases v with
      | inr z => simp [aOp] at ho
      | inl z =>
        obtain ⟨g1, g2⟩ := aBlt ho
        cases g2
        exact lv_istore hx hb (aDec1 hM hf rfl rfl) hL g1 rfl (fun la' hl => kk la' H locs cells slots hP hz hS (aL_set hl) hcs hss)
  | istore_n q =>
    cases st with
    | nil => simp [aOp] at ho
    | cons v st => cases v with
      | inr z => simp [aOp] at ho
      | inl z =>
        obtain ⟨g1, g2⟩ := aBlt ho
        cases g2
        exact lv_istore_n hx hb (aDec1 hM hf rfl rfl) rfl hL g1 rfl (fun la' hl => kk la' H locs cells slots hP hz hS (aL_set hl) hcs hss)
  | astore q =>
    cases st with
    | nil => simp [aOp] at ho
    | cons v st => cases v with
      | inl z => simp [aOp] at ho
      | inr z =>
        obtain ⟨g1, g2⟩ := aBlt ho
        cases g2
        exact lv_astore hx hb (aDec1 hM hf rfl rfl) hL g1 rfl (fun la' hl => kk la' H locs cells slots hP hz hS (aL_set hl) hcs hss)
  | astore_n q =>
    cases st with
    | nil => simp [aOp] at ho
    | cons v st => cases v with
      | inl z => simp [aOp] at ho
      | inr z =>
        obtain ⟨g1, g2⟩ := aBlt ho
        cases g2
        exact lv_astore_n hx hb (aDec1 hM hf rfl rfl) rfl hL g1 rfl (fun la' hl => kk la' H locs cells slots hP hz hS (aL_set hl) hcs hss)
  | iinc q z =>
    cases hq : aLoc ls q with
    | none => simp [aOp, hq] at ho
    | some v => cases v with
      | inr z => simp [aOp, hq] at ho
      | inl x =>
        simp only [aOp, hq] at ho
        obtain ⟨g1, g2⟩ := aBlt ho
        cases g2
        have hm : (q, Value.int (Int32.ofInt x)) ∈ aAss (aAd base b0 adK) ls := aAss_in.mpr ⟨.inl x, by
          unfold aLoc at hq
          cases hl : ls[q]? with
          | none => rw [hl] at hq; cases hq
          | some o => cases o with
            | none => rw [hl] at hq; cases hq
            | some w => rw [hl] at hq; cases hq; rfl, rfl⟩
        obtain ⟨j, hj⟩ := List.getElem?_of_mem hm
        exact lv_iinc hx hb (aDec1 hM hf rfl rfl) hL hj (i32_add x z) g1 rfl (fun la' hl => kk la' H locs cells slots hP hz hS (aL_set (v := .inl (x + z)) hl) hcs hss)
  | iadd =>
    match st, ho with
    | .inl y :: .inl x :: st, ho =>
      cases ho
      refine lv_iadd hx hb (aDec1 hM hf rfl rfl) ?_
      rw [i32_add]
      exact kk la H locs cells slots hP hz hS hL hcs hss
  | isub =>
    match st, ho with
    | .inl y :: .inl x :: st, ho =>
      cases ho
      refine lv_isub hx hb (aDec1 hM hf rfl rfl) ?_
      rw [i32_sub]
      exact kk la H locs cells slots hP hz hS hL hcs hss
  | imul =>
    match st, ho with
    | .inl y :: .inl x :: st, ho =>
      cases ho
      refine lv_imul hx hb (aDec1 hM hf rfl rfl) ?_
      rw [i32_mul]
      exact kk la H locs cells slots hP hz hS hL hcs hss
  | ineg =>
    match st, ho with
    | .inl x :: st, ho =>
      cases ho
      refine lv_ineg hx hb (aDec1 hM hf rfl rfl) ?_
      rw [i32_neg]
      exact kk la H locs cells slots hP hz hS hL hcs hss
  | iand =>
    match st, ho with
    | .inl y :: .inl x :: st, ho =>
      cases ho
      refine lv_iand hx hb (aDec1 hM hf rfl rfl) ?_
      rw [i32_op (fun x y => x &&& y)]
      exact kk la H locs cells slots hP hz hS hL hcs hss
  | ior =>
    match st, ho with
    | .inl y :: .inl x :: st, ho =>
      cases ho
      refine lv_ior hx hb (aDec1 hM hf rfl rfl) ?_
      rw [i32_op (fun x y => x ||| y)]
      exact kk la H locs cells slots hP hz hS hL hcs hss
  | ixor =>
    match st, ho with
    | .inl y :: .inl x :: st, ho =>
      cases ho
      refine lv_ixor hx hb (aDec1 hM hf rfl rfl) ?_
      rw [i32_op (fun x y => x ^^^ y)]
      exact kk la H locs cells slots hP hz hS hL hcs hss
  | ishl =>
    match st, ho with
    | .inl y :: .inl x :: st, ho =>
      cases ho
      refine lv_ishl hx hb (aDec1 hM hf rfl rfl) ?_
      rw [i32_op (fun x y => x <<< (y &&& 31))]
      exact kk la H locs cells slots hP hz hS hL hcs hss
  | ishr =>
    match st, ho with
    | .inl y :: .inl x :: st, ho =>
      cases ho
      refine lv_ishr hx hb (aDec1 hM hf rfl rfl) ?_
      rw [i32_op (fun x y => x >>> (y &&& 31))]
      exact kk la H locs cells slots hP hz hS hL hcs hss
  | iushr =>
    match st, ho with
    | .inl y :: .inl x :: st, ho =>
      cases ho
      exact lv_iushr hx hb (aDec1 hM hf rfl rfl) (i32_op (fun x y => (x.toUInt32 >>> (y.toUInt32 &&& Int32.toUInt32 31)).toInt32) x y) (kk la H locs cells slots hP hz hS hL hcs hss)
  | dup =>
    match st, ho with
    | x :: st, ho =>
      cases ho
      exact lv_dup hx hb (aDec1 hM hf rfl rfl) (aC_cat _ x) (kk la H locs cells slots hP hz hS hL hcs hss)
  | dup2 =>
    match st, ho with
    | x :: y :: st, ho =>
      cases ho
      exact lv_dup2_11 hx hb (aDec1 hM hf rfl rfl) (aC_cat _ x) (aC_cat _ y) (kk la H locs cells slots hP hz hS hL hcs hss)
  | pop =>
    match st, ho with
    | x :: st, ho =>
      cases ho
      exact lv_pop hx hb (aDec1 hM hf rfl rfl) (aC_cat _ x) (kk la H locs cells slots hP hz hS hL hcs hss)
  | goto off =>
    simp only [aOp] at ho
    cases hq : decide (0 ≤ (pc : Int) + off) with
    | false => rw [hq] at ho; cases ho
    | true =>
      rw [hq] at ho
      cases ho
      have hq := of_decide_eq_true hq
      exact lv_goto (tgt := aJmp pc off) hx hb (aDec1 hM hf rfl rfl) (by unfold aJmp; omega) (kk la H locs cells slots hP hz hS hL hcs hss)
  | getfield idx =>
    match st, ho with
    | .inr q :: st, ho =>
      obtain ⟨v, hv1, hv2⟩ := Option.map_eq_some_iff.mp ho
      cases hv2
      exact a_getfield hM hv1 hcx hP (aDec1 hM hf rfl rfl) (kk la H locs cells slots hP hz hS hL hcs hss)
  | putfield idx =>
    match st, ho with
    | v :: .inr q :: st, ho =>
      obtain ⟨h', hv1, hv2⟩ := Option.map_eq_some_iff.mp ho
      cases hv2
      exact a_putfield hM hv1 hcx hP (aDec1 hM hf rfl rfl) hS (fun H1 locs1 g1 g2 g3 => kk la H1 locs1 cells slots g1 (g2.trans hz) g3 hL hcs hss)
  | arraylength =>
    match st, ho with
    | .inr q :: st, ho =>
      simp only [aOp] at ho
      cases hq : aGet h q with
      | none => rw [hq] at ho; cases ho
      | some ee => cases ee with
        | inr o => rw [hq] at ho; cases ho
        | inl a =>
          rw [hq] at ho
          cases ho
          exact va_alen (D := D) (cl := aCls) (tys := [(cI, .int)]) (v := Int32.ofInt (a.length : Int)) hx hb hiv.1 (aP_one hP hq) 0 0 rfl rfl rfl (aDec1 hM hf rfl rfl) (kk la H locs cells slots hP hz hS hL hcs hss)
  | _ => simp [aOp] at ho
end AOP
theorem aStep_ok {M : aM} {d kc ks n : Nat} {sc : Option (Nat × (Nat → Int32))} {Q : Option aV → aH → Prop} (hM : aOK M) {f f' : aF} (h : aStep M f = some f') (k : AW M d kc ks n sc Q f') : AW M d kc ks n sc Q f := by
  obtain ⟨pc, ls, st, hh⟩ := f
  unfold aStep at h
  cases hf : aFetch (aMt M) pc with
  | none => simp only [hf] at h; cases h
  | some i =>
    simp only [hf] at h
    exact aOp_ok hM hf h k
/-- a straight stretch of N instructions -/
theorem aGo {M : aM} {d kc ks n : Nat} {sc : Option (Nat × (Nat → Int32))} {Q : Option aV → aH → Prop} (hM : aOK M) (N : Nat) {f f' : aF} (h : aRun M N f = some f') (k : AW M d kc ks n sc Q f') : AW M d kc ks n sc Q f := by
  induction N generalizing f with
  | zero => cases h; exact k
  | succ N ih =>
    unfold aRun at h
    cases hs : aStep M f with
    | none => rw [hs] at h; cases h
    | some g => rw [hs] at h; exact aStep_ok hM hs (ih h)
