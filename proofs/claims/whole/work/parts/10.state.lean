/-! The blocks of the heap; rows of numbers. -/
def moSeg (o : Nat) (k : List Int) (f : List Int) (c : List Int) (n : List Int) (kp : List Int) (l : List Int) (nt : List Int) (w : List Int) (sh : List Int) (p : Int) (t : Int) (d : Int) (wa : Int) : List (Option aE) := [some (.inr (3, [some (.inr (o + 1)), some (.inr (o + 3)), some (.inr (o + 5)), some (.inr (o + 7)), some (.inr (o + 9)), some (.inr (o + 11)), some (.inr (o + 13)), some (.inr (o + 15)), some (.inr (o + 17)), some (.inl p), some (.inl t), some (.inl d), some (.inl wa)])), some (.inr (4, [some (.inr (o + 2))])), some (.inl k), some (.inr (4, [some (.inr (o + 4))])), some (.inl f), some (.inr (4, [some (.inr (o + 6))])), some (.inl c), some (.inr (4, [some (.inr (o + 8))])), some (.inl n), some (.inr (4, [some (.inr (o + 10))])), some (.inl kp), some (.inr (4, [some (.inr (o + 12))])), some (.inl l), some (.inr (4, [some (.inr (o + 14))])), some (.inl nt), some (.inr (4, [some (.inr (o + 16))])), some (.inl w), some (.inr (4, [some (.inr (o + 18))])), some (.inl sh)]
def mainSeg (imt : Int) (tc : Int) : List (Option aE) := [some (.inr (7, [some (.inr 32), some (.inr 64), some (.inr 96), some (.inr 97), some (.inr 103), some (.inr 110), some (.inr 128), some (.inl imt), some (.inr 160), some (.inl tc), some (.inr 162)]))]
def miscSeg (z : Int) (fs : List Int) (ss : List Int) (sp : List Int) (la : List Int) (gr : List Int) (tl : Int) (tp : List Int) : List (Option aE) := [some (.inr (0, [some (.inr 32), some (.inr 64)])), some (.inr (5, [some (.inr 32), some (.inr 64), some (.inr 98), some (.inr 99), some (.inr 101)])), some (.inr (1, [some (.inl z)])), some (.inr (4, [some (.inr 100)])), some (.inl fs), some (.inr (4, [some (.inr 102)])), some (.inl ss), some (.inr (2, [some (.inr 32), some (.inr 104), some (.inr 106), some (.inr 108)])), some (.inr (4, [some (.inr 105)])), some (.inl sp), some (.inr (4, [some (.inr 107)])), some (.inl la), some (.inr (4, [some (.inr 109)])), some (.inl gr), some (.inr (6, [some (.inr 111), some (.inl tl)])), some (.inr (4, [some (.inr 112)])), some (.inl tp)]
def auxSeg (to : List Int) (re : List Int) : List (Option aE) := [some (.inr (4, [some (.inr 161)])), some (.inl to), some (.inr (4, [some (.inr 163)])), some (.inl re)]
def modSeg (re : List Int) (k : List Int) (f : List Int) (c : List Int) (n : List Int) (kp : List Int) (l : List Int) (tp : List Int) (le : List Int) (la : List Int) (to : List Int) (kt : List Int) (sh : List Int) (so : List Int) (ha : List Int) (gr : List Int) (fi : List Int) (se : List Int) (ro : List Int) (p : Int) (t : Int) (d : Int) (tl : Int) (at_ : Int) (sn : Int) (hi : Int) (ik : Int) (cu : Int) (ou : Int) (st : Int) (rm : Int) : List (Option aE) := [some (.inr (8, [some (.inr 193), some (.inr 194), some (.inr 195), some (.inr 196), some (.inr 197), some (.inr 198), some (.inr 199), some (.inl p), some (.inl t), some (.inl d), some (.inr 200), some (.inr 201), some (.inr 202), some (.inr 203), some (.inl tl), some (.inl at_), some (.inl sn), some (.inr 204), some (.inl hi), some (.inl ik), some (.inl cu), some (.inl ou), some (.inr 205), some (.inr 206), some (.inl st), some (.inr 207), some (.inr 208), some (.inr 209), some (.inr 210), some (.inr 211), some (.inl rm)])), some (.inl re), some (.inl k), some (.inl f), some (.inl c), some (.inl n), some (.inl kp), some (.inl l), some (.inl tp), some (.inl le), some (.inl la), some (.inl to), some (.inl kt), some (.inl sh), some (.inl so), some (.inl ha), some (.inl gr), some (.inl fi), some (.inl se), some (.inl ro)]
section ASN
variable {M : aM} {d kc ks n : Nat} {sc : Option (Nat × (Nat → Int32))} {Q : Option aV → aH → Prop} {pc idx k ci j tyc : Nat} {fin : Bool} {ls : aLs} {st : List aV} {h : aH} {fs : List (Option aV)} {v : aV} {l : List Int}
theorem b_getf (hM : aOK M) (hf : aFetch (aMt M) pc = some (.getfield idx)) (hfl : aFld (aMf M) idx = some (ci, j, tyc, fin)) (hk : aGet h k = some (.inr (ci, fs))) (hj : fs[j]? = some (some v)) (kk : AW M d kc ks n sc Q (pc + 3, ls, v :: st, h)) : AW M d kc ks n sc Q (pc, ls, .inr k :: st, h) := by
  refine aOp_ok hM hf ?_ kk
  have : aGetF M h idx k = some v := by
    unfold aGetF
    rw [hfl, hk]
    simp only
    rw [show Nat.beq ci ci = true from Nat.beq_refl ci]
    simp only [cond_true]
    rw [hj]
  simp only [aOp, this, Option.map_some]
theorem b_alen (hM : aOK M) (hf : aFetch (aMt M) pc = some .arraylength) (hk : aGet h k = some (.inl l)) (kk : AW M d kc ks n sc Q (pc + 1, ls, .inl (l.length : Int) :: st, h)) : AW M d kc ks n sc Q (pc, ls, .inr k :: st, h) := by
  refine aOp_ok hM hf ?_ kk
  simp only [aOp, hk]
end ASN
section ANU
variable {n k a : Nat} {h : aH} {l : List Int}
/-- at(i): 0 outside -/
theorem c_at (hk : aGet h k = some (.inr (4, [some (.inr a)]))) (ha : aGet h a = some (.inl l)) (hl : l.length < 65536) {i : Nat} (hi : i < 65536) : aEx mX4_at 0 n [.inr k, .inl (i : Int)] h (some (.inl (l.getD i 0))) h := by
  refine aEv_of okX4_at caX4_at (Nat.le_of_ble_eq_true rfl) ?_
  refine aGo okX4_at 1 (f' := (1, [some (.inr k), some (.inl (i : Int))], [.inl (i : Int)], h)) rfl ?_
  refine b0_lt (tgt := 22) okX4_at rfl rfl ⟨by omega, by omega⟩ (fun h1 => absurd h1 (by omega)) (fun h1 => ?_)
  refine aGo okX4_at 2 (f' := (6, [some (.inr k), some (.inl (i : Int))], [.inr k, .inl (i : Int)], h)) rfl ?_
  refine b_getf okX4_at rfl rfl hk rfl ?_
  refine b_alen okX4_at rfl ha ?_
  refine b_ge (tgt := 22) okX4_at rfl rfl ⟨by omega, by omega⟩ ⟨by omega, by omega⟩ (fun h1 => ?_) (fun h1 => ?_)
  · refine aGo okX4_at 1 (f' := (23, [some (.inr k), some (.inl (i : Int))], [.inl 0], h)) rfl ?_
    refine b_ret (v := some (.inl 0)) ⟨rfl, Or.inl rfl⟩ ⟨?_, rfl⟩ rfl
    rw [List.getD_eq_getElem?_getD, List.getElem?_eq_none (by omega)]
    rfl
  · refine aGo okX4_at 1 (f' := (14, [some (.inr k), some (.inl (i : Int))], [.inr k], h)) rfl ?_
    refine b_getf okX4_at rfl rfl hk rfl ?_
    refine aGo okX4_at 1 (f' := (18, [some (.inr k), some (.inl (i : Int))], [.inl (i : Int), .inr a], h)) rfl ?_
    refine b_ald (j := i) okX4_at rfl ha rfl (by omega) (by omega) ?_
    refine aGo okX4_at 1 (f' := (23, [some (.inr k), some (.inl (i : Int))], [.inl (l.getD i 0)], h)) rfl ?_
    exact b_ret (v := some (.inl (l.getD i 0))) ⟨rfl, Or.inl rfl⟩ ⟨rfl, rfl⟩ rfl
/-- put(i, v) within -/
theorem c_put (hk : aGet h k = some (.inr (4, [some (.inr a)]))) (ha : aGet h a = some (.inl l)) (hl : l.length < 65536) {i : Nat} (hi : i < l.length) (v : Int) : aEx mX4_put 0 n [.inr k, .inl (i : Int), .inl v] h none (aSet h a (.inl (l.set i v))) := by
  refine aEv_of okX4_put caX4_put (Nat.le_of_ble_eq_true rfl) ?_
  refine aGo okX4_put 1 (f' := (1, [some (.inr k), some (.inl (i : Int)), some (.inl v)], [.inl (i : Int)], h)) rfl ?_
  refine b0_lt (tgt := 20) okX4_put rfl rfl ⟨by omega, by omega⟩ (fun h1 => absurd h1 (by omega)) (fun h1 => ?_)
  refine aGo okX4_put 2 (f' := (6, [some (.inr k), some (.inl (i : Int)), some (.inl v)], [.inr k, .inl (i : Int)], h)) rfl ?_
  refine b_getf okX4_put rfl rfl hk rfl ?_
  refine b_alen okX4_put rfl ha ?_
  refine b_ge (tgt := 20) okX4_put rfl rfl ⟨by omega, by omega⟩ ⟨by omega, by omega⟩ (fun h1 => absurd h1 (by omega)) (fun h1 => ?_)
  refine aGo okX4_put 1 (f' := (14, [some (.inr k), some (.inl (i : Int)), some (.inl v)], [.inr k], h)) rfl ?_
  refine b_getf okX4_put rfl rfl hk rfl ?_
  refine aGo okX4_put 2 (f' := (19, [some (.inr k), some (.inl (i : Int)), some (.inl v)], [.inl v, .inl (i : Int), .inr a], h)) rfl ?_
  refine b_ast (j := i) okX4_put rfl ha rfl (by omega) (by omega) ?_
  exact b_ret (v := none) ⟨rfl, rfl⟩ ⟨rfl, rfl⟩ rfl
theorem take_step {l m : List Int} (hlm : l.length = m.length) {i : Nat} (hi : i < l.length) : (m.take i ++ l.drop i).set i (m.getD i 0) = m.take (i + 1) ++ l.drop (i + 1) := by
  have hm : i < m.length := by omega
  have e1 : l.drop i = l[i] :: l.drop (i + 1) := (List.drop_eq_getElem_cons hi)
  have e2 : m.take (i + 1) = m.take i ++ [m[i]] := by rw [List.take_succ, List.getElem?_eq_getElem hm]; rfl
  have e3 : (m.take i).length = i := by rw [List.length_take]; omega
  rw [e1, e2, List.set_append, if_neg (by omega), e3, Nat.sub_self, List.set_cons_zero, List.append_assoc]
  simp [List.getD_eq_getElem?_getD, List.getElem?_eq_getElem hm]
/-- takeFrom: a row of the same length becomes the other's -/
theorem c_takeFrom {k2 a2 : Nat} {m : List Int} (f1 : ∀ b : aE, aGet (aSet h a b) k = aGet h k) (f2 : ∀ b : aE, aGet (aSet h a b) k2 = aGet h k2) (f3 : ∀ b : aE, aGet (aSet h a b) a2 = aGet h a2) (f4 : ∀ b : aE, aGet (aSet h a b) a = some b) (hss : ∀ b b' : aE, aSet (aSet h a b) a b' = aSet h a b') (hse : aSet h a (.inl l) = h) (hk : aGet h k = some (.inr (4, [some (.inr a)]))) (ha : aGet h a = some (.inl l)) (hk2 : aGet h k2 = some (.inr (4, [some (.inr a2)]))) (ha2 : aGet h a2 = some (.inl m)) (hlm : l.length = m.length) (hl : l.length < 65536) : aEx mX4_takeFrom 1 n [.inr k, .inr k2] h none (aSet h a (.inl m)) := by
  refine aEv_of okX4_takeFrom caX4_takeFrom (Nat.le_of_ble_eq_true rfl) ?_
  have loop : ∀ (j i : Nat), i + j = l.length → AW mX4_takeFrom 1 0 0 n none (aQx none (aSet h a (.inl m))) (2, [some (.inr k), some (.inr k2), some (.inl (i : Int))], [], aSet h a (.inl (m.take i ++ l.drop i))) := by
    intro j
    induction j with
    | zero =>
      intro i hi
      have e : m.take i ++ l.drop i = m := by rw [List.take_of_length_le (by omega), List.drop_of_length_le (by omega), List.append_nil]
      rw [e]
      refine aGo okX4_takeFrom 2 (f' := (4, [some (.inr k), some (.inr k2), some (.inl (i : Int))], [.inr k, .inl (i : Int)], _)) rfl ?_
      refine b_getf okX4_takeFrom rfl rfl ((f1 _).trans hk) rfl ?_
      refine b_alen okX4_takeFrom rfl (f4 _) ?_
      refine b_ge (tgt := 28) okX4_takeFrom rfl rfl ⟨by omega, by omega⟩ ⟨by omega, by omega⟩ (fun h1 => ?_) (fun h1 => absurd h1 (by omega))
      exact b_ret (v := none) ⟨rfl, rfl⟩ ⟨rfl, rfl⟩ rfl
    | succ j ih =>
      intro i hi
      have e3 : (m.take i ++ l.drop i).length = l.length := by rw [List.length_append, List.length_take, List.length_drop]; omega
      refine aGo okX4_takeFrom 2 (f' := (4, [some (.inr k), some (.inr k2), some (.inl (i : Int))], [.inr k, .inl (i : Int)], _)) rfl ?_
      refine b_getf okX4_takeFrom rfl rfl ((f1 _).trans hk) rfl ?_
      refine b_alen okX4_takeFrom rfl (f4 _) ?_
      refine b_ge (tgt := 28) okX4_takeFrom rfl rfl ⟨by omega, by omega⟩ ⟨by omega, by omega⟩ (fun h1 => absurd h1 (by omega)) (fun h1 => ?_)
      refine aGo okX4_takeFrom 1 (f' := (12, [some (.inr k), some (.inr k2), some (.inl (i : Int))], [.inr k], _)) rfl ?_
      refine b_getf okX4_takeFrom rfl rfl ((f1 _).trans hk) rfl ?_
      refine aGo okX4_takeFrom 3 (f' := (18, [some (.inr k), some (.inr k2), some (.inl (i : Int))], [.inl (i : Int), .inr k2, .inl (i : Int), .inr a], _)) rfl ?_
      refine b_vV (as := [.inl (i : Int)]) (rest := [.inl (i : Int), .inr a]) (k := k2) (.inl (m.getD i 0)) okX4_takeFrom rfl lkX4_19 caX4_at (Nat.le_of_ble_eq_true rfl) rfl (Nat.le_of_ble_eq_true rfl) ((f2 _).trans hk2) rfl rfl (c_at ((f2 _).trans hk2) ((f3 _).trans ha2) (by omega) (by omega)) ?_
      refine b_ast (j := i) okX4_takeFrom rfl (f4 _) rfl (by omega) (by omega) ?_
      rw [take_step hlm (by omega), hss]
      refine aGo okX4_takeFrom 2 (f' := (2, [some (.inr k), some (.inr k2), some (.inl ((i + 1 : Nat) : Int))], [], _)) rfl ?_
      exact ih (i + 1) (by omega)
  refine aGo okX4_takeFrom 2 (f' := (2, [some (.inr k), some (.inr k2), some (.inl ((0 : Nat) : Int))], [], h)) rfl ?_
  have l0 := loop l.length 0 (by omega)
  rw [List.take_zero, List.drop_zero, List.nil_append, hse] at l0
  exact l0
end ANU
