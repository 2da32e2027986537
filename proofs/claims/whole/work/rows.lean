section
-- ===== PART A: goes FIRST, ahead of the names: the tables' words, and 'selects' of the private methods out of them =====
/-- a private method of a class that the tables say can be made, by its rows of tables_1 -/
def lw_okq (q : MethodName × Nat) : Prop := (q.1.cls ≠ "java/lang/invoke/MethodHandle" ∧ q.1.cls ≠ "java/lang/invoke/VarHandle") ∧ Cond.instantiable q.1.cls q.2 ∈ tables_1 ∧ Cond.privateMethod q.1 ∈ tables_1 ∧ Cond.instanceMethod q.1 ∈ tables_1
theorem lw_p0 : lw_okq (⟨"AloneIsAQuantity", "refuse", "(I)I"⟩, 11) := ⟨⟨by decide +kernel, by decide +kernel⟩, List.mem_of_getElem? (i := 17) (by decide +kernel), List.mem_of_getElem? (i := 208) (by decide +kernel), List.mem_of_getElem? (i := 209) (by decide +kernel)⟩
theorem lw_p1 : lw_okq (⟨"AloneIsAQuantity$Text", "firstWrongLetter", "()I"⟩, 2) := ⟨⟨by decide +kernel, by decide +kernel⟩, List.mem_of_getElem? (i := 153) (by decide +kernel), List.mem_of_getElem? (i := 246) (by decide +kernel), List.mem_of_getElem? (i := 247) (by decide +kernel)⟩
theorem lw_p2 : lw_okq (⟨"AloneIsAQuantity$Text", "formAt", "(I)Ljava/lang/String;"⟩, 2) := ⟨⟨by decide +kernel, by decide +kernel⟩, List.mem_of_getElem? (i := 153) (by decide +kernel), List.mem_of_getElem? (i := 250) (by decide +kernel), List.mem_of_getElem? (i := 251) (by decide +kernel)⟩
theorem lw_p3 : lw_okq (⟨"AloneIsAQuantity$Text", "fits", "(II)Z"⟩, 2) := ⟨⟨by decide +kernel, by decide +kernel⟩, List.mem_of_getElem? (i := 153) (by decide +kernel), List.mem_of_getElem? (i := 314) (by decide +kernel), List.mem_of_getElem? (i := 315) (by decide +kernel)⟩
theorem lw_p4 : lw_okq (⟨"AloneIsAQuantity$Text", "kindOf", "(I)I"⟩, 2) := ⟨⟨by decide +kernel, by decide +kernel⟩, List.mem_of_getElem? (i := 153) (by decide +kernel), List.mem_of_getElem? (i := 318) (by decide +kernel), List.mem_of_getElem? (i := 319) (by decide +kernel)⟩
theorem lw_p5 : lw_okq (⟨"AloneIsAQuantity$Text", "sayTo", "(LAloneIsAQuantity$Moor;I)Z"⟩, 2) := ⟨⟨by decide +kernel, by decide +kernel⟩, List.mem_of_getElem? (i := 153) (by decide +kernel), List.mem_of_getElem? (i := 323) (by decide +kernel), List.mem_of_getElem? (i := 324) (by decide +kernel)⟩
theorem lw_p6 : lw_okq (⟨"AloneIsAQuantity$Text", "number", "(II)I"⟩, 2) := ⟨⟨by decide +kernel, by decide +kernel⟩, List.mem_of_getElem? (i := 153) (by decide +kernel), List.mem_of_getElem? (i := 327) (by decide +kernel), List.mem_of_getElem? (i := 328) (by decide +kernel)⟩
theorem lw_p7 : lw_okq (⟨"AloneIsAQuantity$Moor", "putLent", "(III)V"⟩, 13) := ⟨⟨by decide +kernel, by decide +kernel⟩, List.mem_of_getElem? (i := 25) (by decide +kernel), List.mem_of_getElem? (i := 343) (by decide +kernel), List.mem_of_getElem? (i := 344) (by decide +kernel)⟩
theorem lw_p8 : lw_okq (⟨"AloneIsAQuantity$Moor", "netLoans", "()V"⟩, 13) := ⟨⟨by decide +kernel, by decide +kernel⟩, List.mem_of_getElem? (i := 25) (by decide +kernel), List.mem_of_getElem? (i := 347) (by decide +kernel), List.mem_of_getElem? (i := 348) (by decide +kernel)⟩
theorem lw_p9 : lw_okq (⟨"AloneIsAQuantity$Moor", "weigh", "()V"⟩, 13) := ⟨⟨by decide +kernel, by decide +kernel⟩, List.mem_of_getElem? (i := 25) (by decide +kernel), List.mem_of_getElem? (i := 356) (by decide +kernel), List.mem_of_getElem? (i := 357) (by decide +kernel)⟩
theorem lw_p10 : lw_okq (⟨"AloneIsAQuantity$Moor", "weightNow", "(I)I"⟩, 13) := ⟨⟨by decide +kernel, by decide +kernel⟩, List.mem_of_getElem? (i := 25) (by decide +kernel), List.mem_of_getElem? (i := 360) (by decide +kernel), List.mem_of_getElem? (i := 361) (by decide +kernel)⟩
theorem lw_p11 : lw_okq (⟨"AloneIsAQuantity$Moor", "shareOut", "()V"⟩, 13) := ⟨⟨by decide +kernel, by decide +kernel⟩, List.mem_of_getElem? (i := 25) (by decide +kernel), List.mem_of_getElem? (i := 374) (by decide +kernel), List.mem_of_getElem? (i := 375) (by decide +kernel)⟩
theorem lw_p12 : lw_okq (⟨"AloneIsAQuantity", "refuseFar", "(I)I"⟩, 11) := ⟨⟨by decide +kernel, by decide +kernel⟩, List.mem_of_getElem? (i := 17) (by decide +kernel), List.mem_of_getElem? (i := 458) (by decide +kernel), List.mem_of_getElem? (i := 459) (by decide +kernel)⟩
theorem lw_p13 : lw_okq (⟨"AloneIsAQuantity$OtherMoors", "leastShareBeside", "(I)I"⟩, 5) := ⟨⟨by decide +kernel, by decide +kernel⟩, List.mem_of_getElem? (i := 98) (by decide +kernel), List.mem_of_getElem? (i := 570) (by decide +kernel), List.mem_of_getElem? (i := 571) (by decide +kernel)⟩
theorem lw_p14 : lw_okq (⟨"AloneIsAQuantity$OtherMoors", "numberWithout", "(II)I"⟩, 5) := ⟨⟨by decide +kernel, by decide +kernel⟩, List.mem_of_getElem? (i := 98) (by decide +kernel), List.mem_of_getElem? (i := 588) (by decide +kernel), List.mem_of_getElem? (i := 589) (by decide +kernel)⟩
theorem lw_p15 : lw_okq (⟨"AloneIsAQuantity$Lending", "cutBy", "(II)I"⟩, 4) := ⟨⟨by decide +kernel, by decide +kernel⟩, List.mem_of_getElem? (i := 132) (by decide +kernel), List.mem_of_getElem? (i := 652) (by decide +kernel), List.mem_of_getElem? (i := 653) (by decide +kernel)⟩
def lw_privs_1 : List (MethodName × Nat) := [(⟨"AloneIsAQuantity", "refuse", "(I)I"⟩, 11), (⟨"AloneIsAQuantity$Text", "firstWrongLetter", "()I"⟩, 2), (⟨"AloneIsAQuantity$Text", "formAt", "(I)Ljava/lang/String;"⟩, 2), (⟨"AloneIsAQuantity$Text", "fits", "(II)Z"⟩, 2), (⟨"AloneIsAQuantity$Text", "kindOf", "(I)I"⟩, 2), (⟨"AloneIsAQuantity$Text", "sayTo", "(LAloneIsAQuantity$Moor;I)Z"⟩, 2), (⟨"AloneIsAQuantity$Text", "number", "(II)I"⟩, 2), (⟨"AloneIsAQuantity$Moor", "putLent", "(III)V"⟩, 13), (⟨"AloneIsAQuantity$Moor", "netLoans", "()V"⟩, 13), (⟨"AloneIsAQuantity$Moor", "weigh", "()V"⟩, 13), (⟨"AloneIsAQuantity$Moor", "weightNow", "(I)I"⟩, 13), (⟨"AloneIsAQuantity$Moor", "shareOut", "()V"⟩, 13), (⟨"AloneIsAQuantity", "refuseFar", "(I)I"⟩, 11), (⟨"AloneIsAQuantity$OtherMoors", "leastShareBeside", "(I)I"⟩, 5), (⟨"AloneIsAQuantity$OtherMoors", "numberWithout", "(II)I"⟩, 5), (⟨"AloneIsAQuantity$Lending", "cutBy", "(II)I"⟩, 4)]
theorem lw_r1 : ∀ q ∈ lw_privs_1, lw_okq q := List.forall_mem_cons.mpr ⟨lw_p0, List.forall_mem_cons.mpr ⟨lw_p1, List.forall_mem_cons.mpr ⟨lw_p2, List.forall_mem_cons.mpr ⟨lw_p3, List.forall_mem_cons.mpr ⟨lw_p4, List.forall_mem_cons.mpr ⟨lw_p5, List.forall_mem_cons.mpr ⟨lw_p6, List.forall_mem_cons.mpr ⟨lw_p7, List.forall_mem_cons.mpr ⟨lw_p8, List.forall_mem_cons.mpr ⟨lw_p9, List.forall_mem_cons.mpr ⟨lw_p10, List.forall_mem_cons.mpr ⟨lw_p11, List.forall_mem_cons.mpr ⟨lw_p12, List.forall_mem_cons.mpr ⟨lw_p13, List.forall_mem_cons.mpr ⟨lw_p14, List.forall_mem_cons.mpr ⟨lw_p15, fun _ h => absurd h List.not_mem_nil⟩⟩⟩⟩⟩⟩⟩⟩⟩⟩⟩⟩⟩⟩⟩⟩
theorem lw_p16 : lw_okq (⟨"AloneIsAQuantity$Lending", "isNearGiverBeside", "(III)Z"⟩, 4) := ⟨⟨by decide +kernel, by decide +kernel⟩, List.mem_of_getElem? (i := 132) (by decide +kernel), List.mem_of_getElem? (i := 657) (by decide +kernel), List.mem_of_getElem? (i := 658) (by decide +kernel)⟩
theorem lw_p17 : lw_okq (⟨"AloneIsAQuantity$OtherMoors", "weighChoices", "(II)V"⟩, 5) := ⟨⟨by decide +kernel, by decide +kernel⟩, List.mem_of_getElem? (i := 98) (by decide +kernel), List.mem_of_getElem? (i := 722) (by decide +kernel), List.mem_of_getElem? (i := 723) (by decide +kernel)⟩
theorem lw_p18 : lw_okq (⟨"AloneIsAQuantity$OtherMoors", "chosenCell", "(II)I"⟩, 5) := ⟨⟨by decide +kernel, by decide +kernel⟩, List.mem_of_getElem? (i := 98) (by decide +kernel), List.mem_of_getElem? (i := 726) (by decide +kernel), List.mem_of_getElem? (i := 727) (by decide +kernel)⟩
theorem lw_p19 : lw_okq (⟨"AloneIsAQuantity$OtherMoors", "isSteady", "(II)Z"⟩, 5) := ⟨⟨by decide +kernel, by decide +kernel⟩, List.mem_of_getElem? (i := 98) (by decide +kernel), List.mem_of_getElem? (i := 731) (by decide +kernel), List.mem_of_getElem? (i := 732) (by decide +kernel)⟩
theorem lw_p20 : lw_okq (⟨"AloneIsAQuantity$OtherMoors", "sharesAreTold", "(LAloneIsAQuantity$Numbers;)Z"⟩, 5) := ⟨⟨by decide +kernel, by decide +kernel⟩, List.mem_of_getElem? (i := 98) (by decide +kernel), List.mem_of_getElem? (i := 788) (by decide +kernel), List.mem_of_getElem? (i := 789) (by decide +kernel)⟩
theorem lw_p21 : lw_okq (⟨"AloneIsAQuantity$OtherMoors", "placeAllByLot", "()V"⟩, 5) := ⟨⟨by decide +kernel, by decide +kernel⟩, List.mem_of_getElem? (i := 98) (by decide +kernel), List.mem_of_getElem? (i := 830) (by decide +kernel), List.mem_of_getElem? (i := 831) (by decide +kernel)⟩
theorem lw_p22 : lw_okq (⟨"AloneIsAQuantity$Moor", "allOf", "(LAloneIsAQuantity$Numbers;)I"⟩, 13) := ⟨⟨by decide +kernel, by decide +kernel⟩, List.mem_of_getElem? (i := 25) (by decide +kernel), List.mem_of_getElem? (i := 865) (by decide +kernel), List.mem_of_getElem? (i := 866) (by decide +kernel)⟩
theorem lw_p23 : lw_okq (⟨"AloneIsAQuantityModel", "no", "(I)I"⟩, 31) := ⟨⟨by decide +kernel, by decide +kernel⟩, List.mem_of_getElem? (i := 877) (by decide +kernel), List.mem_of_getElem? (i := 984) (by decide +kernel), List.mem_of_getElem? (i := 985) (by decide +kernel)⟩
theorem lw_p24 : lw_okq (⟨"AloneIsAQuantityModel", "statement", "()Z"⟩, 31) := ⟨⟨by decide +kernel, by decide +kernel⟩, List.mem_of_getElem? (i := 877) (by decide +kernel), List.mem_of_getElem? (i := 992) (by decide +kernel), List.mem_of_getElem? (i := 993) (by decide +kernel)⟩
theorem lw_p25 : lw_okq (⟨"AloneIsAQuantityModel", "next", "()I"⟩, 31) := ⟨⟨by decide +kernel, by decide +kernel⟩, List.mem_of_getElem? (i := 877) (by decide +kernel), List.mem_of_getElem? (i := 996) (by decide +kernel), List.mem_of_getElem? (i := 997) (by decide +kernel)⟩
theorem lw_p26 : lw_okq (⟨"AloneIsAQuantityModel", "readsAll", "(II)Z"⟩, 31) := ⟨⟨by decide +kernel, by decide +kernel⟩, List.mem_of_getElem? (i := 877) (by decide +kernel), List.mem_of_getElem? (i := 1000) (by decide +kernel), List.mem_of_getElem? (i := 1001) (by decide +kernel)⟩
theorem lw_p27 : lw_okq (⟨"AloneIsAQuantityModel", "readsKind", "(I)Z"⟩, 31) := ⟨⟨by decide +kernel, by decide +kernel⟩, List.mem_of_getElem? (i := 877) (by decide +kernel), List.mem_of_getElem? (i := 1004) (by decide +kernel), List.mem_of_getElem? (i := 1005) (by decide +kernel)⟩
theorem lw_p28 : lw_okq (⟨"AloneIsAQuantityModel", "readsDigits", "(II)Z"⟩, 31) := ⟨⟨by decide +kernel, by decide +kernel⟩, List.mem_of_getElem? (i := 877) (by decide +kernel), List.mem_of_getElem? (i := 1011) (by decide +kernel), List.mem_of_getElem? (i := 1012) (by decide +kernel)⟩
theorem lw_p29 : lw_okq (⟨"AloneIsAQuantityModel", "passesAll", "(IZ)V"⟩, 31) := ⟨⟨by decide +kernel, by decide +kernel⟩, List.mem_of_getElem? (i := 877) (by decide +kernel), List.mem_of_getElem? (i := 1018) (by decide +kernel), List.mem_of_getElem? (i := 1019) (by decide +kernel)⟩
theorem lw_p30 : lw_okq (⟨"AloneIsAQuantityModel", "passes", "([I)V"⟩, 31) := ⟨⟨by decide +kernel, by decide +kernel⟩, List.mem_of_getElem? (i := 877) (by decide +kernel), List.mem_of_getElem? (i := 1022) (by decide +kernel), List.mem_of_getElem? (i := 1023) (by decide +kernel)⟩
theorem lw_p31 : lw_okq (⟨"AloneIsAQuantityModel", "passOne", "(I)I"⟩, 31) := ⟨⟨by decide +kernel, by decide +kernel⟩, List.mem_of_getElem? (i := 877) (by decide +kernel), List.mem_of_getElem? (i := 1026) (by decide +kernel), List.mem_of_getElem? (i := 1027) (by decide +kernel)⟩
def lw_privs_2 : List (MethodName × Nat) := [(⟨"AloneIsAQuantity$Lending", "isNearGiverBeside", "(III)Z"⟩, 4), (⟨"AloneIsAQuantity$OtherMoors", "weighChoices", "(II)V"⟩, 5), (⟨"AloneIsAQuantity$OtherMoors", "chosenCell", "(II)I"⟩, 5), (⟨"AloneIsAQuantity$OtherMoors", "isSteady", "(II)Z"⟩, 5), (⟨"AloneIsAQuantity$OtherMoors", "sharesAreTold", "(LAloneIsAQuantity$Numbers;)Z"⟩, 5), (⟨"AloneIsAQuantity$OtherMoors", "placeAllByLot", "()V"⟩, 5), (⟨"AloneIsAQuantity$Moor", "allOf", "(LAloneIsAQuantity$Numbers;)I"⟩, 13), (⟨"AloneIsAQuantityModel", "no", "(I)I"⟩, 31), (⟨"AloneIsAQuantityModel", "statement", "()Z"⟩, 31), (⟨"AloneIsAQuantityModel", "next", "()I"⟩, 31), (⟨"AloneIsAQuantityModel", "readsAll", "(II)Z"⟩, 31), (⟨"AloneIsAQuantityModel", "readsKind", "(I)Z"⟩, 31), (⟨"AloneIsAQuantityModel", "readsDigits", "(II)Z"⟩, 31), (⟨"AloneIsAQuantityModel", "passesAll", "(IZ)V"⟩, 31), (⟨"AloneIsAQuantityModel", "passes", "([I)V"⟩, 31), (⟨"AloneIsAQuantityModel", "passOne", "(I)I"⟩, 31)]
theorem lw_r2 : ∀ q ∈ lw_privs_2, lw_okq q := List.forall_mem_cons.mpr ⟨lw_p16, List.forall_mem_cons.mpr ⟨lw_p17, List.forall_mem_cons.mpr ⟨lw_p18, List.forall_mem_cons.mpr ⟨lw_p19, List.forall_mem_cons.mpr ⟨lw_p20, List.forall_mem_cons.mpr ⟨lw_p21, List.forall_mem_cons.mpr ⟨lw_p22, List.forall_mem_cons.mpr ⟨lw_p23, List.forall_mem_cons.mpr ⟨lw_p24, List.forall_mem_cons.mpr ⟨lw_p25, List.forall_mem_cons.mpr ⟨lw_p26, List.forall_mem_cons.mpr ⟨lw_p27, List.forall_mem_cons.mpr ⟨lw_p28, List.forall_mem_cons.mpr ⟨lw_p29, List.forall_mem_cons.mpr ⟨lw_p30, List.forall_mem_cons.mpr ⟨lw_p31, fun _ h => absurd h List.not_mem_nil⟩⟩⟩⟩⟩⟩⟩⟩⟩⟩⟩⟩⟩⟩⟩⟩
theorem lw_p32 : lw_okq (⟨"AloneIsAQuantityModel", "comes", "(I)Z"⟩, 31) := ⟨⟨by decide +kernel, by decide +kernel⟩, List.mem_of_getElem? (i := 877) (by decide +kernel), List.mem_of_getElem? (i := 1030) (by decide +kernel), List.mem_of_getElem? (i := 1031) (by decide +kernel)⟩
theorem lw_p33 : lw_okq (⟨"AloneIsAQuantityModel", "comesOne", "(I)Z"⟩, 31) := ⟨⟨by decide +kernel, by decide +kernel⟩, List.mem_of_getElem? (i := 877) (by decide +kernel), List.mem_of_getElem? (i := 1034) (by decide +kernel), List.mem_of_getElem? (i := 1035) (by decide +kernel)⟩
theorem lw_p34 : lw_okq (⟨"AloneIsAQuantityModel", "adds", "(IIII)V"⟩, 31) := ⟨⟨by decide +kernel, by decide +kernel⟩, List.mem_of_getElem? (i := 877) (by decide +kernel), List.mem_of_getElem? (i := 1041) (by decide +kernel), List.mem_of_getElem? (i := 1042) (by decide +kernel)⟩
theorem lw_p35 : lw_okq (⟨"AloneIsAQuantityModel", "isOne", "(I)Z"⟩, 31) := ⟨⟨by decide +kernel, by decide +kernel⟩, List.mem_of_getElem? (i := 877) (by decide +kernel), List.mem_of_getElem? (i := 1045) (by decide +kernel), List.mem_of_getElem? (i := 1046) (by decide +kernel)⟩
theorem lw_p36 : lw_okq (⟨"AloneIsAQuantityModel", "areTwo", "(II)Z"⟩, 31) := ⟨⟨by decide +kernel, by decide +kernel⟩, List.mem_of_getElem? (i := 877) (by decide +kernel), List.mem_of_getElem? (i := 1049) (by decide +kernel), List.mem_of_getElem? (i := 1050) (by decide +kernel)⟩
theorem lw_p37 : lw_okq (⟨"AloneIsAQuantityModel", "comesDays", "(I)Z"⟩, 31) := ⟨⟨by decide +kernel, by decide +kernel⟩, List.mem_of_getElem? (i := 877) (by decide +kernel), List.mem_of_getElem? (i := 1053) (by decide +kernel), List.mem_of_getElem? (i := 1054) (by decide +kernel)⟩
theorem lw_p38 : lw_okq (⟨"AloneIsAQuantityModel", "goesDay", "(II)V"⟩, 31) := ⟨⟨by decide +kernel, by decide +kernel⟩, List.mem_of_getElem? (i := 877) (by decide +kernel), List.mem_of_getElem? (i := 1057) (by decide +kernel), List.mem_of_getElem? (i := 1058) (by decide +kernel)⟩
theorem lw_p39 : lw_okq (⟨"AloneIsAQuantityModel", "findShares", "()V"⟩, 31) := ⟨⟨by decide +kernel, by decide +kernel⟩, List.mem_of_getElem? (i := 877) (by decide +kernel), List.mem_of_getElem? (i := 1061) (by decide +kernel), List.mem_of_getElem? (i := 1062) (by decide +kernel)⟩
theorem lw_p40 : lw_okq (⟨"AloneIsAQuantityModel", "allWeights", "()I"⟩, 31) := ⟨⟨by decide +kernel, by decide +kernel⟩, List.mem_of_getElem? (i := 877) (by decide +kernel), List.mem_of_getElem? (i := 1065) (by decide +kernel), List.mem_of_getElem? (i := 1066) (by decide +kernel)⟩
theorem lw_p41 : lw_okq (⟨"AloneIsAQuantityModel", "isThere", "(I)Z"⟩, 31) := ⟨⟨by decide +kernel, by decide +kernel⟩, List.mem_of_getElem? (i := 877) (by decide +kernel), List.mem_of_getElem? (i := 1069) (by decide +kernel), List.mem_of_getElem? (i := 1070) (by decide +kernel)⟩
theorem lw_p42 : lw_okq (⟨"AloneIsAQuantityModel", "weightOf", "(I)I"⟩, 31) := ⟨⟨by decide +kernel, by decide +kernel⟩, List.mem_of_getElem? (i := 877) (by decide +kernel), List.mem_of_getElem? (i := 1076) (by decide +kernel), List.mem_of_getElem? (i := 1077) (by decide +kernel)⟩
theorem lw_p43 : lw_okq (⟨"AloneIsAQuantityModel", "stepsOf", "(I)I"⟩, 31) := ⟨⟨by decide +kernel, by decide +kernel⟩, List.mem_of_getElem? (i := 877) (by decide +kernel), List.mem_of_getElem? (i := 1080) (by decide +kernel), List.mem_of_getElem? (i := 1081) (by decide +kernel)⟩
theorem lw_p44 : lw_okq (⟨"AloneIsAQuantityModel", "isLonely", "(I)Z"⟩, 31) := ⟨⟨by decide +kernel, by decide +kernel⟩, List.mem_of_getElem? (i := 877) (by decide +kernel), List.mem_of_getElem? (i := 1093) (by decide +kernel), List.mem_of_getElem? (i := 1094) (by decide +kernel)⟩
theorem lw_p45 : lw_okq (⟨"AloneIsAQuantityModel", "hasNow", "(I)I"⟩, 31) := ⟨⟨by decide +kernel, by decide +kernel⟩, List.mem_of_getElem? (i := 877) (by decide +kernel), List.mem_of_getElem? (i := 1097) (by decide +kernel), List.mem_of_getElem? (i := 1098) (by decide +kernel)⟩
theorem lw_p46 : lw_okq (⟨"AloneIsAQuantityModel", "netOf", "(I)I"⟩, 31) := ⟨⟨by decide +kernel, by decide +kernel⟩, List.mem_of_getElem? (i := 877) (by decide +kernel), List.mem_of_getElem? (i := 1101) (by decide +kernel), List.mem_of_getElem? (i := 1102) (by decide +kernel)⟩
theorem lw_p47 : lw_okq (⟨"AloneIsAQuantityModel", "lower", "(I)I"⟩, 31) := ⟨⟨by decide +kernel, by decide +kernel⟩, List.mem_of_getElem? (i := 877) (by decide +kernel), List.mem_of_getElem? (i := 1121) (by decide +kernel), List.mem_of_getElem? (i := 1122) (by decide +kernel)⟩
def lw_privs_3 : List (MethodName × Nat) := [(⟨"AloneIsAQuantityModel", "comes", "(I)Z"⟩, 31), (⟨"AloneIsAQuantityModel", "comesOne", "(I)Z"⟩, 31), (⟨"AloneIsAQuantityModel", "adds", "(IIII)V"⟩, 31), (⟨"AloneIsAQuantityModel", "isOne", "(I)Z"⟩, 31), (⟨"AloneIsAQuantityModel", "areTwo", "(II)Z"⟩, 31), (⟨"AloneIsAQuantityModel", "comesDays", "(I)Z"⟩, 31), (⟨"AloneIsAQuantityModel", "goesDay", "(II)V"⟩, 31), (⟨"AloneIsAQuantityModel", "findShares", "()V"⟩, 31), (⟨"AloneIsAQuantityModel", "allWeights", "()I"⟩, 31), (⟨"AloneIsAQuantityModel", "isThere", "(I)Z"⟩, 31), (⟨"AloneIsAQuantityModel", "weightOf", "(I)I"⟩, 31), (⟨"AloneIsAQuantityModel", "stepsOf", "(I)I"⟩, 31), (⟨"AloneIsAQuantityModel", "isLonely", "(I)Z"⟩, 31), (⟨"AloneIsAQuantityModel", "hasNow", "(I)I"⟩, 31), (⟨"AloneIsAQuantityModel", "netOf", "(I)I"⟩, 31), (⟨"AloneIsAQuantityModel", "lower", "(I)I"⟩, 31)]
theorem lw_r3 : ∀ q ∈ lw_privs_3, lw_okq q := List.forall_mem_cons.mpr ⟨lw_p32, List.forall_mem_cons.mpr ⟨lw_p33, List.forall_mem_cons.mpr ⟨lw_p34, List.forall_mem_cons.mpr ⟨lw_p35, List.forall_mem_cons.mpr ⟨lw_p36, List.forall_mem_cons.mpr ⟨lw_p37, List.forall_mem_cons.mpr ⟨lw_p38, List.forall_mem_cons.mpr ⟨lw_p39, List.forall_mem_cons.mpr ⟨lw_p40, List.forall_mem_cons.mpr ⟨lw_p41, List.forall_mem_cons.mpr ⟨lw_p42, List.forall_mem_cons.mpr ⟨lw_p43, List.forall_mem_cons.mpr ⟨lw_p44, List.forall_mem_cons.mpr ⟨lw_p45, List.forall_mem_cons.mpr ⟨lw_p46, List.forall_mem_cons.mpr ⟨lw_p47, fun _ h => absurd h List.not_mem_nil⟩⟩⟩⟩⟩⟩⟩⟩⟩⟩⟩⟩⟩⟩⟩⟩
theorem lw_p48 : lw_okq (⟨"AloneIsAQuantityModel", "thinks", "()V"⟩, 31) := ⟨⟨by decide +kernel, by decide +kernel⟩, List.mem_of_getElem? (i := 877) (by decide +kernel), List.mem_of_getElem? (i := 1158) (by decide +kernel), List.mem_of_getElem? (i := 1159) (by decide +kernel)⟩
theorem lw_p49 : lw_okq (⟨"AloneIsAQuantityModel", "noShorts", "()V"⟩, 31) := ⟨⟨by decide +kernel, by decide +kernel⟩, List.mem_of_getElem? (i := 877) (by decide +kernel), List.mem_of_getElem? (i := 1162) (by decide +kernel), List.mem_of_getElem? (i := 1163) (by decide +kernel)⟩
theorem lw_p50 : lw_okq (⟨"AloneIsAQuantityModel", "forgets", "()V"⟩, 31) := ⟨⟨by decide +kernel, by decide +kernel⟩, List.mem_of_getElem? (i := 877) (by decide +kernel), List.mem_of_getElem? (i := 1166) (by decide +kernel), List.mem_of_getElem? (i := 1167) (by decide +kernel)⟩
theorem lw_p51 : lw_okq (⟨"AloneIsAQuantityModel", "shortOn", "(I)I"⟩, 31) := ⟨⟨by decide +kernel, by decide +kernel⟩, List.mem_of_getElem? (i := 877) (by decide +kernel), List.mem_of_getElem? (i := 1174) (by decide +kernel), List.mem_of_getElem? (i := 1175) (by decide +kernel)⟩
theorem lw_p52 : lw_okq (⟨"AloneIsAQuantityModel", "leastOfOthers", "(I)I"⟩, 31) := ⟨⟨by decide +kernel, by decide +kernel⟩, List.mem_of_getElem? (i := 877) (by decide +kernel), List.mem_of_getElem? (i := 1186) (by decide +kernel), List.mem_of_getElem? (i := 1187) (by decide +kernel)⟩
theorem lw_p53 : lw_okq (⟨"AloneIsAQuantityModel", "takesFrom", "(II)I"⟩, 31) := ⟨⟨by decide +kernel, by decide +kernel⟩, List.mem_of_getElem? (i := 877) (by decide +kernel), List.mem_of_getElem? (i := 1194) (by decide +kernel), List.mem_of_getElem? (i := 1195) (by decide +kernel)⟩
theorem lw_p54 : lw_okq (⟨"AloneIsAQuantityModel", "sharesOfFirst", "(I)I"⟩, 31) := ⟨⟨by decide +kernel, by decide +kernel⟩, List.mem_of_getElem? (i := 877) (by decide +kernel), List.mem_of_getElem? (i := 1206) (by decide +kernel), List.mem_of_getElem? (i := 1207) (by decide +kernel)⟩
theorem lw_p55 : lw_okq (⟨"AloneIsAQuantityModel", "gladBy", "(I)I"⟩, 31) := ⟨⟨by decide +kernel, by decide +kernel⟩, List.mem_of_getElem? (i := 877) (by decide +kernel), List.mem_of_getElem? (i := 1214) (by decide +kernel), List.mem_of_getElem? (i := 1215) (by decide +kernel)⟩
theorem lw_p56 : lw_okq (⟨"AloneIsAQuantityModel", "cutBy", "(II)I"⟩, 31) := ⟨⟨by decide +kernel, by decide +kernel⟩, List.mem_of_getElem? (i := 877) (by decide +kernel), List.mem_of_getElem? (i := 1226) (by decide +kernel), List.mem_of_getElem? (i := 1227) (by decide +kernel)⟩
theorem lw_p57 : lw_okq (⟨"AloneIsAQuantityModel", "lackOf", "(I)I"⟩, 31) := ⟨⟨by decide +kernel, by decide +kernel⟩, List.mem_of_getElem? (i := 877) (by decide +kernel), List.mem_of_getElem? (i := 1230) (by decide +kernel), List.mem_of_getElem? (i := 1231) (by decide +kernel)⟩
theorem lw_p58 : lw_okq (⟨"AloneIsAQuantityModel", "isNearOne", "(III)Z"⟩, 31) := ⟨⟨by decide +kernel, by decide +kernel⟩, List.mem_of_getElem? (i := 877) (by decide +kernel), List.mem_of_getElem? (i := 1234) (by decide +kernel), List.mem_of_getElem? (i := 1235) (by decide +kernel)⟩
theorem lw_p59 : lw_okq (⟨"AloneIsAQuantityModel", "overOf", "(I)I"⟩, 31) := ⟨⟨by decide +kernel, by decide +kernel⟩, List.mem_of_getElem? (i := 877) (by decide +kernel), List.mem_of_getElem? (i := 1238) (by decide +kernel), List.mem_of_getElem? (i := 1239) (by decide +kernel)⟩
theorem lw_p60 : lw_okq (⟨"AloneIsAQuantityModel", "fewestLoans", "()I"⟩, 31) := ⟨⟨by decide +kernel, by decide +kernel⟩, List.mem_of_getElem? (i := 877) (by decide +kernel), List.mem_of_getElem? (i := 1250) (by decide +kernel), List.mem_of_getElem? (i := 1251) (by decide +kernel)⟩
theorem lw_p61 : lw_okq (⟨"AloneIsAQuantityModel", "netsOf", "(I)I"⟩, 31) := ⟨⟨by decide +kernel, by decide +kernel⟩, List.mem_of_getElem? (i := 877) (by decide +kernel), List.mem_of_getElem? (i := 1254) (by decide +kernel), List.mem_of_getElem? (i := 1255) (by decide +kernel)⟩
theorem lw_p62 : lw_okq (⟨"AloneIsAQuantityModel", "surveyIn", "(I)I"⟩, 31) := ⟨⟨by decide +kernel, by decide +kernel⟩, List.mem_of_getElem? (i := 877) (by decide +kernel), List.mem_of_getElem? (i := 1262) (by decide +kernel), List.mem_of_getElem? (i := 1263) (by decide +kernel)⟩
theorem lw_p63 : lw_okq (⟨"AloneIsAQuantityModel", "shareIn", "(II)I"⟩, 31) := ⟨⟨by decide +kernel, by decide +kernel⟩, List.mem_of_getElem? (i := 877) (by decide +kernel), List.mem_of_getElem? (i := 1274) (by decide +kernel), List.mem_of_getElem? (i := 1275) (by decide +kernel)⟩
def lw_privs_4 : List (MethodName × Nat) := [(⟨"AloneIsAQuantityModel", "thinks", "()V"⟩, 31), (⟨"AloneIsAQuantityModel", "noShorts", "()V"⟩, 31), (⟨"AloneIsAQuantityModel", "forgets", "()V"⟩, 31), (⟨"AloneIsAQuantityModel", "shortOn", "(I)I"⟩, 31), (⟨"AloneIsAQuantityModel", "leastOfOthers", "(I)I"⟩, 31), (⟨"AloneIsAQuantityModel", "takesFrom", "(II)I"⟩, 31), (⟨"AloneIsAQuantityModel", "sharesOfFirst", "(I)I"⟩, 31), (⟨"AloneIsAQuantityModel", "gladBy", "(I)I"⟩, 31), (⟨"AloneIsAQuantityModel", "cutBy", "(II)I"⟩, 31), (⟨"AloneIsAQuantityModel", "lackOf", "(I)I"⟩, 31), (⟨"AloneIsAQuantityModel", "isNearOne", "(III)Z"⟩, 31), (⟨"AloneIsAQuantityModel", "overOf", "(I)I"⟩, 31), (⟨"AloneIsAQuantityModel", "fewestLoans", "()I"⟩, 31), (⟨"AloneIsAQuantityModel", "netsOf", "(I)I"⟩, 31), (⟨"AloneIsAQuantityModel", "surveyIn", "(I)I"⟩, 31), (⟨"AloneIsAQuantityModel", "shareIn", "(II)I"⟩, 31)]
theorem lw_r4 : ∀ q ∈ lw_privs_4, lw_okq q := List.forall_mem_cons.mpr ⟨lw_p48, List.forall_mem_cons.mpr ⟨lw_p49, List.forall_mem_cons.mpr ⟨lw_p50, List.forall_mem_cons.mpr ⟨lw_p51, List.forall_mem_cons.mpr ⟨lw_p52, List.forall_mem_cons.mpr ⟨lw_p53, List.forall_mem_cons.mpr ⟨lw_p54, List.forall_mem_cons.mpr ⟨lw_p55, List.forall_mem_cons.mpr ⟨lw_p56, List.forall_mem_cons.mpr ⟨lw_p57, List.forall_mem_cons.mpr ⟨lw_p58, List.forall_mem_cons.mpr ⟨lw_p59, List.forall_mem_cons.mpr ⟨lw_p60, List.forall_mem_cons.mpr ⟨lw_p61, List.forall_mem_cons.mpr ⟨lw_p62, List.forall_mem_cons.mpr ⟨lw_p63, fun _ h => absurd h List.not_mem_nil⟩⟩⟩⟩⟩⟩⟩⟩⟩⟩⟩⟩⟩⟩⟩⟩
theorem lw_p64 : lw_okq (⟨"AloneIsAQuantityModel", "findWays", "(II)V"⟩, 31) := ⟨⟨by decide +kernel, by decide +kernel⟩, List.mem_of_getElem? (i := 877) (by decide +kernel), List.mem_of_getElem? (i := 1282) (by decide +kernel), List.mem_of_getElem? (i := 1283) (by decide +kernel)⟩
theorem lw_p65 : lw_okq (⟨"AloneIsAQuantityModel", "rests", "(I)Z"⟩, 31) := ⟨⟨by decide +kernel, by decide +kernel⟩, List.mem_of_getElem? (i := 877) (by decide +kernel), List.mem_of_getElem? (i := 1289) (by decide +kernel), List.mem_of_getElem? (i := 1290) (by decide +kernel)⟩
theorem lw_p66 : lw_okq (⟨"AloneIsAQuantityModel", "isRich", "()Z"⟩, 31) := ⟨⟨by decide +kernel, by decide +kernel⟩, List.mem_of_getElem? (i := 877) (by decide +kernel), List.mem_of_getElem? (i := 1301) (by decide +kernel), List.mem_of_getElem? (i := 1302) (by decide +kernel)⟩
theorem lw_p67 : lw_okq (⟨"AloneIsAQuantityModel", "bitsFor", "([III)I"⟩, 31) := ⟨⟨by decide +kernel, by decide +kernel⟩, List.mem_of_getElem? (i := 877) (by decide +kernel), List.mem_of_getElem? (i := 1313) (by decide +kernel), List.mem_of_getElem? (i := 1314) (by decide +kernel)⟩
theorem lw_p68 : lw_okq (⟨"AloneIsAQuantityModel", "isSo", "()Z"⟩, 31) := ⟨⟨by decide +kernel, by decide +kernel⟩, List.mem_of_getElem? (i := 877) (by decide +kernel), List.mem_of_getElem? (i := 1317) (by decide +kernel), List.mem_of_getElem? (i := 1318) (by decide +kernel)⟩
def lw_privs_5 : List (MethodName × Nat) := [(⟨"AloneIsAQuantityModel", "findWays", "(II)V"⟩, 31), (⟨"AloneIsAQuantityModel", "rests", "(I)Z"⟩, 31), (⟨"AloneIsAQuantityModel", "isRich", "()Z"⟩, 31), (⟨"AloneIsAQuantityModel", "bitsFor", "([III)I"⟩, 31), (⟨"AloneIsAQuantityModel", "isSo", "()Z"⟩, 31)]
theorem lw_r5 : ∀ q ∈ lw_privs_5, lw_okq q := List.forall_mem_cons.mpr ⟨lw_p64, List.forall_mem_cons.mpr ⟨lw_p65, List.forall_mem_cons.mpr ⟨lw_p66, List.forall_mem_cons.mpr ⟨lw_p67, List.forall_mem_cons.mpr ⟨lw_p68, fun _ h => absurd h List.not_mem_nil⟩⟩⟩⟩⟩
def lw_privs : List (MethodName × Nat) := lw_privs_1 ++ (lw_privs_2 ++ (lw_privs_3 ++ (lw_privs_4 ++ (lw_privs_5))))
def lw_tbl : List Cond := k2_sels lw_privs ++ tables_1
theorem lw_privs_ok : ∀ q ∈ lw_privs, lw_okq q := by
  show ∀ q ∈ lw_privs_1 ++ (lw_privs_2 ++ (lw_privs_3 ++ (lw_privs_4 ++ (lw_privs_5)))), lw_okq q
  exact List.forall_mem_append.mpr ⟨lw_r1, List.forall_mem_append.mpr ⟨lw_r2, List.forall_mem_append.mpr ⟨lw_r3, List.forall_mem_append.mpr ⟨lw_r4, lw_r5⟩⟩⟩⟩
-- ===== end of PART A; then your names; then what follows =====
end
section
/-! The classes of the program, the words of the tables that a method needs; laid by gen_names.py -/
def RJ0 : String := "java/lang/String"
def RJ1 : String := "java/lang/StringLatin1"
def RJ2 : String := "java/lang/StringUTF16"
def RJ3 : String := "jdk/internal/util/Preconditions"
def RJ6 : String := "java/lang/Integer"
def RJ9 : String := "java/lang/Math"
def RX0 : String := "AloneIsAQuantity$DaysToCome"
def RX1 : String := "AloneIsAQuantity$Draw"
def RX2 : String := "AloneIsAQuantity$Lending"
def RX3 : String := "AloneIsAQuantity$Moor"
def RX4 : String := "AloneIsAQuantity$Numbers"
def RX5 : String := "AloneIsAQuantity$OtherMoors"
def RX6 : String := "AloneIsAQuantity$Text"
def RX7 : String := "AloneIsAQuantity"
def RX8 : String := "AloneIsAQuantityModel"
def TX0 : u_T := fun k => match k with
  | 0 => ("AloneIsAQuantity$DaysToCome", "moor", "LAloneIsAQuantity$Moor;", true)
  | _ => ("AloneIsAQuantity$DaysToCome", "thought", "LAloneIsAQuantity$Moor;", true)
def tyX0 : Nat → FieldType := fun k => match k with
  | 0 => (.object "AloneIsAQuantity$Moor")
  | _ => (.object "AloneIsAQuantity$Moor")
theorem nmX0 : ∀ a, a < 2 → ∀ b, b < 2 → a ≠ b → (TX0 a).2.1 ≠ (TX0 b).2.1 := by decide +kernel
theorem tyokX0 : ∀ k, k < 2 → parseFieldDescriptor (TX0 k).2.2.1 = some (tyX0 k) := by decide +kernel
def TX1 : u_T := fun k => match k with
  | _ => ("AloneIsAQuantity$Draw", "z", "I", false)
def tyX1 : Nat → FieldType := fun k => match k with
  | _ => .int
theorem nmX1 : ∀ a, a < 1 → ∀ b, b < 1 → a ≠ b → (TX1 a).2.1 ≠ (TX1 b).2.1 := by decide +kernel
theorem tyokX1 : ∀ k, k < 1 → parseFieldDescriptor (TX1 k).2.2.1 = some (tyX1 k) := by decide +kernel
def TX2 : u_T := fun k => match k with
  | 0 => ("AloneIsAQuantity$Lending", "moor", "LAloneIsAQuantity$Moor;", true)
  | 1 => ("AloneIsAQuantity$Lending", "spares", "LAloneIsAQuantity$Numbers;", true)
  | 2 => ("AloneIsAQuantity$Lending", "lacks", "LAloneIsAQuantity$Numbers;", true)
  | _ => ("AloneIsAQuantity$Lending", "groups", "LAloneIsAQuantity$Numbers;", true)
def tyX2 : Nat → FieldType := fun k => match k with
  | 0 => (.object "AloneIsAQuantity$Moor")
  | 1 => (.object "AloneIsAQuantity$Numbers")
  | 2 => (.object "AloneIsAQuantity$Numbers")
  | _ => (.object "AloneIsAQuantity$Numbers")
theorem nmX2 : ∀ a, a < 4 → ∀ b, b < 4 → a ≠ b → (TX2 a).2.1 ≠ (TX2 b).2.1 := by decide +kernel
theorem tyokX2 : ∀ k, k < 4 → parseFieldDescriptor (TX2 k).2.2.1 = some (tyX2 k) := by decide +kernel
def TX3 : u_T := fun k => match k with
  | 0 => ("AloneIsAQuantity$Moor", "kinds", "LAloneIsAQuantity$Numbers;", true)
  | 1 => ("AloneIsAQuantity$Moor", "figures", "LAloneIsAQuantity$Numbers;", true)
  | 2 => ("AloneIsAQuantity$Moor", "cells", "LAloneIsAQuantity$Numbers;", true)
  | 3 => ("AloneIsAQuantity$Moor", "needs", "LAloneIsAQuantity$Numbers;", true)
  | 4 => ("AloneIsAQuantity$Moor", "kepts", "LAloneIsAQuantity$Numbers;", true)
  | 5 => ("AloneIsAQuantity$Moor", "lents", "LAloneIsAQuantity$Numbers;", true)
  | 6 => ("AloneIsAQuantity$Moor", "nets", "LAloneIsAQuantity$Numbers;", true)
  | 7 => ("AloneIsAQuantity$Moor", "weights", "LAloneIsAQuantity$Numbers;", true)
  | 8 => ("AloneIsAQuantity$Moor", "shares", "LAloneIsAQuantity$Numbers;", true)
  | 9 => ("AloneIsAQuantity$Moor", "people", "I", false)
  | 10 => ("AloneIsAQuantity$Moor", "total", "I", false)
  | 11 => ("AloneIsAQuantity$Moor", "day", "I", false)
  | _ => ("AloneIsAQuantity$Moor", "weightOfAll", "I", false)
def tyX3 : Nat → FieldType := fun k => match k with
  | 0 => (.object "AloneIsAQuantity$Numbers")
  | 1 => (.object "AloneIsAQuantity$Numbers")
  | 2 => (.object "AloneIsAQuantity$Numbers")
  | 3 => (.object "AloneIsAQuantity$Numbers")
  | 4 => (.object "AloneIsAQuantity$Numbers")
  | 5 => (.object "AloneIsAQuantity$Numbers")
  | 6 => (.object "AloneIsAQuantity$Numbers")
  | 7 => (.object "AloneIsAQuantity$Numbers")
  | 8 => (.object "AloneIsAQuantity$Numbers")
  | 9 => .int
  | 10 => .int
  | 11 => .int
  | _ => .int
theorem nmX3 : ∀ a, a < 13 → ∀ b, b < 13 → a ≠ b → (TX3 a).2.1 ≠ (TX3 b).2.1 := by decide +kernel
theorem tyokX3 : ∀ k, k < 13 → parseFieldDescriptor (TX3 k).2.2.1 = some (tyX3 k) := by decide +kernel
def TX4 : u_T := fun k => match k with
  | _ => ("AloneIsAQuantity$Numbers", "all", "[I", true)
def tyX4 : Nat → FieldType := fun k => match k with
  | _ => (.array .int)
theorem nmX4 : ∀ a, a < 1 → ∀ b, b < 1 → a ≠ b → (TX4 a).2.1 ≠ (TX4 b).2.1 := by decide +kernel
theorem tyokX4 : ∀ k, k < 1 → parseFieldDescriptor (TX4 k).2.2.1 = some (tyX4 k) := by decide +kernel
def TX5 : u_T := fun k => match k with
  | 0 => ("AloneIsAQuantity$OtherMoors", "moor", "LAloneIsAQuantity$Moor;", true)
  | 1 => ("AloneIsAQuantity$OtherMoors", "thought", "LAloneIsAQuantity$Moor;", true)
  | 2 => ("AloneIsAQuantity$OtherMoors", "draw", "LAloneIsAQuantity$Draw;", true)
  | 3 => ("AloneIsAQuantity$OtherMoors", "firstShares", "LAloneIsAQuantity$Numbers;", true)
  | _ => ("AloneIsAQuantity$OtherMoors", "secondShares", "LAloneIsAQuantity$Numbers;", true)
def tyX5 : Nat → FieldType := fun k => match k with
  | 0 => (.object "AloneIsAQuantity$Moor")
  | 1 => (.object "AloneIsAQuantity$Moor")
  | 2 => (.object "AloneIsAQuantity$Draw")
  | 3 => (.object "AloneIsAQuantity$Numbers")
  | _ => (.object "AloneIsAQuantity$Numbers")
theorem nmX5 : ∀ a, a < 5 → ∀ b, b < 5 → a ≠ b → (TX5 a).2.1 ≠ (TX5 b).2.1 := by decide +kernel
theorem tyokX5 : ∀ k, k < 5 → parseFieldDescriptor (TX5 k).2.2.1 = some (tyX5 k) := by decide +kernel
def TX6 : u_T := fun k => match k with
  | 0 => ("AloneIsAQuantity$Text", "letters", "LAloneIsAQuantity$Numbers;", true)
  | _ => ("AloneIsAQuantity$Text", "length", "I", false)
def tyX6 : Nat → FieldType := fun k => match k with
  | 0 => (.object "AloneIsAQuantity$Numbers")
  | _ => .int
theorem nmX6 : ∀ a, a < 2 → ∀ b, b < 2 → a ≠ b → (TX6 a).2.1 ≠ (TX6 b).2.1 := by decide +kernel
theorem tyokX6 : ∀ k, k < 2 → parseFieldDescriptor (TX6 k).2.2.1 = some (tyX6 k) := by decide +kernel
def TX7 : u_T := fun k => match k with
  | 0 => ("AloneIsAQuantity", "moor", "LAloneIsAQuantity$Moor;", true)
  | 1 => ("AloneIsAQuantity", "thought", "LAloneIsAQuantity$Moor;", true)
  | 2 => ("AloneIsAQuantity", "daysToCome", "LAloneIsAQuantity$DaysToCome;", true)
  | 3 => ("AloneIsAQuantity", "otherMoors", "LAloneIsAQuantity$OtherMoors;", true)
  | 4 => ("AloneIsAQuantity", "lending", "LAloneIsAQuantity$Lending;", true)
  | 5 => ("AloneIsAQuantity", "text", "LAloneIsAQuantity$Text;", true)
  | 6 => ("AloneIsAQuantity", "imageMoor", "LAloneIsAQuantity$Moor;", true)
  | 7 => ("AloneIsAQuantity", "imageTaken", "Z", false)
  | 8 => ("AloneIsAQuantity", "told", "LAloneIsAQuantity$Numbers;", true)
  | 9 => ("AloneIsAQuantity", "toldCount", "I", false)
  | _ => ("AloneIsAQuantity", "refusals", "LAloneIsAQuantity$Numbers;", true)
def tyX7 : Nat → FieldType := fun k => match k with
  | 0 => (.object "AloneIsAQuantity$Moor")
  | 1 => (.object "AloneIsAQuantity$Moor")
  | 2 => (.object "AloneIsAQuantity$DaysToCome")
  | 3 => (.object "AloneIsAQuantity$OtherMoors")
  | 4 => (.object "AloneIsAQuantity$Lending")
  | 5 => (.object "AloneIsAQuantity$Text")
  | 6 => (.object "AloneIsAQuantity$Moor")
  | 7 => .boolean
  | 8 => (.object "AloneIsAQuantity$Numbers")
  | 9 => .int
  | _ => (.object "AloneIsAQuantity$Numbers")
theorem nmX7 : ∀ a, a < 11 → ∀ b, b < 11 → a ≠ b → (TX7 a).2.1 ≠ (TX7 b).2.1 := by decide +kernel
theorem tyokX7 : ∀ k, k < 11 → parseFieldDescriptor (TX7 k).2.2.1 = some (tyX7 k) := by decide +kernel
def TX8 : u_T := fun k => match k with
  | 0 => ("AloneIsAQuantityModel", "refused", "[I", true)
  | 1 => ("AloneIsAQuantityModel", "kind", "[I", true)
  | 2 => ("AloneIsAQuantityModel", "figure", "[I", true)
  | 3 => ("AloneIsAQuantityModel", "cell", "[I", true)
  | 4 => ("AloneIsAQuantityModel", "needs", "[I", true)
  | 5 => ("AloneIsAQuantityModel", "keeps", "[I", true)
  | 6 => ("AloneIsAQuantityModel", "lent", "[I", true)
  | 7 => ("AloneIsAQuantityModel", "people", "I", false)
  | 8 => ("AloneIsAQuantityModel", "total", "I", false)
  | 9 => ("AloneIsAQuantityModel", "day", "I", false)
  | 10 => ("AloneIsAQuantityModel", "tape", "[I", true)
  | 11 => ("AloneIsAQuantityModel", "letter", "[I", true)
  | 12 => ("AloneIsAQuantityModel", "letterAt", "[I", true)
  | 13 => ("AloneIsAQuantityModel", "told", "[I", true)
  | 14 => ("AloneIsAQuantityModel", "taped", "I", false)
  | 15 => ("AloneIsAQuantityModel", "at", "I", false)
  | 16 => ("AloneIsAQuantityModel", "statements", "I", false)
  | 17 => ("AloneIsAQuantityModel", "kept", "[I", true)
  | 18 => ("AloneIsAQuantityModel", "hasImage", "Z", false)
  | 19 => ("AloneIsAQuantityModel", "isKeeping", "Z", false)
  | 20 => ("AloneIsAQuantityModel", "cursor", "I", false)
  | 21 => ("AloneIsAQuantityModel", "out", "I", false)
  | 22 => ("AloneIsAQuantityModel", "share", "[I", true)
  | 23 => ("AloneIsAQuantityModel", "shorts", "[I", true)
  | 24 => ("AloneIsAQuantityModel", "shortToday", "I", false)
  | 25 => ("AloneIsAQuantityModel", "had", "[I", true)
  | 26 => ("AloneIsAQuantityModel", "groups", "[I", true)
  | 27 => ("AloneIsAQuantityModel", "first", "[I", true)
  | 28 => ("AloneIsAQuantityModel", "second", "[I", true)
  | 29 => ("AloneIsAQuantityModel", "row", "[I", true)
  | _ => ("AloneIsAQuantityModel", "rowMany", "I", false)
def tyX8 : Nat → FieldType := fun k => match k with
  | 0 => (.array .int)
  | 1 => (.array .int)
  | 2 => (.array .int)
  | 3 => (.array .int)
  | 4 => (.array .int)
  | 5 => (.array .int)
  | 6 => (.array .int)
  | 7 => .int
  | 8 => .int
  | 9 => .int
  | 10 => (.array .int)
  | 11 => (.array .int)
  | 12 => (.array .int)
  | 13 => (.array .int)
  | 14 => .int
  | 15 => .int
  | 16 => .int
  | 17 => (.array .int)
  | 18 => .boolean
  | 19 => .boolean
  | 20 => .int
  | 21 => .int
  | 22 => (.array .int)
  | 23 => (.array .int)
  | 24 => .int
  | 25 => (.array .int)
  | 26 => (.array .int)
  | 27 => (.array .int)
  | 28 => (.array .int)
  | 29 => (.array .int)
  | _ => .int
theorem nmX8 : ∀ a, a < 31 → ∀ b, b < 31 → a ≠ b → (TX8 a).2.1 ≠ (TX8 b).2.1 := by decide +kernel
theorem tyokX8 : ∀ k, k < 31 → parseFieldDescriptor (TX8 k).2.2.1 = some (tyX8 k) := by decide +kernel
def aCls : List vw_C := [(RX0, TX0, 2), (RX1, TX1, 1), (RX2, TX2, 4), (RX3, TX3, 13), (RX4, TX4, 1), (RX5, TX5, 5), (RX6, TX6, 2), (RX7, TX7, 11), (RX8, TX8, 31)]
def aBW : List Cond := lw_tbl.filter goodWord
theorem aBW_at (i : Nat) {w : Cond} (h : lw_tbl[i]? = some w) (g : goodWord w = true) : w ∈ aBW := List.mem_filter.mpr ⟨List.mem_of_getElem? h, g⟩
theorem aBW_sub {ws : List Cond} (ps : List Nat) (hp : ws = ps.filterMap (fun i => lw_tbl[i]?)) (h : ws.all goodWord = true) : ∀ w ∈ ws, w ∈ aBW := by
  intro w hw
  have h1 := List.all_eq_true.mp h w hw
  rw [hp] at hw
  obtain ⟨i, -, hi⟩ := List.mem_filterMap.mp hw
  exact aBW_at i hi h1
theorem aBW_good : ∀ w ∈ aBW, (w.onTables && w.keeps) = true ∨ ∃ ty, w = .arrayClass ty := fun w hw => good_of_word (List.mem_filter.mp hw).2
theorem aBW_in {y : MethodName} {cc : ByteArray} {n : Nat} {r : Option FieldType} (h : Cond.code y cc n r ∈ aBW) : GoodIn aBW (Cond.code y cc n r :: aBW) := fun w hw => by
  rcases List.mem_cons.mp hw with rfl | hw
  · exact ⟨h, aBW_good _ h⟩
  · exact ⟨hw, aBW_good _ hw⟩
theorem lyX0 : ∀ w ∈ u_ws RX0 TX0 2, w ∈ aBW := aBW_sub [161, 163] (by decide +kernel) (by decide +kernel)
theorem lyX1 : ∀ w ∈ u_ws RX1 TX1 1, w ∈ aBW := aBW_sub [179] (by decide +kernel) (by decide +kernel)
theorem lyX2 : ∀ w ∈ u_ws RX2 TX2 4, w ∈ aBW := aBW_sub [212, 214, 216, 218] (by decide +kernel) (by decide +kernel)
theorem lyX3 : ∀ w ∈ u_ws RX3 TX3 13, w ∈ aBW := aBW_sub [126, 128, 130, 132, 134, 136, 138, 140, 142, 144, 146, 148, 150] (by decide +kernel) (by decide +kernel)
theorem lyX4 : ∀ w ∈ u_ws RX4 TX4 1, w ∈ aBW := aBW_sub [109] (by decide +kernel) (by decide +kernel)
theorem lyX5 : ∀ w ∈ u_ws RX5 TX5 5, w ∈ aBW := aBW_sub [189, 191, 193, 195, 197] (by decide +kernel) (by decide +kernel)
theorem lyX6 : ∀ w ∈ u_ws RX6 TX6 2, w ∈ aBW := aBW_sub [231, 233] (by decide +kernel) (by decide +kernel)
theorem lyX7 : ∀ w ∈ u_ws RX7 TX7 11, w ∈ aBW := aBW_sub [249, 251, 253, 255, 257, 259, 261, 263, 265, 267, 269] (by decide +kernel) (by decide +kernel)
theorem lyX8 : ∀ w ∈ u_ws RX8 TX8 31, w ∈ aBW := aBW_sub [982, 984, 986, 988, 990, 992, 994, 996, 998, 1000, 1002, 1004, 1006, 1008, 1010, 1012, 1014, 1016, 1018, 1020, 1022, 1024, 1026, 1028, 1030, 1032, 1034, 1036, 1038, 1040, 1042] (by decide +kernel) (by decide +kernel)
theorem insX0 : Cond.instantiable RX0 2 ∈ aBW := aBW_at 154 (by decide +kernel) (by decide +kernel)
theorem iniX0 : Cond.initialized RX0 ∈ aBW := aBW_at 74 (by decide +kernel) (by decide +kernel)
theorem insX1 : Cond.instantiable RX1 1 ∈ aBW := aBW_at 173 (by decide +kernel) (by decide +kernel)
theorem iniX1 : Cond.initialized RX1 ∈ aBW := aBW_at 76 (by decide +kernel) (by decide +kernel)
theorem insX2 : Cond.instantiable RX2 4 ∈ aBW := aBW_at 201 (by decide +kernel) (by decide +kernel)
theorem iniX2 : Cond.initialized RX2 ∈ aBW := aBW_at 77 (by decide +kernel) (by decide +kernel)
theorem insX3 : Cond.instantiable RX3 13 ∈ aBW := aBW_at 94 (by decide +kernel) (by decide +kernel)
theorem iniX3 : Cond.initialized RX3 ∈ aBW := aBW_at 71 (by decide +kernel) (by decide +kernel)
theorem insX4 : Cond.instantiable RX4 1 ∈ aBW := aBW_at 100 (by decide +kernel) (by decide +kernel)
theorem iniX4 : Cond.initialized RX4 ∈ aBW := aBW_at 72 (by decide +kernel) (by decide +kernel)
theorem insX5 : Cond.instantiable RX5 5 ∈ aBW := aBW_at 167 (by decide +kernel) (by decide +kernel)
theorem iniX5 : Cond.initialized RX5 ∈ aBW := aBW_at 75 (by decide +kernel) (by decide +kernel)
theorem insX6 : Cond.instantiable RX6 2 ∈ aBW := aBW_at 222 (by decide +kernel) (by decide +kernel)
theorem iniX6 : Cond.initialized RX6 ∈ aBW := aBW_at 78 (by decide +kernel) (by decide +kernel)
theorem insX7 : Cond.instantiable RX7 11 ∈ aBW := aBW_at 86 (by decide +kernel) (by decide +kernel)
theorem iniX7 : Cond.initialized RX7 ∈ aBW := aBW_at 70 (by decide +kernel) (by decide +kernel)
theorem insX8 : Cond.instantiable RX8 31 ∈ aBW := aBW_at 946 (by decide +kernel) (by decide +kernel)
theorem iniX8 : Cond.initialized RX8 ∈ aBW := aBW_at 79 (by decide +kernel) (by decide +kernel)
theorem iniJ6 : Cond.initialized RJ6 ∈ aBW := aBW_at 84 (by decide +kernel) (by decide +kernel)
theorem iniJ9 : Cond.initialized RJ9 ∈ aBW := aBW_at 73 (by decide +kernel) (by decide +kernel)
theorem arrI : Cond.arrayClass .int ∈ aBW := aBW_at 112 (by decide +kernel) (by decide +kernel)
end
section
/-! An abstract machine over whole numbers: a value is a number (an int by its remainder) or a cell's place; the heap is a list of blocks of cells. -/
abbrev aV : Type := Int ⊕ Nat
abbrev aE : Type := List Int ⊕ (Nat × List (Option aV))
abbrev aH : Type := List (List (Option aE))
def aGet (h : aH) (k : Nat) : Option aE := (h.getD (k / 32) []).getD (k % 32) none
def aSet (h : aH) (k : Nat) (c : aE) : aH := h.set (k / 32) ((h.getD (k / 32) []).set (k % 32) (some c))
/-- how many cells a block has, and how many stand ahead of it -/
def aSz : List Nat := [1, 19, 19, 17, 19, 4, 20]
def aOff : List Nat := [0, 1, 20, 39, 56, 75, 79]
def aOrd (k : Nat) : Nat := aOff.getD (k / 32) 0 + k % 32
def aShape (h : aH) : Prop := h.map List.length = aSz
def aFits (k : Nat) : Prop := k / 32 < 7 ∧ k % 32 < aSz.getD (k / 32) 0
def aBlk (n : Nat) : Nat := if n < 1 then 0 else if n < 20 then 1 else if n < 39 then 2 else if n < 56 then 3 else if n < 75 then 4 else if n < 79 then 5 else 6
theorem aBlk_of : ∀ i, i < 7 → ∀ j, j < aSz.getD i 0 → aBlk (aOff.getD i 0 + j) = i := by decide +kernel
theorem aOrd_inj0 (i : Nat) (hi : i < 7) (i' : Nat) (hi' : i' < 7) (j : Nat) (hj : j < aSz.getD i 0) (j' : Nat) (hj' : j' < aSz.getD i' 0) (e : aOff.getD i 0 + j = aOff.getD i' 0 + j') : i = i' ∧ j = j' := by
  have h1 := aBlk_of i hi j hj
  have h2 := aBlk_of i' hi' j' hj'
  rw [e, h2] at h1
  subst h1
  exact ⟨rfl, by omega⟩
theorem aOrd_inj {k k' : Nat} (h : aFits k) (h' : aFits k') (e : aOrd k = aOrd k') : k = k' := by
  obtain ⟨e1, e2⟩ := aOrd_inj0 _ h.1 _ h'.1 _ h.2 _ h'.2 e
  rw [← Nat.div_add_mod k 32, ← Nat.div_add_mod k' 32, e1, e2]
theorem aOrd_lt0 : ∀ i, i < 7 → ∀ j, j < aSz.getD i 0 → aOff.getD i 0 + j < 99 := by decide +kernel
theorem aShape_len {h : aH} (hs : aShape h) : h.length = 7 := by
  have := congrArg List.length hs
  simpa [aSz] using this
theorem aShape_at {h : aH} (hs : aShape h) (i : Nat) : (h.getD i []).length = aSz.getD i 0 := by
  rw [← hs]
  simp only [List.getD_eq_getElem?_getD, List.getElem?_map]
  cases h[i]? <;> simp
theorem aGet_fits {h : aH} (hs : aShape h) {k : Nat} {e : aE} (hg : aGet h k = some e) : aFits k := by
  have h2 : k % 32 < (h.getD (k / 32) []).length := by
    rcases Nat.lt_or_ge (k % 32) (h.getD (k / 32) []).length with q | q
    · exact q
    · unfold aGet at hg
      rw [List.getD_eq_getElem?_getD, List.getElem?_eq_none q] at hg
      simp at hg
  have h1 : k / 32 < h.length := by
    rcases Nat.lt_or_ge (k / 32) h.length with q | q
    · exact q
    · rw [List.getD_eq_getElem?_getD, List.getElem?_eq_none q] at h2
      simp at h2
  exact ⟨by rw [← aShape_len hs]; exact h1, by rw [← aShape_at hs]; exact h2⟩
theorem aSet_shape {h : aH} (hs : aShape h) (k : Nat) (c : aE) : aShape (aSet h k c) := by
  unfold aShape aSet
  rw [List.map_set, ← hs]
  apply List.ext_getElem?
  intro i
  by_cases hi : i = k / 32
  · subst hi
    by_cases hl : k / 32 < h.length
    · rw [List.getElem?_set_self (by simpa using hl)]
      simp [hl]
    · rw [List.set_eq_of_length_le (by simp; omega)]
  · rw [List.getElem?_set_ne (Ne.symm hi)]
theorem aGet_set {h : aH} (hs : aShape h) {k : Nat} (hk : aFits k) (c : aE) (k' : Nat) : aGet (aSet h k c) k' = if k' = k then some c else aGet h k' := by
  have h1 : k / 32 < h.length := by rw [aShape_len hs]; exact hk.1
  have h2 : k % 32 < (h.getD (k / 32) []).length := by rw [aShape_at hs]; exact hk.2
  unfold aGet aSet
  by_cases e : k' / 32 = k / 32
  · rw [e]
    have e1 : (h.set (k / 32) ((h.getD (k / 32) []).set (k % 32) (some c))).getD (k / 32) [] = (h.getD (k / 32) []).set (k % 32) (some c) := by
      rw [List.getD_eq_getElem?_getD, List.getElem?_set_self h1]; rfl
    rw [e1]
    by_cases e2 : k' % 32 = k % 32
    · have e3 : k' = k := by rw [← Nat.div_add_mod k 32, ← Nat.div_add_mod k' 32, e, e2]
      rw [if_pos e3, e2, List.getD_eq_getElem?_getD, List.getElem?_set_self h2]; rfl
    · rw [if_neg (fun z => e2 (by rw [z])), List.getD_eq_getElem?_getD, List.getElem?_set_ne (Ne.symm e2), ← List.getD_eq_getElem?_getD]
  · rw [if_neg (fun z => e (by rw [z]))]
    have e1 : (h.set (k / 32) ((h.getD (k / 32) []).set (k % 32) (some c))).getD (k' / 32) [] = h.getD (k' / 32) [] := by
      rw [List.getD_eq_getElem?_getD, List.getElem?_set_ne (Ne.symm e), ← List.getD_eq_getElem?_getD]
    rw [e1]
/-! from abstract to concrete -/
def aAd (base b0 : Nat) (adK : Nat → Nat) (k : Nat) : Nat := if k < 1024 then base + aOrd k else if k = 1024 then b0 else adK (k - 1025)
def aC (ad : Nat → Nat) : aV → Value
  | .inl z => .int (Int32.ofInt z)
  | .inr k => .ref (ad k)
def aN (ad : Nat → Nat) : Option aV → Value
  | none => .null
  | some v => aC ad v
def aX (ad : Nat → Nat) (cI : ClassId) : aE → va_E
  | .inl l => .inl (cI, l.length, .inl (fun j => Int32.ofInt (l.getD j 0)))
  | .inr o => .inr (o.1, o.2.map (aN ad))
def aP (D : va_G) (cI : ClassId) (ad : Nat → Nat) (h : aH) (H : Heap) : Prop := aShape h ∧ ∀ (k : Nat) (e : aE), aGet h k = some e → va_at D aCls (ad k, aX ad cI e) H
theorem aFits_lt {k : Nat} (h : aFits k) : k < 1024 := by
  have h1 := h.1
  have := Nat.div_add_mod k 32
  omega
theorem aAd_fits {base b0 : Nat} {adK : Nat → Nat} {k : Nat} (h : aFits k) : aAd base b0 adK k = base + aOrd k := if_pos (aFits_lt h)
theorem aAd_inj {base b0 : Nat} {adK : Nat → Nat} {k k' : Nat} (h : aFits k) (h' : aFits k') (e : aAd base b0 adK k = aAd base b0 adK k') : k = k' := by
  rw [aAd_fits h, aAd_fits h'] at e
  exact aOrd_inj h h' (by omega)
theorem aP_set {D : va_G} {cI : ClassId} {base b0 : Nat} {adK : Nat → Nat} {h : aH} {H H1 : Heap} (hP : aP D cI (aAd base b0 adK) h H) {k : Nat} (hf : aFits k) {c : aE} (hc : va_at D aCls (aAd base b0 adK k, aX (aAd base b0 adK) cI c) H1)
    (ho : ∀ q : Nat, q ≠ aAd base b0 adK k → H1[q]? = H[q]?) : aP D cI (aAd base b0 adK) (aSet h k c) H1 := by
  refine ⟨aSet_shape hP.1 k c, fun k' e hk' => ?_⟩
  rw [aGet_set hP.1 hf] at hk'
  by_cases e1 : k' = k
  · rw [if_pos e1] at hk'
    cases hk'
    rw [e1]; exact hc
  · rw [if_neg e1] at hk'
    have f' := aGet_fits hP.1 hk'
    exact (hP.2 k' e hk').kept (ho _ (fun z => e1 (aAd_inj f' hf z)))
/-- a new cell, at the next address -/
theorem aP_new {D : va_G} {cI : ClassId} {base b0 : Nat} {adK : Nat → Nat} {h : aH} {H H1 : Heap} (hP : aP D cI (aAd base b0 adK) h H) {k : Nat} (hf : aFits k) {c : aE} (hz : aAd base b0 adK k = H.size) (hc : va_at D aCls (aAd base b0 adK k, aX (aAd base b0 adK) cI c) H1)
    (ho : ∀ q : Nat, q < H.size → H1[q]? = H[q]?) : aP D cI (aAd base b0 adK) (aSet h k c) H1 := by
  refine ⟨aSet_shape hP.1 k c, fun k' e hk' => ?_⟩
  rw [aGet_set hP.1 hf] at hk'
  by_cases e1 : k' = k
  · rw [if_pos e1] at hk'
    cases hk'
    rw [e1]; exact hc
  · rw [if_neg e1] at hk'
    exact (hP.2 k' e hk').kept (ho _ (hP.2 k' e hk').lt)
theorem aP_one {D : va_G} {cI : ClassId} {ad : Nat → Nat} {h : aH} {H : Heap} (hP : aP D cI ad h H) {k : Nat} {e : aE} (hk : aGet h k = some e) : va_P D aCls [(ad k, aX ad cI e)] H := by
  intro j q hj
  match j, hj with
  | 0, hj => cases hj; exact hP.2 k e hk
  | j + 1, hj => simp at hj
/-! the methods' tables -/
/-- its name, its bytes, its instructions, its locals, its answer, its class's fields (index, class, slot, kind of type, final), its class's numbers -/
abbrev aM : Type := MethodName × ByteArray × List (Nat × Instr) × Nat × Option FieldType × List (Nat × Nat × Nat × Nat × Bool) × List (Nat × Int)
def aMy (M : aM) : MethodName := M.1
def aMc (M : aM) : ByteArray := M.2.1
def aMt (M : aM) : List (Nat × Instr) := M.2.2.1
def aMn (M : aM) : Nat := M.2.2.2.1
def aMr (M : aM) : Option FieldType := M.2.2.2.2.1
def aMf (M : aM) : List (Nat × Nat × Nat × Nat × Bool) := M.2.2.2.2.2.1
def aMk (M : aM) : List (Nat × Int) := M.2.2.2.2.2.2
def aSwi : Instr → Bool
  | .tableswitch _ _ _ _ => true
  | .lookupswitch _ _ => true
  | _ => false
def aLen : Instr → Nat
  | .bipush _ | .iload _ | .istore _ | .aload _ | .astore _ | .ldc _ | .newarray _ => 2
  | .sipush _ | .getfield _ | .putfield _ | .goto _ | .if_icmp _ _ | .ifCond _ _ | .iinc _ _ | .ldc_w _ | .invokevirtual _ | .invokestatic _ | .invokespecial _ | .new _ => 3
  | _ => 1
def aOkI : Instr → Bool
  | .bipush z => decide (-128 ≤ z) && decide (z ≤ 127)
  | .sipush z => decide (-32768 ≤ z) && decide (z ≤ 32767)
  | _ => true
def aDecOk (cc : ByteArray) (e : Nat × Instr) : Bool := match decode cc e.1 with
  | .ok (i, n) => decide (i = e.2) && (n == aLen i || aSwi i) && aOkI i
  | _ => false
def aTyc : FieldType → Nat
  | .int => 0
  | .boolean => 1
  | .object _ => 2
  | .array _ => 2
  | _ => 9
def aFOk (own : String) (f : Nat × Nat × Nat × Nat × Bool) : Prop := ∃ (C : String) (T : u_T) (N : Nat) (ty : FieldType), aCls[f.2.1]? = some (C, T, N) ∧ f.2.2.1 < N ∧ Cond.fieldLink own f.1 C (T f.2.2.1).2.1 (T f.2.2.1).2.2.1 ∈ aBW ∧ (T f.2.2.1).1 = C ∧ (T f.2.2.1).2.2.2 = f.2.2.2.2 ∧
  parseFieldDescriptor (T f.2.2.1).2.2.1 = some ty ∧ aTyc ty = f.2.2.2.1 ∧ (f.2.2.2.2 = true → C = own)
def aKOk (own : String) (q : Nat × Int) : Prop := Cond.constant own q.1 (Int32.ofInt q.2) ∈ aBW
def aOK (M : aM) : Prop := (∀ e ∈ aMt M, aDecOk (aMc M) e = true) ∧ (∀ f ∈ aMf M, aFOk (aMy M).cls f) ∧ (∀ q ∈ aMk M, aKOk (aMy M).cls q) ∧ aMn M ≤ 17
/-- what is known of each class -/
def aClsOk (q : vw_C) : Prop := (∀ w ∈ u_ws q.1 q.2.1 q.2.2, w ∈ aBW) ∧ (∃ ty : Nat → FieldType, (∀ k, k < q.2.2 → parseFieldDescriptor (q.2.1 k).2.2.1 = some (ty k)) ∧ ∀ k, k < q.2.2 → aTyc (ty k) ≤ 2) ∧ (∀ a, a < q.2.2 → ∀ b, b < q.2.2 → a ≠ b → (q.2.1 a).2.1 ≠ (q.2.1 b).2.1) ∧ Cond.instantiable q.1 q.2.2 ∈ aBW ∧ Cond.initialized q.1 ∈ aBW
theorem aCls_ok : ∀ q ∈ aCls, aClsOk q := by
  intro q hq
  simp only [aCls, List.mem_cons, List.not_mem_nil, or_false] at hq
  rcases hq with rfl | rfl | rfl | rfl | rfl | rfl | rfl | rfl | rfl
  · exact ⟨lyX0, ⟨tyX0, tyokX0, by decide +kernel⟩, nmX0, insX0, iniX0⟩
  · exact ⟨lyX1, ⟨tyX1, tyokX1, by decide +kernel⟩, nmX1, insX1, iniX1⟩
  · exact ⟨lyX2, ⟨tyX2, tyokX2, by decide +kernel⟩, nmX2, insX2, iniX2⟩
  · exact ⟨lyX3, ⟨tyX3, tyokX3, by decide +kernel⟩, nmX3, insX3, iniX3⟩
  · exact ⟨lyX4, ⟨tyX4, tyokX4, by decide +kernel⟩, nmX4, insX4, iniX4⟩
  · exact ⟨lyX5, ⟨tyX5, tyokX5, by decide +kernel⟩, nmX5, insX5, iniX5⟩
  · exact ⟨lyX6, ⟨tyX6, tyokX6, by decide +kernel⟩, nmX6, insX6, iniX6⟩
  · exact ⟨lyX7, ⟨tyX7, tyokX7, by decide +kernel⟩, nmX7, insX7, iniX7⟩
  · exact ⟨lyX8, ⟨tyX8, tyokX8, by decide +kernel⟩, nmX8, insX8, iniX8⟩
theorem aCls_at {ci : Nat} {q : vw_C} (h : aCls[ci]? = some q) : aClsOk q := aCls_ok q (List.mem_of_getElem? h)
/-! one step of a straight stretch -/
def aFetch : List (Nat × Instr) → Nat → Option Instr
  | [], _ => none
  | e :: r, pc => bif Nat.beq e.1 pc then some e.2 else aFetch r pc
def aFld : List (Nat × Nat × Nat × Nat × Bool) → Nat → Option (Nat × Nat × Nat × Bool)
  | [], _ => none
  | e :: r, k => bif Nat.beq e.1 k then some e.2 else aFld r k
def aKst : List (Nat × Int) → Nat → Option Int
  | [], _ => none
  | e :: r, k => bif Nat.beq e.1 k then some e.2 else aKst r k
theorem aFetch_in {l : List (Nat × Instr)} {pc : Nat} {i : Instr} (h : aFetch l pc = some i) : (pc, i) ∈ l := by
  induction l with
  | nil => cases h
  | cons e r ih =>
    unfold aFetch at h
    cases hb : Nat.beq e.1 pc with
    | true =>
      rw [hb] at h
      have := Nat.eq_of_beq_eq_true hb
      cases h
      subst this
      exact List.mem_cons_self
    | false => rw [hb] at h; exact List.mem_cons_of_mem _ (ih h)
theorem aFld_in {l : List (Nat × Nat × Nat × Nat × Bool)} {k : Nat} {i : Nat × Nat × Nat × Bool} (h : aFld l k = some i) : (k, i) ∈ l := by
  induction l with
  | nil => cases h
  | cons e r ih =>
    unfold aFld at h
    cases hb : Nat.beq e.1 k with
    | true =>
      rw [hb] at h
      have := Nat.eq_of_beq_eq_true hb
      cases h
      subst this
      exact List.mem_cons_self
    | false => rw [hb] at h; exact List.mem_cons_of_mem _ (ih h)
theorem aKst_in {l : List (Nat × Int)} {k : Nat} {i : Int} (h : aKst l k = some i) : (k, i) ∈ l := by
  induction l with
  | nil => cases h
  | cons e r ih =>
    unfold aKst at h
    cases hb : Nat.beq e.1 k with
    | true =>
      rw [hb] at h
      have := Nat.eq_of_beq_eq_true hb
      cases h
      subst this
      exact List.mem_cons_self
    | false => rw [hb] at h; exact List.mem_cons_of_mem _ (ih h)
abbrev aLs : Type := List (Option aV)
abbrev aF : Type := Nat × aLs × List aV × aH
def a32 (f : Int32 → Int32 → Int32) (x y : Int) : Int := (f (Int32.ofInt x) (Int32.ofInt y)).toInt
def aAnd : Int → Int → Int := a32 (fun x y => x &&& y)
def aOr : Int → Int → Int := a32 (fun x y => x ||| y)
def aXor : Int → Int → Int := a32 (fun x y => x ^^^ y)
def aShl : Int → Int → Int := a32 (fun x y => x <<< (y &&& 31))
def aShr : Int → Int → Int := a32 (fun x y => x >>> (y &&& 31))
def aUshr : Int → Int → Int := a32 (fun x y => (x.toUInt32 >>> (y.toUInt32 &&& Int32.toUInt32 31)).toInt32)
def aBin : Instr → Int → Int → Option Int
  | .iadd, x, y => some (x + y)
  | .isub, x, y => some (x - y)
  | .imul, x, y => some (x * y)
  | .iand, x, y => some (aAnd x y)
  | .ior, x, y => some (aOr x y)
  | .ixor, x, y => some (aXor x y)
  | .ishl, x, y => some (aShl x y)
  | .ishr, x, y => some (aShr x y)
  | .iushr, x, y => some (aUshr x y)
  | _, _, _ => none
/-- a number that is pushed -/
def aPush (M : aM) : Instr → Option Int
  | .iconst z => some z
  | .bipush z => some z
  | .sipush z => some z
  | .ldc k => aKst (aMk M) k
  | .ldc_w k => aKst (aMk M) k
  | _ => none
def aLdI : Instr → Option Nat
  | .iload k => some k
  | .iload_n k => some k.val
  | _ => none
def aLdA : Instr → Option Nat
  | .aload k => some k
  | .aload_n k => some k.val
  | _ => none
def aStI : Instr → Option Nat
  | .istore k => some k
  | .istore_n k => some k.val
  | _ => none
def aStA : Instr → Option Nat
  | .astore k => some k
  | .astore_n k => some k.val
  | _ => none
def aLoc (ls : aLs) (k : Nat) : Option aV := match ls[k]? with
  | some (some v) => some v
  | _ => none
def aGetF (M : aM) (h : aH) (idx k : Nat) : Option aV := match aFld (aMf M) idx, aGet h k with
  | some f, some (.inr o) => bif Nat.beq f.1 o.1 then (match o.2[f.2.1]? with
    | some (some v) => some v
    | _ => none) else none
  | _, _ => none
def aTyFit : Nat → aV → Bool
  | 0, .inl _ => true
  | 1, .inl z => decide (z = 0) || decide (z = 1)
  | 2, .inr _ => true
  | _, _ => false
def aPutF (M : aM) (h : aH) (idx k : Nat) (v : aV) : Option aH := match aFld (aMf M) idx, aGet h k with
  | some f, some (.inr o) => bif Nat.beq f.1 o.1 && Nat.blt f.2.1 o.2.length && aTyFit f.2.2.1 v && (!f.2.2.2 || decide ((aMy M).name = "<init>")) then some (aSet h k (.inr (o.1, o.2.set f.2.1 (some v)))) else none
  | _, _ => none
def aJmp (pc : Nat) (off : Int) : Nat := ((pc : Int) + off).toNat
def aTry (a b : Option aF) : Option aF := match a with
  | some x => some x
  | none => b
def aOp (M : aM) (i : Instr) (pc : Nat) (ls : aLs) (st : List aV) (h : aH) : Option aF :=
  match i with
  | .iconst z => some (pc + 1, ls, .inl z :: st, h)
  | .bipush z => some (pc + 2, ls, .inl z :: st, h)
  | .sipush z => some (pc + 3, ls, .inl z :: st, h)
  | .ldc k => (aKst (aMk M) k).map fun z => (pc + 2, ls, .inl z :: st, h)
  | .ldc_w k => (aKst (aMk M) k).map fun z => (pc + 3, ls, .inl z :: st, h)
  | .iload k => (match aLoc ls k with
    | some (.inl z) => some (pc + 2, ls, .inl z :: st, h)
    | _ => none)
  | .iload_n k => (match aLoc ls k.val with
    | some (.inl z) => some (pc + 1, ls, .inl z :: st, h)
    | _ => none)
  | .aload k => (match aLoc ls k with
    | some (.inr z) => some (pc + 2, ls, .inr z :: st, h)
    | _ => none)
  | .aload_n k => (match aLoc ls k.val with
    | some (.inr z) => some (pc + 1, ls, .inr z :: st, h)
    | _ => none)
  | .istore k => (match st with
    | .inl z :: st => bif Nat.blt k (aMn M) then some (pc + 2, ls.set k (some (.inl z)), st, h) else none
    | _ => none)
  | .istore_n k => (match st with
    | .inl z :: st => bif Nat.blt k.val (aMn M) then some (pc + 1, ls.set k.val (some (.inl z)), st, h) else none
    | _ => none)
  | .astore k => (match st with
    | .inr z :: st => bif Nat.blt k (aMn M) then some (pc + 2, ls.set k (some (.inr z)), st, h) else none
    | _ => none)
  | .astore_n k => (match st with
    | .inr z :: st => bif Nat.blt k.val (aMn M) then some (pc + 1, ls.set k.val (some (.inr z)), st, h) else none
    | _ => none)
  | .iinc k z => (match aLoc ls k with
    | some (.inl x) => bif Nat.blt k (aMn M) then some (pc + 3, ls.set k (some (.inl (x + z))), st, h) else none
    | _ => none)
  | .iadd => (match st with
    | .inl y :: .inl x :: st => some (pc + 1, ls, .inl (x + y) :: st, h)
    | _ => none)
  | .isub => (match st with
    | .inl y :: .inl x :: st => some (pc + 1, ls, .inl (x - y) :: st, h)
    | _ => none)
  | .imul => (match st with
    | .inl y :: .inl x :: st => some (pc + 1, ls, .inl (x * y) :: st, h)
    | _ => none)
  | .ineg => (match st with
    | .inl x :: st => some (pc + 1, ls, .inl (-x) :: st, h)
    | _ => none)
  | .iand => (match st with
    | .inl y :: .inl x :: st => some (pc + 1, ls, .inl (aAnd x y) :: st, h)
    | _ => none)
  | .ior => (match st with
    | .inl y :: .inl x :: st => some (pc + 1, ls, .inl (aOr x y) :: st, h)
    | _ => none)
  | .ixor => (match st with
    | .inl y :: .inl x :: st => some (pc + 1, ls, .inl (aXor x y) :: st, h)
    | _ => none)
  | .ishl => (match st with
    | .inl y :: .inl x :: st => some (pc + 1, ls, .inl (aShl x y) :: st, h)
    | _ => none)
  | .ishr => (match st with
    | .inl y :: .inl x :: st => some (pc + 1, ls, .inl (aShr x y) :: st, h)
    | _ => none)
  | .iushr => (match st with
    | .inl y :: .inl x :: st => some (pc + 1, ls, .inl (aUshr x y) :: st, h)
    | _ => none)
  | .dup => (match st with
    | x :: st => some (pc + 1, ls, x :: x :: st, h)
    | _ => none)
  | .dup2 => (match st with
    | x :: y :: st => some (pc + 1, ls, x :: y :: x :: y :: st, h)
    | _ => none)
  | .pop => (match st with
    | _ :: st => some (pc + 1, ls, st, h)
    | _ => none)
  | .goto off => bif decide (0 ≤ (pc : Int) + off) then some (aJmp pc off, ls, st, h) else none
  | .getfield idx => (match st with
    | .inr k :: st => (aGetF M h idx k).map fun v => (pc + 3, ls, v :: st, h)
    | _ => none)
  | .putfield idx => (match st with
    | v :: .inr k :: st => (aPutF M h idx k v).map fun h' => (pc + 3, ls, st, h')
    | _ => none)
  | .arraylength => (match st with
    | .inr k :: st => (match aGet h k with
      | some (.inl l) => some (pc + 1, ls, .inl (l.length : Int) :: st, h)
      | _ => none)
    | _ => none)
  | _ => none
def aStep (M : aM) (f : aF) : Option aF := match aFetch (aMt M) f.1 with
  | some i => aOp M i f.1 f.2.1 f.2.2.1 f.2.2.2
  | none => none
def aRun (M : aM) : Nat → aF → Option aF
  | 0, f => some f
  | n + 1, f => match aStep M f with
    | some f' => aRun M n f'
    | none => none
end
