section
-- ===== PART A: goes FIRST, ahead of the names: the tables' words, and 'selects' of the private methods out of them =====
/-- a private method of a class that the tables say can be made, by its rows of tables_1 -/
def lw_okq (q : MethodName × Nat) : Prop := (q.1.cls ≠ "java/lang/invoke/MethodHandle" ∧ q.1.cls ≠ "java/lang/invoke/VarHandle") ∧ Cond.instantiable q.1.cls q.2 ∈ tables_1 ∧ Cond.privateMethod q.1 ∈ tables_1 ∧ Cond.instanceMethod q.1 ∈ tables_1
theorem lw_p0 : lw_okq (⟨"AloneIsAQuantity", "refuse", "(I)I"⟩, 11) := ⟨⟨by decide +kernel, by decide +kernel⟩, List.mem_of_getElem? (i := 17) (by decide +kernel), List.mem_of_getElem? (i := 208) (by decide +kernel), List.mem_of_getElem? (i := 209) (by decide +kernel)⟩
theorem lw_p1 : lw_okq (⟨"AloneIsAQuantity$Text", "firstWrongLetter", "()I"⟩, 2) := ⟨⟨by decide +kernel, by decide +kernel⟩, List.mem_of_getElem? (i := 153) (by decide +kernel), List.mem_of_getElem? (i := 246) (by decide +kernel), List.mem_of_getElem? (i := 247) (by decide +kernel)⟩
theorem lw_p2 : lw_okq (⟨"AloneIsAQuantity$Text", "formAt", "(I)Ljava/lang/String;"⟩, 2) := ⟨⟨by decide +kernel, by decide +kernel⟩, List.mem_of_getElem? (i := 153) (by decide +kernel), List.mem_of_getElem? (i := 250) (by decide +kernel), List.mem_of_getElem? (i := 251) (by decide +kernel)⟩
theorem lw_p3 : lw_okq (⟨"AloneIsAQuantity$Text", "fits", "(II)Z"⟩, 2) := ⟨⟨by decide +kernel, by decide +kernel⟩, List.mem_of_getElem? (i := 153) (by decide +kernel), List.mem_of_getElem? (i := 314) (by decide +kernel), List.mem_of_getElem? (i := 315) (by decide +kernel)⟩
theorem lw_p4 : lw_okq (⟨"AloneIsAQuantity$Text", "kindOf", "(I)I"⟩, 2) := ⟨⟨by decide +kernel, by decide +kernel⟩, List.mem_of_getElem? (i := 153) (by decide +kernel), List.mem_of_getElem? (i := 318) (by decide +kernel), List.mem_of_getElem? (i := 319) (by decide +kernel)⟩
theorem lw_p5 : lw_okq (⟨"AloneIsAQuantity$Text", "sayTo", "(LAloneIsAQuantity$Moor;I)Z"⟩, 2) := ⟨⟨by decide +kernel, by decide +kernel⟩, List.mem_of_getElem? (i := 153) (by decide +kernel), List.mem_of_getElem? (i := 323) (by decide +kernel), List.mem_of_getElem? (i := 324) (by decide +kernel)⟩
theorem lw_p6 : lw_okq (⟨"AloneIsAQuantity$Text", "number", "(II)I"⟩, 2) := ⟨⟨by decide +kernel, by decide +kernel⟩, List.mem_of_getElem? (i := 153) (by decide +kernel), List.mem_of_getElem? (i := 327) (by decide +kernel), List.mem_of_getElem? (i := 328) (by decide +kernel)⟩
theorem lw_p7 : lw_okq (⟨"AloneIsAQuantity$Moor", "putLent", "(III)V"⟩, 13) := ⟨⟨by decide +kernel, by decide +kernel⟩, List.mem_of_getElem? (i := 25) (by decide +kernel), List.mem_of_getElem? (i := 343) (by decide +kernel), List.mem_of_getElem? (i := 344) (by decide +kernel)⟩
theorem lw_p8 : lw_okq (⟨"AloneIsAQuantity$Moor", "netLoans", "()V"⟩, 13) := ⟨⟨by decide +kernel, by decide +kernel⟩, List.mem_of_getElem? (i := 25) (by decide +kernel), List.mem_of_getElem? (i := 347) (by decide +kernel), List.mem_of_getElem? (i := 348) (by decide +kernel)⟩
theorem lw_p9 : lw_okq (⟨"AloneIsAQuantity$Moor", "weigh", "()V"⟩, 13) := ⟨⟨by decide +kernel, by decide +kernel⟩, List.mem_of_getElem? (i := 25) (by decide +kernel), List.mem_of_getElem? (i := 356) (by decide +kernel), List.mem_of_getElem? (i := 357) (by decide +kernel)⟩
theorem lw_p10 : lw_okq (⟨"AloneIsAQuantity$Moor", "weightNow", "(I)I"⟩, 13) := ⟨⟨by decide +kernel, by decide +kernel⟩, List.mem_of_getElem? (i := 25) (by decide +kernel), List.mem_of_getElem? (i := 360) (by decide +kernel), List.mem_of_getElem? (i := 361) (by decide +kernel)⟩
theorem lw_p11 : lw_okq (⟨"AloneIsAQuantity$Moor", "shareOut", "()V"⟩, 13) := ⟨⟨by decide +kernel, by decide +kernel⟩, List.mem_of_getElem? (i := 25) (by decide +kernel), List.mem_of_getElem? (i := 374) (by decide +kernel), List.mem_of_getElem? (i := 375) (by decide +kernel)⟩
theorem lw_p12 : lw_okq (⟨"AloneIsAQuantity", "refuseFar", "(I)I"⟩, 11) := ⟨⟨by decide +kernel, by decide +kernel⟩, List.mem_of_getElem? (i := 17) (by decide +kernel), List.mem_of_getElem? (i := 458) (by decide +kernel), List.mem_of_getElem? (i := 459) (by decide +kernel)⟩
theorem lw_p13 : lw_okq (⟨"AloneIsAQuantity$OtherMoors", "leastShareBeside", "(I)I"⟩, 5) := ⟨⟨by decide +kernel, by decide +kernel⟩, List.mem_of_getElem? (i := 98) (by decide +kernel), List.mem_of_getElem? (i := 570) (by decide +kernel), List.mem_of_getElem? (i := 571) (by decide +kernel)⟩
theorem lw_p14 : lw_okq (⟨"AloneIsAQuantity$OtherMoors", "numberWithout", "(II)I"⟩, 5) := ⟨⟨by decide +kernel, by decide +kernel⟩, List.mem_of_getElem? (i := 98) (by decide +kernel), List.mem_of_getElem? (i := 588) (by decide +kernel), List.mem_of_getElem? (i := 589) (by decide +kernel)⟩
theorem lw_p15 : lw_okq (⟨"AloneIsAQuantity$Lending", "cutBy", "(II)I"⟩, 4) := ⟨⟨by decide +kernel, by decide +kernel⟩, List.mem_of_getElem? (i := 132) (by decide +kernel), List.mem_of_getElem? (i := 652) (by decide +kernel), List.mem_of_getElem? (i := 653) (by decide +kernel)⟩
def lw_privs_1 : List (MethodName × Nat) := [(⟨"AloneIsAQuantity", "refuse", "(I)I"⟩, 11), (⟨"AloneIsAQuantity$Text", "firstWrongLetter", "()I"⟩, 2), (⟨"AloneIsAQuantity$Text", "formAt", "(I)Ljava/lang/String;"⟩, 2), (⟨"AloneIsAQuantity$Text", "fits", "(II)Z"⟩, 2), (⟨"AloneIsAQuantity$Text", "kindOf", "(I)I"⟩, 2), (⟨"AloneIsAQuantity$Text", "sayTo", "(LAloneIsAQuantity$Moor;I)Z"⟩, 2), (⟨"AloneIsAQuantity$Text", "number", "(II)I"⟩, 2), (⟨"AloneIsAQuantity$Moor", "putLent", "(III)V"⟩, 13), (⟨"AloneIsAQuantity$Moor", "netLoans", "()V"⟩, 13), (⟨"AloneIsAQuantity$Moor", "weigh", "()V"⟩, 13), (⟨"AloneIsAQuantity$Moor", "weightNow", "(I)I"⟩, 13), (⟨"AloneIsAQuantity$Moor", "shareOut", "()V"⟩, 13), (⟨"AloneIsAQuantity", "refuseFar", "(I)I"⟩, 11), (⟨"AloneIsAQuantity$OtherMoors", "leastShareBeside", "(I)I"⟩, 5), (⟨"AloneIsAQuantity$OtherMoors", "numberWithout", "(II)I"⟩, 5), (⟨"AloneIsAQuantity$Lending", "cutBy", "(II)I"⟩, 4)]
theorem lw_r1 : ∀ q ∈ lw_privs_1, lw_okq q := List.forall_mem_cons.mpr ⟨lw_p0, List.forall_mem_cons.mpr ⟨lw_p1, List.forall_mem_cons.mpr ⟨lw_p2, List.forall_mem_cons.mpr ⟨lw_p3, List.forall_mem_cons.mpr ⟨lw_p4, List.forall_mem_cons.mpr ⟨lw_p5, List.forall_mem_cons.mpr ⟨lw_p6, List.forall_mem_cons.mpr ⟨lw_p7, List.forall_mem_cons.mpr ⟨lw_p8, List.forall_mem_cons.mpr ⟨lw_p9, List.forall_mem_cons.mpr ⟨lw_p10, List.forall_mem_cons.mpr ⟨lw_p11, List.forall_mem_cons.mpr ⟨lw_p12, List.forall_mem_cons.mpr ⟨lw_p13, List.forall_mem_cons.mpr ⟨lw_p14, List.forall_mem_cons.mpr ⟨lw_p15, fun _ h => absurd h List.not_mem_nil⟩⟩⟩⟩⟩⟩⟩⟩⟩⟩⟩⟩⟩⟩⟩⟩
theorem lw_p16 : lw_okq (⟨"AloneIsAQuantity$Lending", "isNearGiverBeside", "(III)Z"⟩, 4) := ⟨⟨by decide +kernel, by decide +kernel⟩, List.mem_of_getElem? (i := 132) (by decide +kernel), List.mem_of_getElem? (i := 657) (by decide +kernel), List.mem_of_getElem? (i := 658) (by decide +kernel)⟩
theorem lw_p17 : lw_okq (⟨"AloneIsAQuantity$OtherMoors", "weighChoices", "(II)V"⟩, 5) := ⟨⟨by decide +kernel, by decide +kernel⟩, List.mem_of_getElem? (i := 98) (by decide +kernel), List.mem_of_getElem? (i := 722) (by decide +kernel), List.mem_of_getElem? (i := 723) (by decide +kernel)⟩
theorem lw_p18 : lw_okq (⟨"AloneIsAQuantity$OtherMoors", "chosenCell", "(II)I"⟩, 5) := ⟨⟨by decide +kernel, by decide +kernel⟩, List.mem_of_getElem? (i := 98) (by decide +kernel), List.mem_of_getElem? (i := 726) (by decide +kernel), List.mem_of_getElem? (i := 727) (by decide +kernel)⟩
theorem lw_p19 : lw_okq (⟨"AloneIsAQuantity$OtherMoors", "isSteady", "(II)Z"⟩, 5) := ⟨⟨by decide +kernel, by decide +kernel⟩, List.mem_of_getElem? (i := 98) (by decide +kernel), List.mem_of_getElem? (i := 731) (by decide +kernel), List.mem_of_getElem? (i := 732) (by decide +kernel)⟩
theorem lw_p20 : lw_okq (⟨"AloneIsAQuantity$OtherMoors", "sharesAreTold", "(LAloneIsAQuantity$Numbers;)Z"⟩, 5) := ⟨⟨by decide +kernel, by decide +kernel⟩, List.mem_of_getElem? (i := 98) (by decide +kernel), List.mem_of_getElem? (i := 788) (by decide +kernel), List.mem_of_getElem? (i := 789) (by decide +kernel)⟩
theorem lw_p21 : lw_okq (⟨"AloneIsAQuantity$OtherMoors", "placeAllByLot", "()V"⟩, 5) := ⟨⟨by decide +kernel, by decide +kernel⟩, List.mem_of_getElem? (i := 98) (by decide +kernel), List.mem_of_getElem? (i := 830) (by decide +kernel), List.mem_of_getElem? (i := 831) (by decide +kernel)⟩
theorem lw_p22 : lw_okq (⟨"AloneIsAQuantity$Moor", "allOf", "(LAloneIsAQuantity$Numbers;)I"⟩, 13) := ⟨⟨by decide +kernel, by decide +kernel⟩, List.mem_of_getElem? (i := 25) (by decide +kernel), List.mem_of_getElem? (i := 865) (by decide +kernel), List.mem_of_getElem? (i := 866) (by decide +kernel)⟩
theorem lw_p23 : lw_okq (⟨"AloneIsAQuantityModel", "no", "(I)I"⟩, 31) := ⟨⟨by decide +kernel, by decide +kernel⟩, List.mem_of_getElem? (i := 877) (by decide +kernel), List.mem_of_getElem? (i := 984) (by decide +kernel), List.mem_of_getElem? (i := 985) (by decide +kernel)⟩
theorem lw_p24 : lw_okq (⟨"AloneIsAQuantityModel", "statement", "()Z"⟩, 31) := ⟨⟨by decide +kernel, by decide +kernel⟩, List.mem_of_getElem? (i := 877) (by decide +kernel), List.mem_of_getElem? (i := 992) (by decide +kernel), List.mem_of_getElem? (i := 993) (by decide +kernel)⟩
theorem lw_p25 : lw_okq (⟨"AloneIsAQuantityModel", "next", "()I"⟩, 31) := ⟨⟨by decide +kernel, by decide +kernel⟩, List.mem_of_getElem? (i := 877) (by decide +kernel), List.mem_of_getElem? (i := 996) (by decide +kernel), List.mem_of_getElem? (i := 997) (by decide +kernel)⟩
theorem lw_p26 : lw_okq (⟨"AloneIsAQuantityModel", "readsAll", "(II)Z"⟩, 31) := ⟨⟨by decide +kernel, by decide +kernel⟩, List.mem_of_getElem? (i := 877) (by decide +kernel), List.mem_of_getElem? (i := 1000) (by decide +kernel), List.mem_of_getElem? (i := 1001) (by decide +kernel)⟩
theorem lw_p27 : lw_okq (⟨"AloneIsAQuantityModel", "readsKind", "(I)Z"⟩, 31) := ⟨⟨by decide +kernel, by decide +kernel⟩, List.mem_of_getElem? (i := 877) (by decide +kernel), List.mem_of_getElem? (i := 1004) (by decide +kernel), List.mem_of_getElem? (i := 1005) (by decide +kernel)⟩
theorem lw_p28 : lw_okq (⟨"AloneIsAQuantityModel", "readsDigits", "(II)Z"⟩, 31) := ⟨⟨by decide +kernel, by decide +kernel⟩, List.mem_of_getElem? (i := 877) (by decide +kernel), List.mem_of_getElem? (i := 1011) (by decide +kernel), List.mem_of_getElem? (i := 1012) (by decide +kernel)⟩
theorem lw_p29 : lw_okq (⟨"AloneIsAQuantityModel", "passesAll", "(IZ)V"⟩, 31) := ⟨⟨by decide +kernel, by decide +kernel⟩, List.mem_of_getElem? (i := 877) (by decide +kernel), List.mem_of_getElem? (i := 1018) (by decide +kernel), List.mem_of_getElem? (i := 1019) (by decide +kernel)⟩
theorem lw_p30 : lw_okq (⟨"AloneIsAQuantityModel", "passes", "([I)V"⟩, 31) := ⟨⟨by decide +kernel, by decide +kernel⟩, List.mem_of_getElem? (i := 877) (by decide +kernel), List.mem_of_getElem? (i := 1022) (by decide +kernel), List.mem_of_getElem? (i := 1023) (by decide +kernel)⟩
theorem lw_p31 : lw_okq (⟨"AloneIsAQuantityModel", "passOne", "(I)I"⟩, 31) := ⟨⟨by decide +kernel, by decide +kernel⟩, List.mem_of_getElem? (i := 877) (by decide +kernel), List.mem_of_getElem? (i := 1026) (by decide +kernel), List.mem_of_getElem? (i := 1027) (by decide +kernel)⟩
def lw_privs_2 : List (MethodName × Nat) := [(⟨"AloneIsAQuantity$Lending", "isNearGiverBeside", "(III)Z"⟩, 4), (⟨"AloneIsAQuantity$OtherMoors", "weighChoices", "(II)V"⟩, 5), (⟨"AloneIsAQuantity$OtherMoors", "chosenCell", "(II)I"⟩, 5), (⟨"AloneIsAQuantity$OtherMoors", "isSteady", "(II)Z"⟩, 5), (⟨"AloneIsAQuantity$OtherMoors", "sharesAreTold", "(LAloneIsAQuantity$Numbers;)Z"⟩, 5), (⟨"AloneIsAQuantity$OtherMoors", "placeAllByLot", "()V"⟩, 5), (⟨"AloneIsAQuantity$Moor", "allOf", "(LAloneIsAQuantity$Numbers;)I"⟩, 13), (⟨"AloneIsAQuantityModel", "no", "(I)I"⟩, 31), (⟨"AloneIsAQuantityModel", "statement", "()Z"⟩, 31), (⟨"AloneIsAQuantityModel", "next", "()I"⟩, 31), (⟨"AloneIsAQuantityModel", "readsAll", "(II)Z"⟩, 31), (⟨"AloneIsAQuantityModel", "readsKind", "(I)Z"⟩, 31), (⟨"AloneIsAQuantityModel", "readsDigits", "(II)Z"⟩, 31), (⟨"AloneIsAQuantityModel", "passesAll", "(IZ)V"⟩, 31), (⟨"AloneIsAQuantityModel", "passes", "([I)V"⟩, 31), (⟨"AloneIsAQuantityModel", "passOne", "(I)I"⟩, 31)]
theorem lw_r2 : ∀ q ∈ lw_privs_2, lw_okq q := List.forall_mem_cons.mpr ⟨lw_p16, List.forall_mem_cons.mpr ⟨lw_p17, List.forall_mem_cons.mpr ⟨lw_p18, List.forall_mem_cons.mpr ⟨lw_p19, List.forall_mem_cons.mpr ⟨lw_p20, List.forall_mem_cons.mpr ⟨lw_p21, List.forall_mem_cons.mpr ⟨lw_p22, List.forall_mem_cons.mpr ⟨lw_p23, List.forall_mem_cons.mpr ⟨lw_p24, List.forall_mem_cons.mpr ⟨lw_p25, List.forall_mem_cons.mpr ⟨lw_p26, List.forall_mem_cons.mpr ⟨lw_p27, List.forall_mem_cons.mpr ⟨lw_p28, List.forall_mem_cons.mpr ⟨lw_p29, List.forall_mem_cons.mpr ⟨lw_p30, List.forall_mem_cons.mpr ⟨lw_p31, fun _ h => absurd h List.not_mem_nil⟩⟩⟩⟩⟩⟩⟩⟩⟩⟩⟩⟩⟩⟩⟩⟩
theorem lw_p32 : lw_okq (⟨"AloneIsAQuantityModel", "comes", "(I)Z"⟩, 31) := ⟨⟨by decide +kernel, by decide +kernel⟩, List.mem_of_getElem? (i := 877) (by decide +kernel), List.mem_of_getElem? (i := 1030) (by decide +kernel), List.mem_of_getElem? (i := 1031) (by decide +kernel)⟩
theorem lw_p33 : lw_okq (⟨"AloneIsAQuantityModel", "comesOne", "(I)Z"⟩, 31) := ⟨⟨by decide +kernel, by decide +kernel⟩, List.mem_of_getElem? (i := 877) (by decide +kernel), List.mem_of_getElem? (i := 1034) (by decide +kernel), List.mem_of_getElem? (i := 1035) (by decide +kernel)⟩
theorem lw_p34 : lw_okq (⟨"AloneIsAQuantityModel", "adds", "(IIII)V"⟩, 31) := ⟨⟨by decide +kernel, by decide +kernel⟩, List.mem_of_getElem? (i := 877) (by decide +kernel), List.mem_of_getElem? (i := 1041) (by decide +kernel), List.mem_of_getElem? (i := 1042) (by decide +kernel)⟩
theorem lw_p35 : lw_okq (⟨"AloneIsAQuantityModel", "isOne", "(I)Z"⟩, 31) := ⟨⟨by decide +kernel, by decide +kernel⟩, List.mem_of_getElem? (i := 877) (by decide +kernel), List.mem_of_getElem? (i := 1045) (by decide +kernel), List.mem_of_getElem? (i := 1046) (by decide +kernel)⟩
theorem lw_p36 : lw_okq (⟨"AloneIsAQuantityModel", "areTwo", "(II)Z"⟩, 31) := ⟨⟨by decide +kernel, by decide +kernel⟩, List.mem_of_getElem? (i := 877) (by decide +kernel), List.mem_of_getElem? (i := 1049) (by decide +kernel), List.mem_of_getElem? (i := 1050) (by decide +kernel)⟩
theorem lw_p37 : lw_okq (⟨"AloneIsAQuantityModel", "comesDays", "(I)Z"⟩, 31) := ⟨⟨by decide +kernel, by decide +kernel⟩, List.mem_of_getElem? (i := 877) (by decide +kernel), List.mem_of_getElem? (i := 1053) (by decide +kernel), List.mem_of_getElem? (i := 1054) (by decide +kernel)⟩
theorem lw_p38 : lw_okq (⟨"AloneIsAQuantityModel", "goesDay", "(II)V"⟩, 31) := ⟨⟨by decide +kernel, by decide +kernel⟩, List.mem_of_getElem? (i := 877) (by decide +kernel), List.mem_of_getElem? (i := 1057) (by decide +kernel), List.mem_of_getElem? (i := 1058) (by decide +kernel)⟩
theorem lw_p39 : lw_okq (⟨"AloneIsAQuantityModel", "findShares", "()V"⟩, 31) := ⟨⟨by decide +kernel, by decide +kernel⟩, List.mem_of_getElem? (i := 877) (by decide +kernel), List.mem_of_getElem? (i := 1061) (by decide +kernel), List.mem_of_getElem? (i := 1062) (by decide +kernel)⟩
theorem lw_p40 : lw_okq (⟨"AloneIsAQuantityModel", "allWeights", "()I"⟩, 31) := ⟨⟨by decide +kernel, by decide +kernel⟩, List.mem_of_getElem? (i := 877) (by decide +kernel), List.mem_of_getElem? (i := 1065) (by decide +kernel), List.mem_of_getElem? (i := 1066) (by decide +kernel)⟩
theorem lw_p41 : lw_okq (⟨"AloneIsAQuantityModel", "isThere", "(I)Z"⟩, 31) := ⟨⟨by decide +kernel, by decide +kernel⟩, List.mem_of_getElem? (i := 877) (by decide +kernel), List.mem_of_getElem? (i := 1069) (by decide +kernel), List.mem_of_getElem? (i := 1070) (by decide +kernel)⟩
theorem lw_p42 : lw_okq (⟨"AloneIsAQuantityModel", "weightOf", "(I)I"⟩, 31) := ⟨⟨by decide +kernel, by decide +kernel⟩, List.mem_of_getElem? (i := 877) (by decide +kernel), List.mem_of_getElem? (i := 1076) (by decide +kernel), List.mem_of_getElem? (i := 1077) (by decide +kernel)⟩
theorem lw_p43 : lw_okq (⟨"AloneIsAQuantityModel", "stepsOf", "(I)I"⟩, 31) := ⟨⟨by decide +kernel, by decide +kernel⟩, List.mem_of_getElem? (i := 877) (by decide +kernel), List.mem_of_getElem? (i := 1080) (by decide +kernel), List.mem_of_getElem? (i := 1081) (by decide +kernel)⟩
theorem lw_p44 : lw_okq (⟨"AloneIsAQuantityModel", "isLonely", "(I)Z"⟩, 31) := ⟨⟨by decide +kernel, by decide +kernel⟩, List.mem_of_getElem? (i := 877) (by decide +kernel), List.mem_of_getElem? (i := 1093) (by decide +kernel), List.mem_of_getElem? (i := 1094) (by decide +kernel)⟩
theorem lw_p45 : lw_okq (⟨"AloneIsAQuantityModel", "hasNow", "(I)I"⟩, 31) := ⟨⟨by decide +kernel, by decide +kernel⟩, List.mem_of_getElem? (i := 877) (by decide +kernel), List.mem_of_getElem? (i := 1097) (by decide +kernel), List.mem_of_getElem? (i := 1098) (by decide +kernel)⟩
theorem lw_p46 : lw_okq (⟨"AloneIsAQuantityModel", "netOf", "(I)I"⟩, 31) := ⟨⟨by decide +kernel, by decide +kernel⟩, List.mem_of_getElem? (i := 877) (by decide +kernel), List.mem_of_getElem? (i := 1101) (by decide +kernel), List.mem_of_getElem? (i := 1102) (by decide +kernel)⟩
theorem lw_p47 : lw_okq (⟨"AloneIsAQuantityModel", "lower", "(I)I"⟩, 31) := ⟨⟨by decide +kernel, by decide +kernel⟩, List.mem_of_getElem? (i := 877) (by decide +kernel), List.mem_of_getElem? (i := 1121) (by decide +kernel), List.mem_of_getElem? (i := 1122) (by decide +kernel)⟩
def lw_privs_3 : List (MethodName × Nat) := [(⟨"AloneIsAQuantityModel", "comes", "(I)Z"⟩, 31), (⟨"AloneIsAQuantityModel", "comesOne", "(I)Z"⟩, 31), (⟨"AloneIsAQuantityModel", "adds", "(IIII)V"⟩, 31), (⟨"AloneIsAQuantityModel", "isOne", "(I)Z"⟩, 31), (⟨"AloneIsAQuantityModel", "areTwo", "(II)Z"⟩, 31), (⟨"AloneIsAQuantityModel", "comesDays", "(I)Z"⟩, 31), (⟨"AloneIsAQuantityModel", "goesDay", "(II)V"⟩, 31), (⟨"AloneIsAQuantityModel", "findShares", "()V"⟩, 31), (⟨"AloneIsAQuantityModel", "allWeights", "()I"⟩, 31), (⟨"AloneIsAQuantityModel", "isThere", "(I)Z"⟩, 31), (⟨"AloneIsAQuantityModel", "weightOf", "(I)I"⟩, 31), (⟨"AloneIsAQuantityModel", "stepsOf", "(I)I"⟩, 31), (⟨"AloneIsAQuantityModel", "isLonely", "(I)Z"⟩, 31), (⟨"AloneIsAQuantityModel", "hasNow", "(I)I"⟩, 31), (⟨"AloneIsAQuantityModel", "netOf", "(I)I"⟩, 31), (⟨"AloneIsAQuantityModel", "lower", "(I)I"⟩, 31)]
theorem lw_r3 : ∀ q ∈ lw_privs_3, lw_okq q := List.forall_mem_cons.mpr ⟨lw_p32, List.forall_mem_cons.mpr ⟨lw_p33, List.forall_mem_cons.mpr ⟨lw_p34, List.forall_mem_cons.mpr ⟨lw_p35, List.forall_mem_cons.mpr ⟨lw_p36, List.forall_mem_cons.mpr ⟨lw_p37, List.forall_mem_cons.mpr ⟨lw_p38, List.forall_mem_cons.mpr ⟨lw_p39, List.forall_mem_cons.mpr ⟨lw_p40, List.forall_mem_cons.mpr ⟨lw_p41, List.forall_mem_cons.mpr ⟨lw_p42, List.forall_mem_cons.mpr ⟨lw_p43, List.forall_mem_cons.mpr ⟨lw_p44, List.forall_mem_cons.mpr ⟨lw_p45, List.forall_mem_cons.mpr ⟨lw_p46, List.forall_mem_cons.mpr ⟨lw_p47, fun _ h => absurd h List.not_mem_nil⟩⟩⟩⟩⟩⟩⟩⟩⟩⟩⟩⟩⟩⟩⟩⟩
theorem lw_p48 : lw_okq (⟨"AloneIsAQuantityModel", "thinks", "()V"⟩, 31) := ⟨⟨by decide +kernel, by decide +kernel⟩, List.mem_of_getElem? (i := 877) (by decide +kernel), List.mem_of_getElem? (i := 1158) (by decide +kernel), List.mem_of_getElem? (i := 1159) (by decide +kernel)⟩
theorem lw_p49 : lw_okq (⟨"AloneIsAQuantityModel", "noShorts", "()V"⟩, 31) := ⟨⟨by decide +kernel, by decide +kernel⟩, List.mem_of_getElem? (i := 877) (by decide +kernel), List.mem_of_getElem? (i := 1162) (by decide +kernel), List.mem_of_getElem? (i := 1163) (by decide +kernel)⟩
theorem lw_p50 : lw_okq (⟨"AloneIsAQuantityModel", "forgets", "()V"⟩, 31) := ⟨⟨by decide +kernel, by decide +kernel⟩, List.mem_of_getElem? (i := 877) (by decide +kernel), List.mem_of_getElem? (i := 1166) (by decide +kernel), List.mem_of_getElem? (i := 1167) (by decide +kernel)⟩
theorem lw_p51 : lw_okq (⟨"AloneIsAQuantityModel", "shortOn", "(I)I"⟩, 31) := ⟨⟨by decide +kernel, by decide +kernel⟩, List.mem_of_getElem? (i := 877) (by decide +kernel), List.mem_of_getElem? (i := 1174) (by decide +kernel), List.mem_of_getElem? (i := 1175) (by decide +kernel)⟩
theorem lw_p52 : lw_okq (⟨"AloneIsAQuantityModel", "leastOfOthers", "(I)I"⟩, 31) := ⟨⟨by decide +kernel, by decide +kernel⟩, List.mem_of_getElem? (i := 877) (by decide +kernel), List.mem_of_getElem? (i := 1186) (by decide +kernel), List.mem_of_getElem? (i := 1187) (by decide +kernel)⟩
theorem lw_p53 : lw_okq (⟨"AloneIsAQuantityModel", "takesFrom", "(II)I"⟩, 31) := ⟨⟨by decide +kernel, by decide +kernel⟩, List.mem_of_getElem? (i := 877) (by decide +kernel), List.mem_of_getElem? (i := 1194) (by decide +kernel), List.mem_of_getElem? (i := 1195) (by decide +kernel)⟩
theorem lw_p54 : lw_okq (⟨"AloneIsAQuantityModel", "sharesOfFirst", "(I)I"⟩, 31) := ⟨⟨by decide +kernel, by decide +kernel⟩, List.mem_of_getElem? (i := 877) (by decide +kernel), List.mem_of_getElem? (i := 1206) (by decide +kernel), List.mem_of_getElem? (i := 1207) (by decide +kernel)⟩
theorem lw_p55 : lw_okq (⟨"AloneIsAQuantityModel", "gladBy", "(I)I"⟩, 31) := ⟨⟨by decide +kernel, by decide +kernel⟩, List.mem_of_getElem? (i := 877) (by decide +kernel), List.mem_of_getElem? (i := 1214) (by decide +kernel), List.mem_of_getElem? (i := 1215) (by decide +kernel)⟩
theorem lw_p56 : lw_okq (⟨"AloneIsAQuantityModel", "cutBy", "(II)I"⟩, 31) := ⟨⟨by decide +kernel, by decide +kernel⟩, List.mem_of_getElem? (i := 877) (by decide +kernel), List.mem_of_getElem? (i := 1226) (by decide +kernel), List.mem_of_getElem? (i := 1227) (by decide +kernel)⟩
theorem lw_p57 : lw_okq (⟨"AloneIsAQuantityModel", "lackOf", "(I)I"⟩, 31) := ⟨⟨by decide +kernel, by decide +kernel⟩, List.mem_of_getElem? (i := 877) (by decide +kernel), List.mem_of_getElem? (i := 1230) (by decide +kernel), List.mem_of_getElem? (i := 1231) (by decide +kernel)⟩
theorem lw_p58 : lw_okq (⟨"AloneIsAQuantityModel", "isNearOne", "(III)Z"⟩, 31) := ⟨⟨by decide +kernel, by decide +kernel⟩, List.mem_of_getElem? (i := 877) (by decide +kernel), List.mem_of_getElem? (i := 1234) (by decide +kernel), List.mem_of_getElem? (i := 1235) (by decide +kernel)⟩
theorem lw_p59 : lw_okq (⟨"AloneIsAQuantityModel", "overOf", "(I)I"⟩, 31) := ⟨⟨by decide +kernel, by decide +kernel⟩, List.mem_of_getElem? (i := 877) (by decide +kernel), List.mem_of_getElem? (i := 1238) (by decide +kernel), List.mem_of_getElem? (i := 1239) (by decide +kernel)⟩
theorem lw_p60 : lw_okq (⟨"AloneIsAQuantityModel", "fewestLoans", "()I"⟩, 31) := ⟨⟨by decide +kernel, by decide +kernel⟩, List.mem_of_getElem? (i := 877) (by decide +kernel), List.mem_of_getElem? (i := 1250) (by decide +kernel), List.mem_of_getElem? (i := 1251) (by decide +kernel)⟩
theorem lw_p61 : lw_okq (⟨"AloneIsAQuantityModel", "netsOf", "(I)I"⟩, 31) := ⟨⟨by decide +kernel, by decide +kernel⟩, List.mem_of_getElem? (i := 877) (by decide +kernel), List.mem_of_getElem? (i := 1254) (by decide +kernel), List.mem_of_getElem? (i := 1255) (by decide +kernel)⟩
theorem lw_p62 : lw_okq (⟨"AloneIsAQuantityModel", "surveyIn", "(I)I"⟩, 31) := ⟨⟨by decide +kernel, by decide +kernel⟩, List.mem_of_getElem? (i := 877) (by decide +kernel), List.mem_of_getElem? (i := 1262) (by decide +kernel), List.mem_of_getElem? (i := 1263) (by decide +kernel)⟩
theorem lw_p63 : lw_okq (⟨"AloneIsAQuantityModel", "shareIn", "(II)I"⟩, 31) := ⟨⟨by decide +kernel, by decide +kernel⟩, List.mem_of_getElem? (i := 877) (by decide +kernel), List.mem_of_getElem? (i := 1274) (by decide +kernel), List.mem_of_getElem? (i := 1275) (by decide +kernel)⟩
def lw_privs_4 : List (MethodName × Nat) := [(⟨"AloneIsAQuantityModel", "thinks", "()V"⟩, 31), (⟨"AloneIsAQuantityModel", "noShorts", "()V"⟩, 31), (⟨"AloneIsAQuantityModel", "forgets", "()V"⟩, 31), (⟨"AloneIsAQuantityModel", "shortOn", "(I)I"⟩, 31), (⟨"AloneIsAQuantityModel", "leastOfOthers", "(I)I"⟩, 31), (⟨"AloneIsAQuantityModel", "takesFrom", "(II)I"⟩, 31), (⟨"AloneIsAQuantityModel", "sharesOfFirst", "(I)I"⟩, 31), (⟨"AloneIsAQuantityModel", "gladBy", "(I)I"⟩, 31), (⟨"AloneIsAQuantityModel", "cutBy", "(II)I"⟩, 31), (⟨"AloneIsAQuantityModel", "lackOf", "(I)I"⟩, 31), (⟨"AloneIsAQuantityModel", "isNearOne", "(III)Z"⟩, 31), (⟨"AloneIsAQuantityModel", "overOf", "(I)I"⟩, 31), (⟨"AloneIsAQuantityModel", "fewestLoans", "()I"⟩, 31), (⟨"AloneIsAQuantityModel", "netsOf", "(I)I"⟩, 31), (⟨"AloneIsAQuantityModel", "surveyIn", "(I)I"⟩, 31), (⟨"AloneIsAQuantityModel", "shareIn", "(II)I"⟩, 31)]
theorem lw_r4 : ∀ q ∈ lw_privs_4, lw_okq q := List.forall_mem_cons.mpr ⟨lw_p48, List.forall_mem_cons.mpr ⟨lw_p49, List.forall_mem_cons.mpr ⟨lw_p50, List.forall_mem_cons.mpr ⟨lw_p51, List.forall_mem_cons.mpr ⟨lw_p52, List.forall_mem_cons.mpr ⟨lw_p53, List.forall_mem_cons.mpr ⟨lw_p54, List.forall_mem_cons.mpr ⟨lw_p55, List.forall_mem_cons.mpr ⟨lw_p56, List.forall_mem_cons.mpr ⟨lw_p57, List.forall_mem_cons.mpr ⟨lw_p58, List.forall_mem_cons.mpr ⟨lw_p59, List.forall_mem_cons.mpr ⟨lw_p60, List.forall_mem_cons.mpr ⟨lw_p61, List.forall_mem_cons.mpr ⟨lw_p62, List.forall_mem_cons.mpr ⟨lw_p63, fun _ h => absurd h List.not_mem_nil⟩⟩⟩⟩⟩⟩⟩⟩⟩⟩⟩⟩⟩⟩⟩⟩
theorem lw_p64 : lw_okq (⟨"AloneIsAQuantityModel", "findWays", "(II)V"⟩, 31) := ⟨⟨by decide +kernel, by decide +kernel⟩, List.mem_of_getElem? (i := 877) (by decide +kernel), List.mem_of_getElem? (i := 1282) (by decide +kernel), List.mem_of_getElem? (i := 1283) (by decide +kernel)⟩
theorem lw_p65 : lw_okq (⟨"AloneIsAQuantityModel", "rests", "(I)Z"⟩, 31) := ⟨⟨by decide +kernel, by decide +kernel⟩, List.mem_of_getElem? (i := 877) (by decide +kernel), List.mem_of_getElem? (i := 1289) (by decide +kernel), List.mem_of_getElem? (i := 1290) (by decide +kernel)⟩
theorem lw_p66 : lw_okq (⟨"AloneIsAQuantityModel", "isRich", "()Z"⟩, 31) := ⟨⟨by decide +kernel, by decide +kernel⟩, List.mem_of_getElem? (i := 877) (by decide +kernel), List.mem_of_getElem? (i := 1301) (by decide +kernel), List.mem_of_getElem? (i := 1302) (by decide +kernel)⟩
theorem lw_p67 : lw_okq (⟨"AloneIsAQuantityModel", "bitsFor", "([III)I"⟩, 31) := ⟨⟨by decide +kernel, by decide +kernel⟩, List.mem_of_getElem? (i := 877) (by decide +kernel), List.mem_of_getElem? (i := 1313) (by decide +kernel), List.mem_of_getElem? (i := 1314) (by decide +kernel)⟩
theorem lw_p68 : lw_okq (⟨"AloneIsAQuantityModel", "isSo", "()Z"⟩, 31) := ⟨⟨by decide +kernel, by decide +kernel⟩, List.mem_of_getElem? (i := 877) (by decide +kernel), List.mem_of_getElem? (i := 1317) (by decide +kernel), List.mem_of_getElem? (i := 1318) (by decide +kernel)⟩
def lw_privs_5 : List (MethodName × Nat) := [(⟨"AloneIsAQuantityModel", "findWays", "(II)V"⟩, 31), (⟨"AloneIsAQuantityModel", "rests", "(I)Z"⟩, 31), (⟨"AloneIsAQuantityModel", "isRich", "()Z"⟩, 31), (⟨"AloneIsAQuantityModel", "bitsFor", "([III)I"⟩, 31), (⟨"AloneIsAQuantityModel", "isSo", "()Z"⟩, 31)]
theorem lw_r5 : ∀ q ∈ lw_privs_5, lw_okq q := List.forall_mem_cons.mpr ⟨lw_p64, List.forall_mem_cons.mpr ⟨lw_p65, List.forall_mem_cons.mpr ⟨lw_p66, List.forall_mem_cons.mpr ⟨lw_p67, List.forall_mem_cons.mpr ⟨lw_p68, fun _ h => absurd h List.not_mem_nil⟩⟩⟩⟩⟩
def lw_privs : List (MethodName × Nat) := lw_privs_1 ++ (lw_privs_2 ++ (lw_privs_3 ++ (lw_privs_4 ++ (lw_privs_5))))
def lw_tbl : List Cond := k2_sels lw_privs ++ tables_1
theorem lw_privs_ok : ∀ q ∈ lw_privs, lw_okq q := by
  show ∀ q ∈ lw_privs_1 ++ (lw_privs_2 ++ (lw_privs_3 ++ (lw_privs_4 ++ (lw_privs_5)))), lw_okq q
  exact List.forall_mem_append.mpr ⟨lw_r1, List.forall_mem_append.mpr ⟨lw_r2, List.forall_mem_append.mpr ⟨lw_r3, List.forall_mem_append.mpr ⟨lw_r4, lw_r5⟩⟩⟩⟩
-- ===== end of PART A; then your names; then what follows =====
end
section
/-! The classes of the program, the words of the tables that a method needs; laid by gen_names.py -/
def RJ0 : String := "java/lang/String"
def RJ1 : String := "java/lang/StringLatin1"
def RJ2 : String := "java/lang/StringUTF16"
def RJ3 : String := "jdk/internal/util/Preconditions"
def RJ6 : String := "java/lang/Integer"
def RJ9 : String := "java/lang/Math"
def RX0 : String := "AloneIsAQuantity$DaysToCome"
def RX1 : String := "AloneIsAQuantity$Draw"
def RX2 : String := "AloneIsAQuantity$Lending"
def RX3 : String := "AloneIsAQuantity$Moor"
def RX4 : String := "AloneIsAQuantity$Numbers"
def RX5 : String := "AloneIsAQuantity$OtherMoors"
def RX6 : String := "AloneIsAQuantity$Text"
def RX7 : String := "AloneIsAQuantity"
def RX8 : String := "AloneIsAQuantityModel"
def TX0 : u_T := fun k => match k with
  | 0 => ("AloneIsAQuantity$DaysToCome", "moor", "LAloneIsAQuantity$Moor;", true)
  | _ => ("AloneIsAQuantity$DaysToCome", "thought", "LAloneIsAQuantity$Moor;", true)
def tyX0 : Nat → FieldType := fun k => match k with
  | 0 => (.object "AloneIsAQuantity$Moor")
  | _ => (.object "AloneIsAQuantity$Moor")
theorem nmX0 : ∀ a, a < 2 → ∀ b, b < 2 → a ≠ b → (TX0 a).2.1 ≠ (TX0 b).2.1 := by decide +kernel
theorem tyokX0 : ∀ k, k < 2 → parseFieldDescriptor (TX0 k).2.2.1 = some (tyX0 k) := by decide +kernel
def TX1 : u_T := fun k => match k with
  | _ => ("AloneIsAQuantity$Draw", "z", "I", false)
def tyX1 : Nat → FieldType := fun k => match k with
  | _ => .int
theorem nmX1 : ∀ a, a < 1 → ∀ b, b < 1 → a ≠ b → (TX1 a).2.1 ≠ (TX1 b).2.1 := by decide +kernel
theorem tyokX1 : ∀ k, k < 1 → parseFieldDescriptor (TX1 k).2.2.1 = some (tyX1 k) := by decide +kernel
def TX2 : u_T := fun k => match k with
  | 0 => ("AloneIsAQuantity$Lending", "moor", "LAloneIsAQuantity$Moor;", true)
  | 1 => ("AloneIsAQuantity$Lending", "spares", "LAloneIsAQuantity$Numbers;", true)
  | 2 => ("AloneIsAQuantity$Lending", "lacks", "LAloneIsAQuantity$Numbers;", true)
  | _ => ("AloneIsAQuantity$Lending", "groups", "LAloneIsAQuantity$Numbers;", true)
def tyX2 : Nat → FieldType := fun k => match k with
  | 0 => (.object "AloneIsAQuantity$Moor")
  | 1 => (.object "AloneIsAQuantity$Numbers")
  | 2 => (.object "AloneIsAQuantity$Numbers")
  | _ => (.object "AloneIsAQuantity$Numbers")
theorem nmX2 : ∀ a, a < 4 → ∀ b, b < 4 → a ≠ b → (TX2 a).2.1 ≠ (TX2 b).2.1 := by decide +kernel
theorem tyokX2 : ∀ k, k < 4 → parseFieldDescriptor (TX2 k).2.2.1 = some (tyX2 k) := by decide +kernel
def TX3 : u_T := fun k => match k with
  | 0 => ("AloneIsAQuantity$Moor", "kinds", "LAloneIsAQuantity$Numbers;", true)
  | 1 => ("AloneIsAQuantity$Moor", "figures", "LAloneIsAQuantity$Numbers;", true)
  | 2 => ("AloneIsAQuantity$Moor", "cells", "LAloneIsAQuantity$Numbers;", true)
  | 3 => ("AloneIsAQuantity$Moor", "needs", "LAloneIsAQuantity$Numbers;", true)
  | 4 => ("AloneIsAQuantity$Moor", "kepts", "LAloneIsAQuantity$Numbers;", true)
  | 5 => ("AloneIsAQuantity$Moor", "lents", "LAloneIsAQuantity$Numbers;", true)
  | 6 => ("AloneIsAQuantity$Moor", "nets", "LAloneIsAQuantity$Numbers;", true)
  | 7 => ("AloneIsAQuantity$Moor", "weights", "LAloneIsAQuantity$Numbers;", true)
  | 8 => ("AloneIsAQuantity$Moor", "shares", "LAloneIsAQuantity$Numbers;", true)
  | 9 => ("AloneIsAQuantity$Moor", "people", "I", false)
  | 10 => ("AloneIsAQuantity$Moor", "total", "I", false)
  | 11 => ("AloneIsAQuantity$Moor", "day", "I", false)
  | _ => ("AloneIsAQuantity$Moor", "weightOfAll", "I", false)
def tyX3 : Nat → FieldType := fun k => match k with
  | 0 => (.object "AloneIsAQuantity$Numbers")
  | 1 => (.object "AloneIsAQuantity$Numbers")
  | 2 => (.object "AloneIsAQuantity$Numbers")
  | 3 => (.object "AloneIsAQuantity$Numbers")
  | 4 => (.object "AloneIsAQuantity$Numbers")
  | 5 => (.object "AloneIsAQuantity$Numbers")
  | 6 => (.object "AloneIsAQuantity$Numbers")
  | 7 => (.object "AloneIsAQuantity$Numbers")
  | 8 => (.object "AloneIsAQuantity$Numbers")
  | 9 => .int
  | 10 => .int
  | 11 => .int
  | _ => .int
theorem nmX3 : ∀ a, a < 13 → ∀ b, b < 13 → a ≠ b → (TX3 a).2.1 ≠ (TX3 b).2.1 := by decide +kernel
theorem tyokX3 : ∀ k, k < 13 → parseFieldDescriptor (TX3 k).2.2.1 = some (tyX3 k) := by decide +kernel
def TX4 : u_T := fun k => match k with
  | _ => ("AloneIsAQuantity$Numbers", "all", "[I", true)
def tyX4 : Nat → FieldType := fun k => match k with
  | _ => (.array .int)
theorem nmX4 : ∀ a, a < 1 → ∀ b, b < 1 → a ≠ b → (TX4 a).2.1 ≠ (TX4 b).2.1 := by decide +kernel
theorem tyokX4 : ∀ k, k < 1 → parseFieldDescriptor (TX4 k).2.2.1 = some (tyX4 k) := by decide +kernel
def TX5 : u_T := fun k => match k with
  | 0 => ("AloneIsAQuantity$OtherMoors", "moor", "LAloneIsAQuantity$Moor;", true)
  | 1 => ("AloneIsAQuantity$OtherMoors", "thought", "LAloneIsAQuantity$Moor;", true)
  | 2 => ("AloneIsAQuantity$OtherMoors", "draw", "LAloneIsAQuantity$Draw;", true)
  | 3 => ("AloneIsAQuantity$OtherMoors", "firstShares", "LAloneIsAQuantity$Numbers;", true)
  | _ => ("AloneIsAQuantity$OtherMoors", "secondShares", "LAloneIsAQuantity$Numbers;", true)
def tyX5 : Nat → FieldType := fun k => match k with
  | 0 => (.object "AloneIsAQuantity$Moor")
  | 1 => (.object "AloneIsAQuantity$Moor")
  | 2 => (.object "AloneIsAQuantity$Draw")
  | 3 => (.object "AloneIsAQuantity$Numbers")
  | _ => (.object "AloneIsAQuantity$Numbers")
theorem nmX5 : ∀ a, a < 5 → ∀ b, b < 5 → a ≠ b → (TX5 a).2.1 ≠ (TX5 b).2.1 := by decide +kernel
theorem tyokX5 : ∀ k, k < 5 → parseFieldDescriptor (TX5 k).2.2.1 = some (tyX5 k) := by decide +kernel
def TX6 : u_T := fun k => match k with
  | 0 => ("AloneIsAQuantity$Text", "letters", "LAloneIsAQuantity$Numbers;", true)
  | _ => ("AloneIsAQuantity$Text", "length", "I", false)
def tyX6 : Nat → FieldType := fun k => match k with
  | 0 => (.object "AloneIsAQuantity$Numbers")
  | _ => .int
theorem nmX6 : ∀ a, a < 2 → ∀ b, b < 2 → a ≠ b → (TX6 a).2.1 ≠ (TX6 b).2.1 := by decide +kernel
theorem tyokX6 : ∀ k, k < 2 → parseFieldDescriptor (TX6 k).2.2.1 = some (tyX6 k) := by decide +kernel
def TX7 : u_T := fun k => match k with
  | 0 => ("AloneIsAQuantity", "moor", "LAloneIsAQuantity$Moor;", true)
  | 1 => ("AloneIsAQuantity", "thought", "LAloneIsAQuantity$Moor;", true)
  | 2 => ("AloneIsAQuantity", "daysToCome", "LAloneIsAQuantity$DaysToCome;", true)
  | 3 => ("AloneIsAQuantity", "otherMoors", "LAloneIsAQuantity$OtherMoors;", true)
  | 4 => ("AloneIsAQuantity", "lending", "LAloneIsAQuantity$Lending;", true)
  | 5 => ("AloneIsAQuantity", "text", "LAloneIsAQuantity$Text;", true)
  | 6 => ("AloneIsAQuantity", "imageMoor", "LAloneIsAQuantity$Moor;", true)
  | 7 => ("AloneIsAQuantity", "imageTaken", "Z", false)
  | 8 => ("AloneIsAQuantity", "told", "LAloneIsAQuantity$Numbers;", true)
  | 9 => ("AloneIsAQuantity", "toldCount", "I", false)
  | _ => ("AloneIsAQuantity", "refusals", "LAloneIsAQuantity$Numbers;", true)
def tyX7 : Nat → FieldType := fun k => match k with
  | 0 => (.object "AloneIsAQuantity$Moor")
  | 1 => (.object "AloneIsAQuantity$Moor")
  | 2 => (.object "AloneIsAQuantity$DaysToCome")
  | 3 => (.object "AloneIsAQuantity$OtherMoors")
  | 4 => (.object "AloneIsAQuantity$Lending")
  | 5 => (.object "AloneIsAQuantity$Text")
  | 6 => (.object "AloneIsAQuantity$Moor")
  | 7 => .boolean
  | 8 => (.object "AloneIsAQuantity$Numbers")
  | 9 => .int
  | _ => (.object "AloneIsAQuantity$Numbers")
theorem nmX7 : ∀ a, a < 11 → ∀ b, b < 11 → a ≠ b → (TX7 a).2.1 ≠ (TX7 b).2.1 := by decide +kernel
theorem tyokX7 : ∀ k, k < 11 → parseFieldDescriptor (TX7 k).2.2.1 = some (tyX7 k) := by decide +kernel
def TX8 : u_T := fun k => match k with
  | 0 => ("AloneIsAQuantityModel", "refused", "[I", true)
  | 1 => ("AloneIsAQuantityModel", "kind", "[I", true)
  | 2 => ("AloneIsAQuantityModel", "figure", "[I", true)
  | 3 => ("AloneIsAQuantityModel", "cell", "[I", true)
  | 4 => ("AloneIsAQuantityModel", "needs", "[I", true)
  | 5 => ("AloneIsAQuantityModel", "keeps", "[I", true)
  | 6 => ("AloneIsAQuantityModel", "lent", "[I", true)
  | 7 => ("AloneIsAQuantityModel", "people", "I", false)
  | 8 => ("AloneIsAQuantityModel", "total", "I", false)
  | 9 => ("AloneIsAQuantityModel", "day", "I", false)
  | 10 => ("AloneIsAQuantityModel", "tape", "[I", true)
  | 11 => ("AloneIsAQuantityModel", "letter", "[I", true)
  | 12 => ("AloneIsAQuantityModel", "letterAt", "[I", true)
  | 13 => ("AloneIsAQuantityModel", "told", "[I", true)
  | 14 => ("AloneIsAQuantityModel", "taped", "I", false)
  | 15 => ("AloneIsAQuantityModel", "at", "I", false)
  | 16 => ("AloneIsAQuantityModel", "statements", "I", false)
  | 17 => ("AloneIsAQuantityModel", "kept", "[I", true)
  | 18 => ("AloneIsAQuantityModel", "hasImage", "Z", false)
  | 19 => ("AloneIsAQuantityModel", "isKeeping", "Z", false)
  | 20 => ("AloneIsAQuantityModel", "cursor", "I", false)
  | 21 => ("AloneIsAQuantityModel", "out", "I", false)
  | 22 => ("AloneIsAQuantityModel", "share", "[I", true)
  | 23 => ("AloneIsAQuantityModel", "shorts", "[I", true)
  | 24 => ("AloneIsAQuantityModel", "shortToday", "I", false)
  | 25 => ("AloneIsAQuantityModel", "had", "[I", true)
  | 26 => ("AloneIsAQuantityModel", "groups", "[I", true)
  | 27 => ("AloneIsAQuantityModel", "first", "[I", true)
  | 28 => ("AloneIsAQuantityModel", "second", "[I", true)
  | 29 => ("AloneIsAQuantityModel", "row", "[I", true)
  | _ => ("AloneIsAQuantityModel", "rowMany", "I", false)
def tyX8 : Nat → FieldType := fun k => match k with
  | 0 => (.array .int)
  | 1 => (.array .int)
  | 2 => (.array .int)
  | 3 => (.array .int)
  | 4 => (.array .int)
  | 5 => (.array .int)
  | 6 => (.array .int)
  | 7 => .int
  | 8 => .int
  | 9 => .int
  | 10 => (.array .int)
  | 11 => (.array .int)
  | 12 => (.array .int)
  | 13 => (.array .int)
  | 14 => .int
  | 15 => .int
  | 16 => .int
  | 17 => (.array .int)
  | 18 => .boolean
  | 19 => .boolean
  | 20 => .int
  | 21 => .int
  | 22 => (.array .int)
  | 23 => (.array .int)
  | 24 => .int
  | 25 => (.array .int)
  | 26 => (.array .int)
  | 27 => (.array .int)
  | 28 => (.array .int)
  | 29 => (.array .int)
  | _ => .int
theorem nmX8 : ∀ a, a < 31 → ∀ b, b < 31 → a ≠ b → (TX8 a).2.1 ≠ (TX8 b).2.1 := by decide +kernel
theorem tyokX8 : ∀ k, k < 31 → parseFieldDescriptor (TX8 k).2.2.1 = some (tyX8 k) := by decide +kernel
def aCls : List vw_C := [(RX0, TX0, 2), (RX1, TX1, 1), (RX2, TX2, 4), (RX3, TX3, 13), (RX4, TX4, 1), (RX5, TX5, 5), (RX6, TX6, 2), (RX7, TX7, 11), (RX8, TX8, 31)]
def aBW : List Cond := lw_tbl.filter goodWord
theorem aBW_at (i : Nat) {w : Cond} (h : lw_tbl[i]? = some w) (g : goodWord w = true) : w ∈ aBW := List.mem_filter.mpr ⟨List.mem_of_getElem? h, g⟩
theorem aBW_sub {ws : List Cond} (ps : List Nat) (hp : ws = ps.filterMap (fun i => lw_tbl[i]?)) (h : ws.all goodWord = true) : ∀ w ∈ ws, w ∈ aBW := by
  intro w hw
  have h1 := List.all_eq_true.mp h w hw
  rw [hp] at hw
  obtain ⟨i, -, hi⟩ := List.mem_filterMap.mp hw
  exact aBW_at i hi h1
theorem aBW_good : ∀ w ∈ aBW, (w.onTables && w.keeps) = true ∨ ∃ ty, w = .arrayClass ty := fun w hw => good_of_word (List.mem_filter.mp hw).2
theorem aBW_in {y : MethodName} {cc : ByteArray} {n : Nat} {r : Option FieldType} (h : Cond.code y cc n r ∈ aBW) : GoodIn aBW (Cond.code y cc n r :: aBW) := fun w hw => by
  rcases List.mem_cons.mp hw with rfl | hw
  · exact ⟨h, aBW_good _ h⟩
  · exact ⟨hw, aBW_good _ hw⟩
theorem lyX0 : ∀ w ∈ u_ws RX0 TX0 2, w ∈ aBW := aBW_sub [161, 163] (by decide +kernel) (by decide +kernel)
theorem lyX1 : ∀ w ∈ u_ws RX1 TX1 1, w ∈ aBW := aBW_sub [179] (by decide +kernel) (by decide +kernel)
theorem lyX2 : ∀ w ∈ u_ws RX2 TX2 4, w ∈ aBW := aBW_sub [212, 214, 216, 218] (by decide +kernel) (by decide +kernel)
theorem lyX3 : ∀ w ∈ u_ws RX3 TX3 13, w ∈ aBW := aBW_sub [126, 128, 130, 132, 134, 136, 138, 140, 142, 144, 146, 148, 150] (by decide +kernel) (by decide +kernel)
theorem lyX4 : ∀ w ∈ u_ws RX4 TX4 1, w ∈ aBW := aBW_sub [109] (by decide +kernel) (by decide +kernel)
theorem lyX5 : ∀ w ∈ u_ws RX5 TX5 5, w ∈ aBW := aBW_sub [189, 191, 193, 195, 197] (by decide +kernel) (by decide +kernel)
theorem lyX6 : ∀ w ∈ u_ws RX6 TX6 2, w ∈ aBW := aBW_sub [231, 233] (by decide +kernel) (by decide +kernel)
theorem lyX7 : ∀ w ∈ u_ws RX7 TX7 11, w ∈ aBW := aBW_sub [249, 251, 253, 255, 257, 259, 261, 263, 265, 267, 269] (by decide +kernel) (by decide +kernel)
theorem lyX8 : ∀ w ∈ u_ws RX8 TX8 31, w ∈ aBW := aBW_sub [982, 984, 986, 988, 990, 992, 994, 996, 998, 1000, 1002, 1004, 1006, 1008, 1010, 1012, 1014, 1016, 1018, 1020, 1022, 1024, 1026, 1028, 1030, 1032, 1034, 1036, 1038, 1040, 1042] (by decide +kernel) (by decide +kernel)
theorem insX0 : Cond.instantiable RX0 2 ∈ aBW := aBW_at 154 (by decide +kernel) (by decide +kernel)
theorem iniX0 : Cond.initialized RX0 ∈ aBW := aBW_at 74 (by decide +kernel) (by decide +kernel)
theorem insX1 : Cond.instantiable RX1 1 ∈ aBW := aBW_at 173 (by decide +kernel) (by decide +kernel)
theorem iniX1 : Cond.initialized RX1 ∈ aBW := aBW_at 76 (by decide +kernel) (by decide +kernel)
theorem insX2 : Cond.instantiable RX2 4 ∈ aBW := aBW_at 201 (by decide +kernel) (by decide +kernel)
theorem iniX2 : Cond.initialized RX2 ∈ aBW := aBW_at 77 (by decide +kernel) (by decide +kernel)
theorem insX3 : Cond.instantiable RX3 13 ∈ aBW := aBW_at 94 (by decide +kernel) (by decide +kernel)
theorem iniX3 : Cond.initialized RX3 ∈ aBW := aBW_at 71 (by decide +kernel) (by decide +kernel)
theorem insX4 : Cond.instantiable RX4 1 ∈ aBW := aBW_at 100 (by decide +kernel) (by decide +kernel)
theorem iniX4 : Cond.initialized RX4 ∈ aBW := aBW_at 72 (by decide +kernel) (by decide +kernel)
theorem insX5 : Cond.instantiable RX5 5 ∈ aBW := aBW_at 167 (by decide +kernel) (by decide +kernel)
theorem iniX5 : Cond.initialized RX5 ∈ aBW := aBW_at 75 (by decide +kernel) (by decide +kernel)
theorem insX6 : Cond.instantiable RX6 2 ∈ aBW := aBW_at 222 (by decide +kernel) (by decide +kernel)
theorem iniX6 : Cond.initialized RX6 ∈ aBW := aBW_at 78 (by decide +kernel) (by decide +kernel)
theorem insX7 : Cond.instantiable RX7 11 ∈ aBW := aBW_at 86 (by decide +kernel) (by decide +kernel)
theorem iniX7 : Cond.initialized RX7 ∈ aBW := aBW_at 70 (by decide +kernel) (by decide +kernel)
theorem insX8 : Cond.instantiable RX8 31 ∈ aBW := aBW_at 946 (by decide +kernel) (by decide +kernel)
theorem iniX8 : Cond.initialized RX8 ∈ aBW := aBW_at 79 (by decide +kernel) (by decide +kernel)
theorem iniJ6 : Cond.initialized RJ6 ∈ aBW := aBW_at 84 (by decide +kernel) (by decide +kernel)
theorem iniJ9 : Cond.initialized RJ9 ∈ aBW := aBW_at 73 (by decide +kernel) (by decide +kernel)
theorem arrI : Cond.arrayClass .int ∈ aBW := aBW_at 112 (by decide +kernel) (by decide +kernel)
end
section
/-! An abstract machine over whole numbers: a value is a number (an int by its remainder) or a cell's place; the heap is a list of blocks of cells. -/
abbrev aV : Type := Int ⊕ Nat
abbrev aE : Type := List Int ⊕ (Nat × List (Option aV))
abbrev aH : Type := List (List (Option aE))
def aGet (h : aH) (k : Nat) : Option aE := (h.getD (k / 32) []).getD (k % 32) none
def aSet (h : aH) (k : Nat) (c : aE) : aH := h.set (k / 32) ((h.getD (k / 32) []).set (k % 32) (some c))
/-- how many cells a block has, and how many stand ahead of it -/
def aSz : List Nat := [1, 19, 19, 17, 19, 4, 20]
def aOff : List Nat := [0, 1, 20, 39, 56, 75, 79]
def aOrd (k : Nat) : Nat := aOff.getD (k / 32) 0 + k % 32
def aShape (h : aH) : Prop := h.map List.length = aSz
def aFits (k : Nat) : Prop := k / 32 < 7 ∧ k % 32 < aSz.getD (k / 32) 0
def aBlk (n : Nat) : Nat := if n < 1 then 0 else if n < 20 then 1 else if n < 39 then 2 else if n < 56 then 3 else if n < 75 then 4 else if n < 79 then 5 else 6
theorem aBlk_of : ∀ i, i < 7 → ∀ j, j < aSz.getD i 0 → aBlk (aOff.getD i 0 + j) = i := by decide +kernel
theorem aOrd_inj0 (i : Nat) (hi : i < 7) (i' : Nat) (hi' : i' < 7) (j : Nat) (hj : j < aSz.getD i 0) (j' : Nat) (hj' : j' < aSz.getD i' 0) (e : aOff.getD i 0 + j = aOff.getD i' 0 + j') : i = i' ∧ j = j' := by
  have h1 := aBlk_of i hi j hj
  have h2 := aBlk_of i' hi' j' hj'
  rw [e, h2] at h1
  subst h1
  exact ⟨rfl, by omega⟩
theorem aOrd_inj {k k' : Nat} (h : aFits k) (h' : aFits k') (e : aOrd k = aOrd k') : k = k' := by
  obtain ⟨e1, e2⟩ := aOrd_inj0 _ h.1 _ h'.1 _ h.2 _ h'.2 e
  rw [← Nat.div_add_mod k 32, ← Nat.div_add_mod k' 32, e1, e2]
theorem aOrd_lt0 : ∀ i, i < 7 → ∀ j, j < aSz.getD i 0 → aOff.getD i 0 + j < 99 := by decide +kernel
theorem aShape_len {h : aH} (hs : aShape h) : h.length = 7 := by
  have := congrArg List.length hs
  simpa [aSz] using this
theorem aShape_at {h : aH} (hs : aShape h) (i : Nat) : (h.getD i []).length = aSz.getD i 0 := by
  rw [← hs]
  simp only [List.getD_eq_getElem?_getD, List.getElem?_map]
  cases h[i]? <;> simp
theorem aGet_fits {h : aH} (hs : aShape h) {k : Nat} {e : aE} (hg : aGet h k = some e) : aFits k := by
  have h2 : k % 32 < (h.getD (k / 32) []).length := by
    rcases Nat.lt_or_ge (k % 32) (h.getD (k / 32) []).length with q | q
    · exact q
    · unfold aGet at hg
      rw [List.getD_eq_getElem?_getD, List.getElem?_eq_none q] at hg
      simp at hg
  have h1 : k / 32 < h.length := by
    rcases Nat.lt_or_ge (k / 32) h.length with q | q
    · exact q
    · rw [List.getD_eq_getElem?_getD, List.getElem?_eq_none q] at h2
      simp at h2
  exact ⟨by rw [← aShape_len hs]; exact h1, by rw [← aShape_at hs]; exact h2⟩
theorem aSet_shape {h : aH} (hs : aShape h) (k : Nat) (c : aE) : aShape (aSet h k c) := by
  unfold aShape aSet
  rw [List.map_set, ← hs]
  apply List.ext_getElem?
  intro i
  by_cases hi : i = k / 32
  · subst hi
    by_cases hl : k / 32 < h.length
    · rw [List.getElem?_set_self (by simpa using hl)]
      simp [hl]
    · rw [List.set_eq_of_length_le (by simp; omega)]
  · rw [List.getElem?_set_ne (Ne.symm hi)]
theorem aGet_set {h : aH} (hs : aShape h) {k : Nat} (hk : aFits k) (c : aE) (k' : Nat) : aGet (aSet h k c) k' = if k' = k then some c else aGet h k' := by
  have h1 : k / 32 < h.length := by rw [aShape_len hs]; exact hk.1
  have h2 : k % 32 < (h.getD (k / 32) []).length := by rw [aShape_at hs]; exact hk.2
  unfold aGet aSet
  by_cases e : k' / 32 = k / 32
  · rw [e]
    have e1 : (h.set (k / 32) ((h.getD (k / 32) []).set (k % 32) (some c))).getD (k / 32) [] = (h.getD (k / 32) []).set (k % 32) (some c) := by
      rw [List.getD_eq_getElem?_getD, List.getElem?_set_self h1]; rfl
    rw [e1]
    by_cases e2 : k' % 32 = k % 32
    · have e3 : k' = k := by rw [← Nat.div_add_mod k 32, ← Nat.div_add_mod k' 32, e, e2]
      rw [if_pos e3, e2, List.getD_eq_getElem?_getD, List.getElem?_set_self h2]; rfl
    · rw [if_neg (fun z => e2 (by rw [z])), List.getD_eq_getElem?_getD, List.getElem?_set_ne (Ne.symm e2), ← List.getD_eq_getElem?_getD]
  · rw [if_neg (fun z => e (by rw [z]))]
    have e1 : (h.set (k / 32) ((h.getD (k / 32) []).set (k % 32) (some c))).getD (k' / 32) [] = h.getD (k' / 32) [] := by
      rw [List.getD_eq_getElem?_getD, List.getElem?_set_ne (Ne.symm e), ← List.getD_eq_getElem?_getD]
    rw [e1]
/-! from abstract to concrete -/
def aAd (base b0 : Nat) (adK : Nat → Nat) (k : Nat) : Nat := if k < 1024 then base + aOrd k else if k = 1024 then b0 else adK (k - 1025)
def aC (ad : Nat → Nat) : aV → Value
  | .inl z => .int (Int32.ofInt z)
  | .inr k => .ref (ad k)
def aN (ad : Nat → Nat) : Option aV → Value
  | none => .null
  | some v => aC ad v
def aX (ad : Nat → Nat) (cI : ClassId) : aE → va_E
  | .inl l => .inl (cI, l.length, .inl (fun j => Int32.ofInt (l.getD j 0)))
  | .inr o => .inr (o.1, o.2.map (aN ad))
def aP (D : va_G) (cI : ClassId) (ad : Nat → Nat) (h : aH) (H : Heap) : Prop := aShape h ∧ ∀ (k : Nat) (e : aE), aGet h k = some e → va_at D aCls (ad k, aX ad cI e) H
theorem aFits_lt {k : Nat} (h : aFits k) : k < 1024 := by
  have h1 := h.1
  have := Nat.div_add_mod k 32
  omega
theorem aAd_fits {base b0 : Nat} {adK : Nat → Nat} {k : Nat} (h : aFits k) : aAd base b0 adK k = base + aOrd k := if_pos (aFits_lt h)
theorem aAd_inj {base b0 : Nat} {adK : Nat → Nat} {k k' : Nat} (h : aFits k) (h' : aFits k') (e : aAd base b0 adK k = aAd base b0 adK k') : k = k' := by
  rw [aAd_fits h, aAd_fits h'] at e
  exact aOrd_inj h h' (by omega)
theorem aP_set {D : va_G} {cI : ClassId} {base b0 : Nat} {adK : Nat → Nat} {h : aH} {H H1 : Heap} (hP : aP D cI (aAd base b0 adK) h H) {k : Nat} (hf : aFits k) {c : aE} (hc : va_at D aCls (aAd base b0 adK k, aX (aAd base b0 adK) cI c) H1)
    (ho : ∀ q : Nat, q ≠ aAd base b0 adK k → H1[q]? = H[q]?) : aP D cI (aAd base b0 adK) (aSet h k c) H1 := by
  refine ⟨aSet_shape hP.1 k c, fun k' e hk' => ?_⟩
  rw [aGet_set hP.1 hf] at hk'
  by_cases e1 : k' = k
  · rw [if_pos e1] at hk'
    cases hk'
    rw [e1]; exact hc
  · rw [if_neg e1] at hk'
    have f' := aGet_fits hP.1 hk'
    exact (hP.2 k' e hk').kept (ho _ (fun z => e1 (aAd_inj f' hf z)))
/-- a new cell, at the next address -/
theorem aP_new {D : va_G} {cI : ClassId} {base b0 : Nat} {adK : Nat → Nat} {h : aH} {H H1 : Heap} (hP : aP D cI (aAd base b0 adK) h H) {k : Nat} (hf : aFits k) {c : aE} (hz : aAd base b0 adK k = H.size) (hc : va_at D aCls (aAd base b0 adK k, aX (aAd base b0 adK) cI c) H1)
    (ho : ∀ q : Nat, q < H.size → H1[q]? = H[q]?) : aP D cI (aAd base b0 adK) (aSet h k c) H1 := by
  refine ⟨aSet_shape hP.1 k c, fun k' e hk' => ?_⟩
  rw [aGet_set hP.1 hf] at hk'
  by_cases e1 : k' = k
  · rw [if_pos e1] at hk'
    cases hk'
    rw [e1]; exact hc
  · rw [if_neg e1] at hk'
    exact (hP.2 k' e hk').kept (ho _ (hP.2 k' e hk').lt)
theorem aP_one {D : va_G} {cI : ClassId} {ad : Nat → Nat} {h : aH} {H : Heap} (hP : aP D cI ad h H) {k : Nat} {e : aE} (hk : aGet h k = some e) : va_P D aCls [(ad k, aX ad cI e)] H := by
  intro j q hj
  match j, hj with
  | 0, hj => cases hj; exact hP.2 k e hk
  | j + 1, hj => simp at hj
/-! the methods' tables -/
/-- its name, its bytes, its instructions, its locals, its answer, its class's fields (index, class, slot, kind of type, final), its class's numbers -/
abbrev aM : Type := MethodName × ByteArray × List (Nat × Instr) × Nat × Option FieldType × List (Nat × Nat × Nat × Nat × Bool) × List (Nat × Int)
def aMy (M : aM) : MethodName := M.1
def aMc (M : aM) : ByteArray := M.2.1
def aMt (M : aM) : List (Nat × Instr) := M.2.2.1
def aMn (M : aM) : Nat := M.2.2.2.1
def aMr (M : aM) : Option FieldType := M.2.2.2.2.1
def aMf (M : aM) : List (Nat × Nat × Nat × Nat × Bool) := M.2.2.2.2.2.1
def aMk (M : aM) : List (Nat × Int) := M.2.2.2.2.2.2
def aSwi : Instr → Bool
  | .tableswitch _ _ _ _ => true
  | .lookupswitch _ _ => true
  | _ => false
def aLen : Instr → Nat
  | .bipush _ | .iload _ | .istore _ | .aload _ | .astore _ | .ldc _ | .newarray _ => 2
  | .sipush _ | .getfield _ | .putfield _ | .goto _ | .if_icmp _ _ | .ifCond _ _ | .iinc _ _ | .ldc_w _ | .invokevirtual _ | .invokestatic _ | .invokespecial _ | .new _ => 3
  | _ => 1
def aOkI : Instr → Bool
  | .bipush z => decide (-128 ≤ z) && decide (z ≤ 127)
  | .sipush z => decide (-32768 ≤ z) && decide (z ≤ 32767)
  | _ => true
def aDecOk (cc : ByteArray) (e : Nat × Instr) : Bool := match decode cc e.1 with
  | .ok (i, n) => decide (i = e.2) && (n == aLen i || aSwi i) && aOkI i
  | _ => false
def aTyc : FieldType → Nat
  | .int => 0
  | .boolean => 1
  | .object _ => 2
  | .array _ => 2
  | _ => 9
def aFOk (own : String) (f : Nat × Nat × Nat × Nat × Bool) : Prop := ∃ (C : String) (T : u_T) (N : Nat) (ty : FieldType), aCls[f.2.1]? = some (C, T, N) ∧ f.2.2.1 < N ∧ Cond.fieldLink own f.1 C (T f.2.2.1).2.1 (T f.2.2.1).2.2.1 ∈ aBW ∧ (T f.2.2.1).1 = C ∧ (T f.2.2.1).2.2.2 = f.2.2.2.2 ∧
  parseFieldDescriptor (T f.2.2.1).2.2.1 = some ty ∧ aTyc ty = f.2.2.2.1 ∧ (f.2.2.2.2 = true → C = own)
def aKOk (own : String) (q : Nat × Int) : Prop := Cond.constant own q.1 (Int32.ofInt q.2) ∈ aBW
def aOK (M : aM) : Prop := (∀ e ∈ aMt M, aDecOk (aMc M) e = true) ∧ (∀ f ∈ aMf M, aFOk (aMy M).cls f) ∧ (∀ q ∈ aMk M, aKOk (aMy M).cls q) ∧ aMn M ≤ 17
/-- what is known of each class -/
def aClsOk (q : vw_C) : Prop := (∀ w ∈ u_ws q.1 q.2.1 q.2.2, w ∈ aBW) ∧ (∃ ty : Nat → FieldType, (∀ k, k < q.2.2 → parseFieldDescriptor (q.2.1 k).2.2.1 = some (ty k)) ∧ ∀ k, k < q.2.2 → aTyc (ty k) ≤ 2) ∧ (∀ a, a < q.2.2 → ∀ b, b < q.2.2 → a ≠ b → (q.2.1 a).2.1 ≠ (q.2.1 b).2.1) ∧ Cond.instantiable q.1 q.2.2 ∈ aBW ∧ Cond.initialized q.1 ∈ aBW
theorem aCls_ok : ∀ q ∈ aCls, aClsOk q := by
  intro q hq
  simp only [aCls, List.mem_cons, List.not_mem_nil, or_false] at hq
  rcases hq with rfl | rfl | rfl | rfl | rfl | rfl | rfl | rfl | rfl
  · exact ⟨lyX0, ⟨tyX0, tyokX0, by decide +kernel⟩, nmX0, insX0, iniX0⟩
  · exact ⟨lyX1, ⟨tyX1, tyokX1, by decide +kernel⟩, nmX1, insX1, iniX1⟩
  · exact ⟨lyX2, ⟨tyX2, tyokX2, by decide +kernel⟩, nmX2, insX2, iniX2⟩
  · exact ⟨lyX3, ⟨tyX3, tyokX3, by decide +kernel⟩, nmX3, insX3, iniX3⟩
  · exact ⟨lyX4, ⟨tyX4, tyokX4, by decide +kernel⟩, nmX4, insX4, iniX4⟩
  · exact ⟨lyX5, ⟨tyX5, tyokX5, by decide +kernel⟩, nmX5, insX5, iniX5⟩
  · exact ⟨lyX6, ⟨tyX6, tyokX6, by decide +kernel⟩, nmX6, insX6, iniX6⟩
  · exact ⟨lyX7, ⟨tyX7, tyokX7, by decide +kernel⟩, nmX7, insX7, iniX7⟩
  · exact ⟨lyX8, ⟨tyX8, tyokX8, by decide +kernel⟩, nmX8, insX8, iniX8⟩
theorem aCls_at {ci : Nat} {q : vw_C} (h : aCls[ci]? = some q) : aClsOk q := aCls_ok q (List.mem_of_getElem? h)
/-! one step of a straight stretch -/
def aFetch : List (Nat × Instr) → Nat → Option Instr
  | [], _ => none
  | e :: r, pc => bif Nat.beq e.1 pc then some e.2 else aFetch r pc
def aFld : List (Nat × Nat × Nat × Nat × Bool) → Nat → Option (Nat × Nat × Nat × Bool)
  | [], _ => none
  | e :: r, k => bif Nat.beq e.1 k then some e.2 else aFld r k
def aKst : List (Nat × Int) → Nat → Option Int
  | [], _ => none
  | e :: r, k => bif Nat.beq e.1 k then some e.2 else aKst r k
theorem aFetch_in {l : List (Nat × Instr)} {pc : Nat} {i : Instr} (h : aFetch l pc = some i) : (pc, i) ∈ l := by
  induction l with
  | nil => cases h
  | cons e r ih =>
    unfold aFetch at h
    cases hb : Nat.beq e.1 pc with
    | true =>
      rw [hb] at h
      have := Nat.eq_of_beq_eq_true hb
      cases h
      subst this
      exact List.mem_cons_self
    | false => rw [hb] at h; exact List.mem_cons_of_mem _ (ih h)
theorem aFld_in {l : List (Nat × Nat × Nat × Nat × Bool)} {k : Nat} {i : Nat × Nat × Nat × Bool} (h : aFld l k = some i) : (k, i) ∈ l := by
  induction l with
  | nil => cases h
  | cons e r ih =>
    unfold aFld at h
    cases hb : Nat.beq e.1 k with
    | true =>
      rw [hb] at h
      have := Nat.eq_of_beq_eq_true hb
      cases h
      subst this
      exact List.mem_cons_self
    | false => rw [hb] at h; exact List.mem_cons_of_mem _ (ih h)
theorem aKst_in {l : List (Nat × Int)} {k : Nat} {i : Int} (h : aKst l k = some i) : (k, i) ∈ l := by
  induction l with
  | nil => cases h
  | cons e r ih =>
    unfold aKst at h
    cases hb : Nat.beq e.1 k with
    | true =>
      rw [hb] at h
      have := Nat.eq_of_beq_eq_true hb
      cases h
      subst this
      exact List.mem_cons_self
    | false => rw [hb] at h; exact List.mem_cons_of_mem _ (ih h)
abbrev aLs : Type := List (Option aV)
abbrev aF : Type := Nat × aLs × List aV × aH
def a32 (f : Int32 → Int32 → Int32) (x y : Int) : Int := (f (Int32.ofInt x) (Int32.ofInt y)).toInt
def aAnd : Int → Int → Int := a32 (fun x y => x &&& y)
def aOr : Int → Int → Int := a32 (fun x y => x ||| y)
def aXor : Int → Int → Int := a32 (fun x y => x ^^^ y)
def aShl : Int → Int → Int := a32 (fun x y => x <<< (y &&& 31))
def aShr : Int → Int → Int := a32 (fun x y => x >>> (y &&& 31))
def aUshr : Int → Int → Int := a32 (fun x y => (x.toUInt32 >>> (y.toUInt32 &&& Int32.toUInt32 31)).toInt32)
def aBin : Instr → Int → Int → Option Int
  | .iadd, x, y => some (x + y)
  | .isub, x, y => some (x - y)
  | .imul, x, y => some (x * y)
  | .iand, x, y => some (aAnd x y)
  | .ior, x, y => some (aOr x y)
  | .ixor, x, y => some (aXor x y)
  | .ishl, x, y => some (aShl x y)
  | .ishr, x, y => some (aShr x y)
  | .iushr, x, y => some (aUshr x y)
  | _, _, _ => none
/-- a number that is pushed -/
def aPush (M : aM) : Instr → Option Int
  | .iconst z => some z
  | .bipush z => some z
  | .sipush z => some z
  | .ldc k => aKst (aMk M) k
  | .ldc_w k => aKst (aMk M) k
  | _ => none
def aLdI : Instr → Option Nat
  | .iload k => some k
  | .iload_n k => some k.val
  | _ => none
def aLdA : Instr → Option Nat
  | .aload k => some k
  | .aload_n k => some k.val
  | _ => none
def aStI : Instr → Option Nat
  | .istore k => some k
  | .istore_n k => some k.val
  | _ => none
def aStA : Instr → Option Nat
  | .astore k => some k
  | .astore_n k => some k.val
  | _ => none
def aLoc (ls : aLs) (k : Nat) : Option aV := match ls[k]? with
  | some (some v) => some v
  | _ => none
def aGetF (M : aM) (h : aH) (idx k : Nat) : Option aV := match aFld (aMf M) idx, aGet h k with
  | some f, some (.inr o) => bif Nat.beq f.1 o.1 then (match o.2[f.2.1]? with
    | some (some v) => some v
    | _ => none) else none
  | _, _ => none
def aTyFit : Nat → aV → Bool
  | 0, .inl _ => true
  | 1, .inl z => decide (z = 0) || decide (z = 1)
  | 2, .inr _ => true
  | _, _ => false
def aPutF (M : aM) (h : aH) (idx k : Nat) (v : aV) : Option aH := match aFld (aMf M) idx, aGet h k with
  | some f, some (.inr o) => bif Nat.beq f.1 o.1 && Nat.blt f.2.1 o.2.length && aTyFit f.2.2.1 v && (!f.2.2.2 || decide ((aMy M).name = "<init>")) then some (aSet h k (.inr (o.1, o.2.set f.2.1 (some v)))) else none
  | _, _ => none
def aJmp (pc : Nat) (off : Int) : Nat := ((pc : Int) + off).toNat
def aTry (a b : Option aF) : Option aF := match a with
  | some x => some x
  | none => b
def aOp (M : aM) (i : Instr) (pc : Nat) (ls : aLs) (st : List aV) (h : aH) : Option aF :=
  match i with
  | .iconst z => some (pc + 1, ls, .inl z :: st, h)
  | .bipush z => some (pc + 2, ls, .inl z :: st, h)
  | .sipush z => some (pc + 3, ls, .inl z :: st, h)
  | .ldc k => (aKst (aMk M) k).map fun z => (pc + 2, ls, .inl z :: st, h)
  | .ldc_w k => (aKst (aMk M) k).map fun z => (pc + 3, ls, .inl z :: st, h)
  | .iload k => (match aLoc ls k with
    | some (.inl z) => some (pc + 2, ls, .inl z :: st, h)
    | _ => none)
  | .iload_n k => (match aLoc ls k.val with
    | some (.inl z) => some (pc + 1, ls, .inl z :: st, h)
    | _ => none)
  | .aload k => (match aLoc ls k with
    | some (.inr z) => some (pc + 2, ls, .inr z :: st, h)
    | _ => none)
  | .aload_n k => (match aLoc ls k.val with
    | some (.inr z) => some (pc + 1, ls, .inr z :: st, h)
    | _ => none)
  | .istore k => (match st with
    | .inl z :: st => bif Nat.blt k (aMn M) then some (pc + 2, ls.set k (some (.inl z)), st, h) else none
    | _ => none)
  | .istore_n k => (match st with
    | .inl z :: st => bif Nat.blt k.val (aMn M) then some (pc + 1, ls.set k.val (some (.inl z)), st, h) else none
    | _ => none)
  | .astore k => (match st with
    | .inr z :: st => bif Nat.blt k (aMn M) then some (pc + 2, ls.set k (some (.inr z)), st, h) else none
    | _ => none)
  | .astore_n k => (match st with
    | .inr z :: st => bif Nat.blt k.val (aMn M) then some (pc + 1, ls.set k.val (some (.inr z)), st, h) else none
    | _ => none)
  | .iinc k z => (match aLoc ls k with
    | some (.inl x) => bif Nat.blt k (aMn M) then some (pc + 3, ls.set k (some (.inl (x + z))), st, h) else none
    | _ => none)
  | .iadd => (match st with
    | .inl y :: .inl x :: st => some (pc + 1, ls, .inl (x + y) :: st, h)
    | _ => none)
  | .isub => (match st with
    | .inl y :: .inl x :: st => some (pc + 1, ls, .inl (x - y) :: st, h)
    | _ => none)
  | .imul => (match st with
    | .inl y :: .inl x :: st => some (pc + 1, ls, .inl (x * y) :: st, h)
    | _ => none)
  | .ineg => (match st with
    | .inl x :: st => some (pc + 1, ls, .inl (-x) :: st, h)
    | _ => none)
  | .iand => (match st with
    | .inl y :: .inl x :: st => some (pc + 1, ls, .inl (aAnd x y) :: st, h)
    | _ => none)
  | .ior => (match st with
    | .inl y :: .inl x :: st => some (pc + 1, ls, .inl (aOr x y) :: st, h)
    | _ => none)
  | .ixor => (match st with
    | .inl y :: .inl x :: st => some (pc + 1, ls, .inl (aXor x y) :: st, h)
    | _ => none)
  | .ishl => (match st with
    | .inl y :: .inl x :: st => some (pc + 1, ls, .inl (aShl x y) :: st, h)
    | _ => none)
  | .ishr => (match st with
    | .inl y :: .inl x :: st => some (pc + 1, ls, .inl (aShr x y) :: st, h)
    | _ => none)
  | .iushr => (match st with
    | .inl y :: .inl x :: st => some (pc + 1, ls, .inl (aUshr x y) :: st, h)
    | _ => none)
  | .dup => (match st with
    | x :: st => some (pc + 1, ls, x :: x :: st, h)
    | _ => none)
  | .dup2 => (match st with
    | x :: y :: st => some (pc + 1, ls, x :: y :: x :: y :: st, h)
    | _ => none)
  | .pop => (match st with
    | _ :: st => some (pc + 1, ls, st, h)
    | _ => none)
  | .goto off => bif decide (0 ≤ (pc : Int) + off) then some (aJmp pc off, ls, st, h) else none
  | .getfield idx => (match st with
    | .inr k :: st => (aGetF M h idx k).map fun v => (pc + 3, ls, v :: st, h)
    | _ => none)
  | .putfield idx => (match st with
    | v :: .inr k :: st => (aPutF M h idx k v).map fun h' => (pc + 3, ls, st, h')
    | _ => none)
  | .arraylength => (match st with
    | .inr k :: st => (match aGet h k with
      | some (.inl l) => some (pc + 1, ls, .inl (l.length : Int) :: st, h)
      | _ => none)
    | _ => none)
  | _ => none
def aStep (M : aM) (f : aF) : Option aF := match aFetch (aMt M) f.1 with
  | some i => aOp M i f.1 f.2.1 f.2.2.1 f.2.2.2
  | none => none
def aRun (M : aM) : Nat → aF → Option aF
  | 0, f => some f
  | n + 1, f => match aStep M f with
    | some f' => aRun M n f'
    | none => none
end
section
/-! The abstract machine's judgement, and that each of its steps is the machine's. -/
/-- the words of nest mates -/
def aNW : List Cond := lw_tbl.filter (fun w => match w with
  | .methodLinkNest _ _ _ _ => true
  | _ => false)
/-- String constants: where the code names them, their texts, lengths, bytes -/
def aTx : List (Nat × String) := [(66, "p?00000;"), (68, "a000;"), (70, "l0000;"), (72, "k00000;"), (74, "s000;"), (76, "d00;"), (78, ""), (83, "pswcon")]
def aTxLen : List Nat := aTx.map fun q => q.2.length
def aTxByt : List (List Int32) := aTx.map fun q => q.2.toList.map fun c => Int32.ofNat c.toNat
/-- what holds of the world at every call: the classes, int arrays, nest words, String constants -/
def aIv (base : Nat) (D : va_G) (cI : ClassId) (adK adV : Nat → Nat) (U : State) : Prop :=
  va_K D aCls [(cI, .int)] U ∧ (∀ w ∈ aNW, va_Nw w U) ∧ vk_S 8 aTxLen aTxByt adK adV (fun q => base ≤ q) U U.heap ∧ ∀ (i : Nat) (q : Nat × String), aTx[i]? = some q → vk_R RX6 q.1 q.2 (adK i) U
def aSc (sc : Option (Nat × (Nat → Int32))) (base b0 : Nat) (s : State) : Prop := ∀ (L : Nat) (xs : Nat → Int32), sc = some (L, xs) → va_X b0 L xs s s.heap ∧ b0 < s.heap.size ∧ b0 < base
def aCx (M : aM) (d : Nat) (sc : Option (Nat × (Nat → Int32))) (base b0 : Nat) (adK adV : Nat → Nat) (D : va_G) (cI : ClassId) (p : Program) (R : Room) (s : State) (m : MethodId) (args : Array Value) (meth : Method) (c : Code) : Prop :=
  p.tables.exec = Jvm.exec ∧ c.code = aMc M ∧ c.maxLocals = aMn M ∧ meth.sig.returnType = aMr M ∧ ((aMy M).name = "<init>" → meth.name = "<init>") ∧ s.vm.findClass (aMy M).cls = some m.cls ∧ (∀ w ∈ aBW, w.before args s = true) ∧ meth.locks = false ∧
  aIv base D cI adK adV s ∧ (d ≤ R.frames ∧ 36 * d ≤ R.locals) ∧ base ≤ s.heap.size ∧ aSc sc base b0 s
def aAss (ad : Nat → Nat) (ls : aLs) : List (Nat × Value) := (List.range ls.length).filterMap fun i => match ls[i]? with
  | some (some v) => some (i, aC ad v)
  | _ => none
theorem aAss_in {ad : Nat → Nat} {ls : aLs} {i : Nat} {v : Value} : (i, v) ∈ aAss ad ls ↔ ∃ w, ls[i]? = some (some w) ∧ v = aC ad w := by
  unfold aAss
  rw [List.mem_filterMap]
  constructor
  · rintro ⟨j, -, hj⟩
    cases hl : ls[j]? with
    | none => rw [hl] at hj; cases hj
    | some o =>
      cases o with
      | none => rw [hl] at hj; cases hj
      | some w =>
        rw [hl] at hj
        cases hj
        exact ⟨w, hl, rfl⟩
  · rintro ⟨w, hw, rfl⟩
    refine ⟨i, List.mem_range.mpr (List.getElem?_eq_some_iff.mp hw).1, ?_⟩
    rw [hw]
def aL (ad : Nat → Nat) (ls : aLs) (la : Array Slot) (nL : Nat) : Prop := lv_has la nL (aAss ad ls)
theorem lv_less {ls : Array Slot} {nL : Nat} {l l' : List (Nat × Value)} (h : lv_has ls nL l) (hs : ∀ q ∈ l', q ∈ l) : lv_has ls nL l' := ⟨h.1, h.2.1, fun q hq => h.2.2 q (hs q hq)⟩
theorem aC_cat (ad : Nat → Nat) (v : aV) : (aC ad v).category = 1 := by cases v <;> rfl
theorem aL_set {ad : Nat → Nat} {ls : aLs} {la : Array Slot} {nL k : Nat} {v : aV} (h : lv_has la nL ((k, aC ad v) :: (aAss ad ls).filter (fun q => !(q.1 == k) && !(q.1 + 1 == k && q.2.category == 2)))) : aL ad (ls.set k (some v)) la nL := by
  refine lv_less h fun q hq => ?_
  obtain ⟨i, w⟩ := q
  obtain ⟨x, hx, rfl⟩ := aAss_in.mp hq
  by_cases hi : i = k
  · subst hi
    have hl : i < ls.length := by
      have := (List.getElem?_eq_some_iff.mp hx).1
      simpa using this
    rw [List.getElem?_set_self hl] at hx
    cases hx
    exact List.mem_cons_self
  · rw [List.getElem?_set_ne (Ne.symm hi)] at hx
    refine List.mem_cons_of_mem _ (List.mem_filter.mpr ⟨aAss_in.mpr ⟨x, hx, rfl⟩, ?_⟩)
    simp [hi, aC_cat]
theorem aL_at {ad : Nat → Nat} {ls : aLs} {la : Array Slot} {nL k : Nat} {v : aV} (h : aL ad ls la nL) (hk : aLoc ls k = some v) : la[k]? = some (.val (aC ad v)) := by
  refine h.2.2 (k, aC ad v) (aAss_in.mpr ⟨v, ?_, rfl⟩)
  unfold aLoc at hk
  cases hl : ls[k]? with
  | none => rw [hl] at hk; cases hk
  | some o =>
    cases o with
    | none => rw [hl] at hk; cases hk
    | some w => rw [hl] at hk; cases hk; rfl
/-- the instruction that gives the answer back -/
def aRet (M : aM) (pc : Nat) : Option aV → Prop
  | none => aFetch (aMt M) pc = some .return_ ∧ aMr M = none
  | some (.inl z) => aFetch (aMt M) pc = some .ireturn ∧ (aMr M = some .int ∨ (aMr M = some .boolean ∧ (z = 0 ∨ z = 1)))
  | some (.inr _) => aFetch (aMt M) pc = some .areturn ∧ ∃ n, aMr M = some (.object n)
def AW (M : aM) (d kc ks n : Nat) (sc : Option (Nat × (Nat → Int32))) (Q : Option aV → aH → Prop) (f : aF) : Prop :=
  ∀ (p : Program) (l : Launch) (e : Env) (R : Room) (s : State) (m : MethodId) (args : Array Value) (below : List Frame) (meth : Method) (c : Code) (D : va_G) (cI : ClassId) (base b0 : Nat) (adK adV : Nat → Nat) (C1 S1 : Nat) (Z : State → Prop),
    aCx M d sc base b0 adK adV D cI p R s m args meth c → C1 ≤ R.cells → S1 ≤ R.slots →
    (∀ (v : Option aV) (h : aH) (pc : Nat) (la : Array Slot) (H : Heap) (locs : List Loc) (slots : Nat), Q v h → aP D cI (aAd base b0 adK) h H → H.size = base + (n + kc) → va_S (fun q => base ≤ q) s.heap H locs → slots ≤ S1 → aRet M pc v →
      W p l e R s m args below meth c H locs C1 slots Z (F0 m pc la (v.map (aC (aAd base b0 adK))).toList)) →
    ∀ (la : Array Slot) (H : Heap) (locs : List Loc) (cells slots : Nat), aP D cI (aAd base b0 adK) f.2.2.2 H → H.size = base + n → va_S (fun q => base ≤ q) s.heap H locs → aL (aAd base b0 adK) f.2.1 la (aMn M) → cells + kc = C1 → slots + ks ≤ S1 →
      W p l e R s m args below meth c H locs cells slots Z (F0 m f.1 la (f.2.2.1.map (aC (aAd base b0 adK))))
theorem aDec_of {M : aM} (hM : aOK M) {pc : Nat} {i : Instr} (h : aFetch (aMt M) pc = some i) : ∃ n, decode (aMc M) pc = .ok (i, n) ∧ (n = aLen i ∨ aSwi i = true) ∧ aOkI i = true := by
  have h1 := hM.1 _ (aFetch_in h)
  unfold aDecOk at h1
  cases hd : decode (aMc M) pc with
  | error e => rw [show ((pc, i) : Nat × Instr).1 = pc from rfl, hd] at h1; cases h1
  | ok q =>
    obtain ⟨i', n⟩ := q
    rw [show ((pc, i) : Nat × Instr).1 = pc from rfl, hd] at h1
    simp only [Bool.and_eq_true, decide_eq_true_eq, Bool.or_eq_true, beq_iff_eq] at h1
    obtain ⟨⟨rfl, h2⟩, h3⟩ := h1
    exact ⟨n, rfl, h2, h3⟩
theorem aDec1 {M : aM} (hM : aOK M) {pc : Nat} {i : Instr} (h : aFetch (aMt M) pc = some i) (hs : aSwi i = false) {n : Nat} (hn : aLen i = n) : decode (aMc M) pc = .ok (i, n) := by
  obtain ⟨k, h1, h2 | h2, -⟩ := aDec_of hM h
  · rw [h1, h2, hn]
  · rw [hs] at h2; cases h2
theorem i32_add (a b : Int) : Int32.ofInt a + Int32.ofInt b = Int32.ofInt (a + b) := (Int32.ofInt_add a b).symm
theorem i32_sub (a b : Int) : Int32.ofInt a - Int32.ofInt b = Int32.ofInt (a - b) := (Int32.ofInt_sub a b).symm
theorem i32_mul (a b : Int) : Int32.ofInt a * Int32.ofInt b = Int32.ofInt (a * b) := (Int32.ofInt_mul a b).symm
theorem i32_neg (a : Int) : -Int32.ofInt a = Int32.ofInt (-a) := (Int32.ofInt_neg a).symm
theorem i32_op (f : Int32 → Int32 → Int32) (a b : Int) : f (Int32.ofInt a) (Int32.ofInt b) = Int32.ofInt (a32 f a b) := (Int32.ofInt_toInt _).symm
theorem i32_byte {z : Int} (h : aOkI (.bipush z) = true) : (Int8.ofInt z).toInt32 = Int32.ofInt z := by
  simp only [aOkI, Bool.and_eq_true, decide_eq_true_eq] at h
  rw [← Int32.toInt_inj, Int8.toInt_toInt32, Int8.toInt_ofInt_of_le (by omega) (by omega), Int32.toInt_ofInt_of_le (by omega) (by omega)]
theorem i32_short {z : Int} (h : aOkI (.sipush z) = true) : (Int16.ofInt z).toInt32 = Int32.ofInt z := by
  simp only [aOkI, Bool.and_eq_true, decide_eq_true_eq] at h
  rw [← Int32.toInt_inj, Int16.toInt_toInt32, Int16.toInt_ofInt_of_le (by omega) (by omega), Int32.toInt_ofInt_of_le (by omega) (by omega)]
end
section
/-! Each step of a straight stretch. -/
section AOP
variable {p : Program} {l : Launch} {e : Env} {R : Room} {s : State} {m : MethodId} {args : Array Value} {below : List Frame} {meth : Method} {c : Code} {D : va_G} {cI : ClassId} {base b0 : Nat} {adK adV : Nat → Nat} {Z : State → Prop}
variable {M : aM} {d kc ks n : Nat} {sc : Option (Nat × (Nat → Int32))} {Q : Option aV → aH → Prop}
theorem a_getfield (hM : aOK M) {h : aH} {idx k : Nat} {v : aV} (hg : aGetF M h idx k = some v) (hcx : aCx M d sc base b0 adK adV D cI p R s m args meth c) {H : Heap} (hP : aP D cI (aAd base b0 adK) h H) {pc : Nat} (hd : decode (aMc M) pc = .ok (.getfield idx, 3)) {la : Array Slot} {rest : List Value} {locs : List Loc} {cells slots : Nat}
    (kk : W p l e R s m args below meth c H locs cells slots Z (F0 m (pc + 3) la (aC (aAd base b0 adK) v :: rest))) : W p l e R s m args below meth c H locs cells slots Z (F0 m pc la (.ref (aAd base b0 adK k) :: rest)) := by
  obtain ⟨hx, hb, hml, hr, hin, hown, hts, hlk, hiv, hrm, hba, hsc⟩ := id hcx
  unfold aGetF at hg
  cases hf : aFld (aMf M) idx with
  | none => rw [hf] at hg; cases hg
  | some f =>
    cases hk : aGet h k with
    | none => rw [hf, hk] at hg; cases hg
    | some ee =>
      cases ee with
      | inl a => rw [hf, hk] at hg; cases hg
      | inr o =>
        rw [hf, hk] at hg
        simp only at hg
        cases hbq : Nat.beq f.1 o.1 with
        | false => rw [hbq] at hg; cases hg
        | true =>
          rw [hbq] at hg
          have hco := Nat.eq_of_beq_eq_true hbq
          simp only [cond_true] at hg
          cases hq : o.2[f.2.1]? with
          | none => rw [hq] at hg; cases hg
          | some w =>
            cases w with
            | none => rw [hq] at hg; cases hg
            | some w =>
              rw [hq] at hg
              cases hg
              obtain ⟨C, T, N, ty, g1, g2, g3, g4, -⟩ := hM.2.1 _ (aFld_in hf)
              have hc := (aCls_at g1)
              refine va_get (D := D) (cl := aCls) (tys := [(cI, .int)]) (C := C) (T := T) (N := N) (ci := f.1) (Ts := aBW) (fs := o.2.map (aN (aAd base b0 adK))) hx hb hts hc.1 hown hiv.1 (aP_one hP hk) 0 ?_ g1 f.2.1 g2 (hts _ g3) (fun x hx => by rw [← g4]; exact hx) ?_ hd kk
              · rw [hco]; rfl
              · rw [List.getElem?_map, hq]; rfl
theorem aTy_narrow {t : Nat} {ty : FieldType} {v : aV} (ad : Nat → Nat) (ht : aTyc ty = t) (hv : aTyFit t v = true) : narrow ty (aC ad v) = aC ad v ∧ fits ty (aC ad v) = true := by
  subst ht
  cases ty with
  | int => cases v with
    | inl z => exact ⟨rfl, rfl⟩
    | inr z => simp [aTyc, aTyFit] at hv
  | boolean => cases v with
    | inl z =>
      simp only [aTyc, aTyFit, Bool.or_eq_true, decide_eq_true_eq] at hv
      rcases hv with rfl | rfl
      · exact ⟨(by decide : narrow .boolean (.int (Int32.ofInt 0)) = .int (Int32.ofInt 0)), (by decide : fits .boolean (.int (Int32.ofInt 0)) = true)⟩
      · exact ⟨(by decide : narrow .boolean (.int (Int32.ofInt 1)) = .int (Int32.ofInt 1)), (by decide : fits .boolean (.int (Int32.ofInt 1)) = true)⟩
    | inr z => simp [aTyc, aTyFit] at hv
  | object q => cases v with
    | inl z => simp [aTyc, aTyFit] at hv
    | inr z => exact ⟨rfl, rfl⟩
  | array q => cases v with
    | inl z => simp [aTyc, aTyFit] at hv
    | inr z => exact ⟨rfl, rfl⟩
  | _ => simp [aTyc, aTyFit] at hv
theorem a_putfield (hM : aOK M) {h h' : aH} {idx k : Nat} {v : aV} (hg : aPutF M h idx k v = some h') (hcx : aCx M d sc base b0 adK adV D cI p R s m args meth c) {H : Heap} (hP : aP D cI (aAd base b0 adK) h H) {pc : Nat} (hd : decode (aMc M) pc = .ok (.putfield idx, 3)) {la : Array Slot} {rest : List Value} {locs : List Loc} {cells slots : Nat} (hS : va_S (fun q => base ≤ q) s.heap H locs)
    (kk : ∀ (H1 : Heap) (locs1 : List Loc), aP D cI (aAd base b0 adK) h' H1 → H1.size = H.size → va_S (fun q => base ≤ q) s.heap H1 locs1 → W p l e R s m args below meth c H1 locs1 cells slots Z (F0 m (pc + 3) la rest)) : W p l e R s m args below meth c H locs cells slots Z (F0 m pc la (aC (aAd base b0 adK) v :: .ref (aAd base b0 adK k) :: rest)) := by
  obtain ⟨hx, hb, hml, hr, hin, hown, hts, hlk, hiv, hrm, hba, hsc⟩ := id hcx
  unfold aPutF at hg
  cases hf : aFld (aMf M) idx with
  | none => rw [hf] at hg; cases hg
  | some f =>
    cases hk : aGet h k with
    | none => rw [hf, hk] at hg; cases hg
    | some ee =>
      cases ee with
      | inl a => rw [hf, hk] at hg; cases hg
      | inr o =>
        rw [hf, hk] at hg
        simp only at hg
        cases hbq : (Nat.beq f.1 o.1 && Nat.blt f.2.1 o.2.length && aTyFit f.2.2.1 v && (!f.2.2.2 || decide ((aMy M).name = "<init>"))) with
        | false => rw [hbq] at hg; cases hg
        | true =>
          rw [hbq] at hg
          cases hg
          simp only [Bool.and_eq_true, Bool.or_eq_true, Bool.not_eq_true', decide_eq_true_eq] at hbq
          obtain ⟨⟨⟨q1, q2⟩, q3⟩, q4⟩ := hbq
          have hco := Nat.eq_of_beq_eq_true q1
          have hlt : f.2.1 < o.2.length := Nat.le_of_ble_eq_true q2
          obtain ⟨C, T, N, ty, g1, g2, g3, g4, g5, g6, g7, g8⟩ := hM.2.1 _ (aFld_in hf)
          simp only at g1 g2 g3 g4 g5 g6 g7 g8
          obtain ⟨c1, ⟨tyF, c2, -⟩, c3, -⟩ := aCls_at g1
          simp only at c1 c2 c3
          obtain ⟨hn, hfit⟩ := aTy_narrow (aAd base b0 adK) g7 q3
          have hfk := aGet_fits hP.1 hk
          have hba' : base ≤ aAd base b0 adK k := by rw [aAd_fits hfk]; omega
          have hap := va_apart (own := C) hts c1 tyF c2 c3 hiv.1 g1
          have hat := hP.2 k _ hk
          obtain ⟨r, h1, cell, e1, e2, e3, e4⟩ := hat
          rw [hco] at g1 hap
          have hr' : r = (C, T, N) := Option.some.inj (h1.symm.trans g1)
          subst hr'
          obtain ⟨hSl, hfc, kC, hkC, hkind⟩ := hiv.1.1 o.1 _ g1
          obtain ⟨cf, kf, fi, fd, hi, hsl⟩ := hSl f.2.1 g2
          have hlay := hts _ (c1 _ (u_in_lay g2))
          have hst := (u_facts hfc hkC (u_lays hts c1 g2) hi).1
          have hput : ∀ H1 : Heap, H1[aAd base b0 adK k]? = some (cell.setSlot fd.slot (aC (aAd base b0 adK) v)) → (∀ q : Nat, q ≠ aAd base b0 adK k → H1[q]? = H[q]?) → aP D cI (aAd base b0 adK) (aSet h k (.inr (o.1, o.2.set f.2.1 (some v)))) H1 := by
            intro H1 z1 z2
            refine aP_set hP hfk ?_ z2
            refine ⟨_, g1, t_OB.to (V := updV (vp_V (o.2.map (aN (aAd base b0 adK)))) f.2.1 (aC (aAd base b0 adK) v)) ⟨_, z1, e2, e3, ?_⟩ (fun j _ => ?_)⟩
            · rw [hsl]; exact t_set e4 hap g2 _
            · have hl2 : f.2.1 < (o.2.map (aN (aAd base b0 adK))).length := by rw [List.length_map]; exact hlt
              rw [vp_updV_set hl2]
              show vp_V _ j = vp_V _ j
              rw [List.map_set]
              rfl
          have hsame : s.fieldFound? C (T f.2.1).2.1 (T f.2.1).2.2.1 = some (cf, kf, fi, fd) := by rw [← hi, g4]
          cases hfin : f.2.2.2 with
          | false =>
            rw [hfin] at g5
            unfold u_lay at hlay
            rw [if_neg (by rw [g5]; decide)] at hlay
            have h6 := u_store hfc hkC hkind hlay hi g6 hn hfit
            refine W.putK hx hb (f := fd) ⟨hown, hts _ g3, ⟨_, _, _, hsame⟩, hst⟩ (by rw [e2]; exact h6) e1 e3 (by rw [hsl]; exact k2_hasslot (e4 f.2.1 g2)) rfl rfl hd fun H1 z1 z2 z3 => ?_
            exact kk H1 _ (hput H1 z1 z3) z2 (hS.put z2 z3 hba')
          | true =>
            rw [hfin] at g5 g8 q4
            unfold u_lay at hlay
            rw [if_pos g5] at hlay
            have hcf : m.cls = cf := by
              obtain ⟨_, _, c', _, _, _, -, -, hf', -, -, -, hown2, -⟩ := Cond.laysFinal_spec hlay
              have z1 : c' = cf := by have := hi.symm.trans hf'; simp at this; exact this.1.symm
              rw [g4, g8 rfl] at hown2
              rw [← z1]; exact Option.some.inj (hown.symm.trans hown2)
            have h6 := u_fits hfc hkC hkind (Or.inr hlay) hi g6 hn hfit
            have hin2 : meth.name = "<init>" := by
              rcases q4 with z | z
              · cases z
              · exact hin z
            refine W.putFinK hx hb hown (hts _ g3) hsame hst hcf hin2 (by rw [e2]; exact h6) e1 e3 (by rw [hsl]; exact k2_hasslot (e4 f.2.1 g2)) rfl rfl hd fun H1 z1 z2 z3 => ?_
            exact kk H1 _ (hput H1 z1 z3) z2 (hS.put z2 z3 hba')
theorem aBlt {a b : Nat} {α : Type} {x y : α} (h : (bif Nat.blt a b then some x else none) = some y) : a < b ∧ x = y := by
  cases hb : Nat.blt a b with
  | true => rw [hb] at h; exact ⟨Nat.le_of_ble_eq_true hb, Option.some.inj h⟩
  | false => rw [hb] at h; cases h
set_option maxHeartbeats 4000000 in
theorem aOp_ok (hM : aOK M) {i : Instr} {pc : Nat} {ls : aLs} {st : List aV} {h : aH} {f' : aF} (hf : aFetch (aMt M) pc = some i) (ho : aOp M i pc ls st h = some f') (k : AW M d kc ks n sc Q f') : AW M d kc ks n sc Q (pc, ls, st, h) := by
  intro p l e R s m args below meth c D cI base b0 adK adV C1 S1 Z hcx hC hS1 hfin la H locs cells slots hP hz hS hL hcs hss
  obtain ⟨hx, hb, hml, hr, hin, hown, hts, hlk, hiv, hrm, hba, hsc⟩ := id hcx
  have kk := k p l e R s m args below meth c D cI base b0 adK adV C1 S1 Z hcx hC hS1 hfin
  clear k
  simp only at hP hL
  cases i with
  | iconst z =>
    cases ho
    exact lv_iconst hx hb (aDec1 hM hf rfl rfl) rfl (kk la H locs cells slots hP hz hS hL hcs hss)
  | bipush z =>
    cases ho
    exact lv_bipush hx hb (aDec1 hM hf rfl rfl) (i32_byte (aDec_of hM hf).choose_spec.2.2) (kk la H locs cells slots hP hz hS hL hcs hss)
  | sipush z =>
    cases ho
    exact lv_sipush hx hb (aDec1 hM hf rfl rfl) (i32_short (aDec_of hM hf).choose_spec.2.2) (kk la H locs cells slots hP hz hS hL hcs hss)
  | ldc q =>
    obtain ⟨z, hz1, hz2⟩ := Option.map_eq_some_iff.mp ho
    cases hz2
    exact lv_ldc hx hb hown (hts _ (hM.2.2.1 _ (aKst_in hz1))) (aDec1 hM hf rfl rfl) (kk la H locs cells slots hP hz hS hL hcs hss)
  | ldc_w q =>
    obtain ⟨z, hz1, hz2⟩ := Option.map_eq_some_iff.mp ho
    cases hz2
    exact lv_ldcw hx hb hown (hts _ (hM.2.2.1 _ (aKst_in hz1))) (aDec1 hM hf rfl rfl) (kk la H locs cells slots hP hz hS hL hcs hss)
  | iload q =>
    cases hq : aLoc ls q with
    | none => simp [aOp, hq] at ho
    | some v => cases v with
      | inr z => simp [aOp, hq] at ho
      | inl z =>
        simp only [aOp, hq] at ho
        cases ho
        exact lv_iload hx hb (aDec1 hM hf rfl rfl) (aL_at hL hq) (kk la H locs cells slots hP hz hS hL hcs hss)
  | iload_n q =>
    cases hq : aLoc ls q.val with
    | none => simp [aOp, hq] at ho
    | some v => cases v with
      | inr z => simp [aOp, hq] at ho
      | inl z =>
        simp only [aOp, hq] at ho
        cases ho
        exact lv_iload_n hx hb (aDec1 hM hf rfl rfl) rfl (aL_at hL hq) (kk la H locs cells slots hP hz hS hL hcs hss)
  | aload q =>
    cases hq : aLoc ls q with
    | none => simp [aOp, hq] at ho
    | some v => cases v with
      | inl z => simp [aOp, hq] at ho
      | inr z =>
        simp only [aOp, hq] at ho
        cases ho
        exact lv_aload hx hb (aDec1 hM hf rfl rfl) (aL_at hL hq) (kk la H locs cells slots hP hz hS hL hcs hss)
  | aload_n q =>
    cases hq : aLoc ls q.val with
    | none => simp [aOp, hq] at ho
    | some v => cases v with
      | inl z => simp [aOp, hq] at ho
      | inr z =>
        simp only [aOp, hq] at ho
        cases ho
        exact lv_aload_n hx hb (aDec1 hM hf rfl rfl) rfl (aL_at hL hq) (kk la H locs cells slots hP hz hS hL hcs hss)
  | istore q =>
    cases st with
    | nil => simp [aOp] at ho
    | cons v st => cases v with
      | inr z => simp [aOp] at ho
      | inl z =>
        obtain ⟨g1, g2⟩ := aBlt ho
        cases g2
        exact lv_istore hx hb (aDec1 hM hf rfl rfl) hL g1 rfl (fun la' hl => kk la' H locs cells slots hP hz hS (aL_set hl) hcs hss)
  | istore_n q =>
    cases st with
    | nil => simp [aOp] at ho
    | cons v st => cases v with
      | inr z => simp [aOp] at ho
      | inl z =>
        obtain ⟨g1, g2⟩ := aBlt ho
        cases g2
        exact lv_istore_n hx hb (aDec1 hM hf rfl rfl) rfl hL g1 rfl (fun la' hl => kk la' H locs cells slots hP hz hS (aL_set hl) hcs hss)
  | astore q =>
    cases st with
    | nil => simp [aOp] at ho
    | cons v st => cases v with
      | inl z => simp [aOp] at ho
      | inr z =>
        obtain ⟨g1, g2⟩ := aBlt ho
        cases g2
        exact lv_astore hx hb (aDec1 hM hf rfl rfl) hL g1 rfl (fun la' hl => kk la' H locs cells slots hP hz hS (aL_set hl) hcs hss)
  | astore_n q =>
    cases st with
    | nil => simp [aOp] at ho
    | cons v st => cases v with
      | inl z => simp [aOp] at ho
      | inr z =>
        obtain ⟨g1, g2⟩ := aBlt ho
        cases g2
        exact lv_astore_n hx hb (aDec1 hM hf rfl rfl) rfl hL g1 rfl (fun la' hl => kk la' H locs cells slots hP hz hS (aL_set hl) hcs hss)
  | iinc q z =>
    cases hq : aLoc ls q with
    | none => simp [aOp, hq] at ho
    | some v => cases v with
      | inr z => simp [aOp, hq] at ho
      | inl x =>
        simp only [aOp, hq] at ho
        obtain ⟨g1, g2⟩ := aBlt ho
        cases g2
        have hm : (q, Value.int (Int32.ofInt x)) ∈ aAss (aAd base b0 adK) ls := aAss_in.mpr ⟨.inl x, by
          unfold aLoc at hq
          cases hl : ls[q]? with
          | none => rw [hl] at hq; cases hq
          | some o => cases o with
            | none => rw [hl] at hq; cases hq
            | some w => rw [hl] at hq; cases hq; rfl, rfl⟩
        obtain ⟨j, hj⟩ := List.getElem?_of_mem hm
        exact lv_iinc hx hb (aDec1 hM hf rfl rfl) hL hj (i32_add x z) g1 rfl (fun la' hl => kk la' H locs cells slots hP hz hS (aL_set (v := .inl (x + z)) hl) hcs hss)
  | iadd =>
    match st, ho with
    | .inl y :: .inl x :: st, ho =>
      cases ho
      refine lv_iadd hx hb (aDec1 hM hf rfl rfl) ?_
      rw [i32_add]
      exact kk la H locs cells slots hP hz hS hL hcs hss
  | isub =>
    match st, ho with
    | .inl y :: .inl x :: st, ho =>
      cases ho
      refine lv_isub hx hb (aDec1 hM hf rfl rfl) ?_
      rw [i32_sub]
      exact kk la H locs cells slots hP hz hS hL hcs hss
  | imul =>
    match st, ho with
    | .inl y :: .inl x :: st, ho =>
      cases ho
      refine lv_imul hx hb (aDec1 hM hf rfl rfl) ?_
      rw [i32_mul]
      exact kk la H locs cells slots hP hz hS hL hcs hss
  | ineg =>
    match st, ho with
    | .inl x :: st, ho =>
      cases ho
      refine lv_ineg hx hb (aDec1 hM hf rfl rfl) ?_
      rw [i32_neg]
      exact kk la H locs cells slots hP hz hS hL hcs hss
  | iand =>
    match st, ho with
    | .inl y :: .inl x :: st, ho =>
      cases ho
      refine lv_iand hx hb (aDec1 hM hf rfl rfl) ?_
      rw [i32_op (fun x y => x &&& y)]
      exact kk la H locs cells slots hP hz hS hL hcs hss
  | ior =>
    match st, ho with
    | .inl y :: .inl x :: st, ho =>
      cases ho
      refine lv_ior hx hb (aDec1 hM hf rfl rfl) ?_
      rw [i32_op (fun x y => x ||| y)]
      exact kk la H locs cells slots hP hz hS hL hcs hss
  | ixor =>
    match st, ho with
    | .inl y :: .inl x :: st, ho =>
      cases ho
      refine lv_ixor hx hb (aDec1 hM hf rfl rfl) ?_
      rw [i32_op (fun x y => x ^^^ y)]
      exact kk la H locs cells slots hP hz hS hL hcs hss
  | ishl =>
    match st, ho with
    | .inl y :: .inl x :: st, ho =>
      cases ho
      refine lv_ishl hx hb (aDec1 hM hf rfl rfl) ?_
      rw [i32_op (fun x y => x <<< (y &&& 31))]
      exact kk la H locs cells slots hP hz hS hL hcs hss
  | ishr =>
    match st, ho with
    | .inl y :: .inl x :: st, ho =>
      cases ho
      refine lv_ishr hx hb (aDec1 hM hf rfl rfl) ?_
      rw [i32_op (fun x y => x >>> (y &&& 31))]
      exact kk la H locs cells slots hP hz hS hL hcs hss
  | iushr =>
    match st, ho with
    | .inl y :: .inl x :: st, ho =>
      cases ho
      exact lv_iushr hx hb (aDec1 hM hf rfl rfl) (i32_op (fun x y => (x.toUInt32 >>> (y.toUInt32 &&& Int32.toUInt32 31)).toInt32) x y) (kk la H locs cells slots hP hz hS hL hcs hss)
  | dup =>
    match st, ho with
    | x :: st, ho =>
      cases ho
      exact lv_dup hx hb (aDec1 hM hf rfl rfl) (aC_cat _ x) (kk la H locs cells slots hP hz hS hL hcs hss)
  | dup2 =>
    match st, ho with
    | x :: y :: st, ho =>
      cases ho
      exact lv_dup2_11 hx hb (aDec1 hM hf rfl rfl) (aC_cat _ x) (aC_cat _ y) (kk la H locs cells slots hP hz hS hL hcs hss)
  | pop =>
    match st, ho with
    | x :: st, ho =>
      cases ho
      exact lv_pop hx hb (aDec1 hM hf rfl rfl) (aC_cat _ x) (kk la H locs cells slots hP hz hS hL hcs hss)
  | goto off =>
    simp only [aOp] at ho
    cases hq : decide (0 ≤ (pc : Int) + off) with
    | false => rw [hq] at ho; cases ho
    | true =>
      rw [hq] at ho
      cases ho
      have hq := of_decide_eq_true hq
      exact lv_goto (tgt := aJmp pc off) hx hb (aDec1 hM hf rfl rfl) (by unfold aJmp; omega) (kk la H locs cells slots hP hz hS hL hcs hss)
  | getfield idx =>
    match st, ho with
    | .inr q :: st, ho =>
      obtain ⟨v, hv1, hv2⟩ := Option.map_eq_some_iff.mp ho
      cases hv2
      exact a_getfield hM hv1 hcx hP (aDec1 hM hf rfl rfl) (kk la H locs cells slots hP hz hS hL hcs hss)
  | putfield idx =>
    match st, ho with
    | v :: .inr q :: st, ho =>
      obtain ⟨h', hv1, hv2⟩ := Option.map_eq_some_iff.mp ho
      cases hv2
      exact a_putfield hM hv1 hcx hP (aDec1 hM hf rfl rfl) hS (fun H1 locs1 g1 g2 g3 => kk la H1 locs1 cells slots g1 (g2.trans hz) g3 hL hcs hss)
  | arraylength =>
    match st, ho with
    | .inr q :: st, ho =>
      simp only [aOp] at ho
      cases hq : aGet h q with
      | none => rw [hq] at ho; cases ho
      | some ee => cases ee with
        | inr o => rw [hq] at ho; cases ho
        | inl a =>
          rw [hq] at ho
          cases ho
          exact va_alen (D := D) (cl := aCls) (tys := [(cI, .int)]) (v := Int32.ofInt (a.length : Int)) hx hb hiv.1 (aP_one hP hq) 0 0 rfl rfl rfl (aDec1 hM hf rfl rfl) (kk la H locs cells slots hP hz hS hL hcs hss)
  | _ => simp [aOp] at ho
end AOP
theorem aStep_ok {M : aM} {d kc ks n : Nat} {sc : Option (Nat × (Nat → Int32))} {Q : Option aV → aH → Prop} (hM : aOK M) {f f' : aF} (h : aStep M f = some f') (k : AW M d kc ks n sc Q f') : AW M d kc ks n sc Q f := by
  obtain ⟨pc, ls, st, hh⟩ := f
  unfold aStep at h
  cases hf : aFetch (aMt M) pc with
  | none => simp only [hf] at h; cases h
  | some i =>
    simp only [hf] at h
    exact aOp_ok hM hf h k
/-- a straight stretch of N instructions -/
theorem aGo {M : aM} {d kc ks n : Nat} {sc : Option (Nat × (Nat → Int32))} {Q : Option aV → aH → Prop} (hM : aOK M) (N : Nat) {f f' : aF} (h : aRun M N f = some f') (k : AW M d kc ks n sc Q f') : AW M d kc ks n sc Q f := by
  induction N generalizing f with
  | zero => cases h; exact k
  | succ N ih =>
    unfold aRun at h
    cases hs : aStep M f with
    | none => rw [hs] at h; cases h
    | some g => rw [hs] at h; exact aStep_ok hM hs (ih h)
end
section
/-! The rules of the abstract machine: branches, arrays, division, switches, answers, new cells, calls. -/
def aI (z : Int) : Prop := -2147483648 ≤ z ∧ z ≤ 2147483647
theorem aI_toInt {z : Int} (h : aI z) : (Int32.ofInt z).toInt = z := Int32.toInt_ofInt_of_le h.1 (by have := h.2; omega)
theorem aI_lt {x y : Int} (hx : aI x) (hy : aI y) : Int32.ofInt x < Int32.ofInt y ↔ x < y := by rw [Int32.lt_iff_toInt_lt, aI_toInt hx, aI_toInt hy]
theorem aI_le {x y : Int} (hx : aI x) (hy : aI y) : Int32.ofInt x ≤ Int32.ofInt y ↔ x ≤ y := by rw [Int32.le_iff_toInt_le, aI_toInt hx, aI_toInt hy]
theorem aI_eq {x y : Int} (hx : aI x) (hy : aI y) : Int32.ofInt x = Int32.ofInt y ↔ x = y := by rw [← Int32.toInt_inj, aI_toInt hx, aI_toInt hy]
theorem aI_0 : aI 0 := ⟨by decide, by decide⟩
theorem aIx {j N : Nat} (h : j < N) (h2 : j < 2147483648) : ¬ (nI j < 0 ∨ N ≤ (nI j).toNatClampNeg) := fun q => by
  rcases q with q | q
  · exact nI_pos (by omega) q
  · rw [nI_clamp (by omega)] at q; omega
theorem aCat_sum (ad : Nat → Nat) (st : List aV) : ((st.map (aC ad)).map fun v => v.category).sum = st.length := by
  induction st with
  | nil => rfl
  | cons v st ih => simp only [List.map_cons, List.sum_cons, List.length_cons, ih, aC_cat]; omega
theorem i32_0 : (0 : Int32) = Int32.ofInt 0 := rfl
section ARU
variable {M : aM} {d kc ks n : Nat} {sc : Option (Nat × (Nat → Int32))} {Q : Option aV → aH → Prop} {pc tgt : Nat} {off : Int} {ls : aLs} {st : List aV} {h : aH} {x y : Int}
theorem b_eq (hM : aOK M) (hf : aFetch (aMt M) pc = some (.if_icmp .eq off)) (ht : (pc : Int) + off = (tgt : Int)) (hx : aI x) (hy : aI y) (kt : x = y → AW M d kc ks n sc Q (tgt, ls, st, h)) (kf : x ≠ y → AW M d kc ks n sc Q (pc + 3, ls, st, h)) : AW M d kc ks n sc Q (pc, ls, .inl y :: .inl x :: st, h) := by
  intro p l e R s m args below meth c D cI base b0 adK adV C1 S1 Z hcx hC hS1 hfin la H locs cells slots hP hz hS hL hcs hss
  obtain ⟨hX, hb, -⟩ := id hcx
  exact lv_icmp_eq hX hb (aDec1 hM hf rfl rfl) ht (fun z => kt ((aI_eq hx hy).mp z) p l e R s m args below meth c D cI base b0 adK adV C1 S1 Z hcx hC hS1 hfin la H locs cells slots hP hz hS hL hcs hss) (fun z => kf (fun e => z ((aI_eq hx hy).mpr e)) p l e R s m args below meth c D cI base b0 adK adV C1 S1 Z hcx hC hS1 hfin la H locs cells slots hP hz hS hL hcs hss)
theorem b0_eq (hM : aOK M) (hf : aFetch (aMt M) pc = some (.ifCond .eq off)) (ht : (pc : Int) + off = (tgt : Int)) (hx : aI x) (kt : x = 0 → AW M d kc ks n sc Q (tgt, ls, st, h)) (kf : x ≠ 0 → AW M d kc ks n sc Q (pc + 3, ls, st, h)) : AW M d kc ks n sc Q (pc, ls, .inl x :: st, h) := by
  have hy := aI_0
  intro p l e R s m args below meth c D cI base b0 adK adV C1 S1 Z hcx hC hS1 hfin la H locs cells slots hP hz hS hL hcs hss
  obtain ⟨hX, hb, -⟩ := id hcx
  exact lv_if_eq hX hb (aDec1 hM hf rfl rfl) ht (fun z => kt ((aI_eq hx hy).mp z) p l e R s m args below meth c D cI base b0 adK adV C1 S1 Z hcx hC hS1 hfin la H locs cells slots hP hz hS hL hcs hss) (fun z => kf (fun e => z ((aI_eq hx hy).mpr e)) p l e R s m args below meth c D cI base b0 adK adV C1 S1 Z hcx hC hS1 hfin la H locs cells slots hP hz hS hL hcs hss)
theorem b_ne (hM : aOK M) (hf : aFetch (aMt M) pc = some (.if_icmp .ne off)) (ht : (pc : Int) + off = (tgt : Int)) (hx : aI x) (hy : aI y) (kt : x ≠ y → AW M d kc ks n sc Q (tgt, ls, st, h)) (kf : x = y → AW M d kc ks n sc Q (pc + 3, ls, st, h)) : AW M d kc ks n sc Q (pc, ls, .inl y :: .inl x :: st, h) := by
  intro p l e R s m args below meth c D cI base b0 adK adV C1 S1 Z hcx hC hS1 hfin la H locs cells slots hP hz hS hL hcs hss
  obtain ⟨hX, hb, -⟩ := id hcx
  exact lv_icmp_ne hX hb (aDec1 hM hf rfl rfl) ht (fun z => kt (fun e => z ((aI_eq hx hy).mpr e)) p l e R s m args below meth c D cI base b0 adK adV C1 S1 Z hcx hC hS1 hfin la H locs cells slots hP hz hS hL hcs hss) (fun z => kf ((aI_eq hx hy).mp z) p l e R s m args below meth c D cI base b0 adK adV C1 S1 Z hcx hC hS1 hfin la H locs cells slots hP hz hS hL hcs hss)
theorem b0_ne (hM : aOK M) (hf : aFetch (aMt M) pc = some (.ifCond .ne off)) (ht : (pc : Int) + off = (tgt : Int)) (hx : aI x) (kt : x ≠ 0 → AW M d kc ks n sc Q (tgt, ls, st, h)) (kf : x = 0 → AW M d kc ks n sc Q (pc + 3, ls, st, h)) : AW M d kc ks n sc Q (pc, ls, .inl x :: st, h) := by
  have hy := aI_0
  intro p l e R s m args below meth c D cI base b0 adK adV C1 S1 Z hcx hC hS1 hfin la H locs cells slots hP hz hS hL hcs hss
  obtain ⟨hX, hb, -⟩ := id hcx
  exact lv_if_ne hX hb (aDec1 hM hf rfl rfl) ht (fun z => kt (fun e => z ((aI_eq hx hy).mpr e)) p l e R s m args below meth c D cI base b0 adK adV C1 S1 Z hcx hC hS1 hfin la H locs cells slots hP hz hS hL hcs hss) (fun z => kf ((aI_eq hx hy).mp z) p l e R s m args below meth c D cI base b0 adK adV C1 S1 Z hcx hC hS1 hfin la H locs cells slots hP hz hS hL hcs hss)
theorem b_lt (hM : aOK M) (hf : aFetch (aMt M) pc = some (.if_icmp .lt off)) (ht : (pc : Int) + off = (tgt : Int)) (hx : aI x) (hy : aI y) (kt : x < y → AW M d kc ks n sc Q (tgt, ls, st, h)) (kf : y ≤ x → AW M d kc ks n sc Q (pc + 3, ls, st, h)) : AW M d kc ks n sc Q (pc, ls, .inl y :: .inl x :: st, h) := by
  intro p l e R s m args below meth c D cI base b0 adK adV C1 S1 Z hcx hC hS1 hfin la H locs cells slots hP hz hS hL hcs hss
  obtain ⟨hX, hb, -⟩ := id hcx
  exact lv_icmp_lt hX hb (aDec1 hM hf rfl rfl) ht (fun z => kt ((aI_lt hx hy).mp z) p l e R s m args below meth c D cI base b0 adK adV C1 S1 Z hcx hC hS1 hfin la H locs cells slots hP hz hS hL hcs hss) (fun z => kf (Int.not_lt.mp (fun e => z ((aI_lt hx hy).mpr e))) p l e R s m args below meth c D cI base b0 adK adV C1 S1 Z hcx hC hS1 hfin la H locs cells slots hP hz hS hL hcs hss)
theorem b0_lt (hM : aOK M) (hf : aFetch (aMt M) pc = some (.ifCond .lt off)) (ht : (pc : Int) + off = (tgt : Int)) (hx : aI x) (kt : x < 0 → AW M d kc ks n sc Q (tgt, ls, st, h)) (kf : 0 ≤ x → AW M d kc ks n sc Q (pc + 3, ls, st, h)) : AW M d kc ks n sc Q (pc, ls, .inl x :: st, h) := by
  have hy := aI_0
  intro p l e R s m args below meth c D cI base b0 adK adV C1 S1 Z hcx hC hS1 hfin la H locs cells slots hP hz hS hL hcs hss
  obtain ⟨hX, hb, -⟩ := id hcx
  exact lv_if_lt hX hb (aDec1 hM hf rfl rfl) ht (fun z => kt ((aI_lt hx hy).mp z) p l e R s m args below meth c D cI base b0 adK adV C1 S1 Z hcx hC hS1 hfin la H locs cells slots hP hz hS hL hcs hss) (fun z => kf (Int.not_lt.mp (fun e => z ((aI_lt hx hy).mpr e))) p l e R s m args below meth c D cI base b0 adK adV C1 S1 Z hcx hC hS1 hfin la H locs cells slots hP hz hS hL hcs hss)
theorem b_ge (hM : aOK M) (hf : aFetch (aMt M) pc = some (.if_icmp .ge off)) (ht : (pc : Int) + off = (tgt : Int)) (hx : aI x) (hy : aI y) (kt : y ≤ x → AW M d kc ks n sc Q (tgt, ls, st, h)) (kf : x < y → AW M d kc ks n sc Q (pc + 3, ls, st, h)) : AW M d kc ks n sc Q (pc, ls, .inl y :: .inl x :: st, h) := by
  intro p l e R s m args below meth c D cI base b0 adK adV C1 S1 Z hcx hC hS1 hfin la H locs cells slots hP hz hS hL hcs hss
  obtain ⟨hX, hb, -⟩ := id hcx
  exact lv_icmp_ge hX hb (aDec1 hM hf rfl rfl) ht (fun z => kt ((aI_le hy hx).mp z) p l e R s m args below meth c D cI base b0 adK adV C1 S1 Z hcx hC hS1 hfin la H locs cells slots hP hz hS hL hcs hss) (fun z => kf (Int.not_le.mp (fun e => z ((aI_le hy hx).mpr e))) p l e R s m args below meth c D cI base b0 adK adV C1 S1 Z hcx hC hS1 hfin la H locs cells slots hP hz hS hL hcs hss)
theorem b0_ge (hM : aOK M) (hf : aFetch (aMt M) pc = some (.ifCond .ge off)) (ht : (pc : Int) + off = (tgt : Int)) (hx : aI x) (kt : 0 ≤ x → AW M d kc ks n sc Q (tgt, ls, st, h)) (kf : x < 0 → AW M d kc ks n sc Q (pc + 3, ls, st, h)) : AW M d kc ks n sc Q (pc, ls, .inl x :: st, h) := by
  have hy := aI_0
  intro p l e R s m args below meth c D cI base b0 adK adV C1 S1 Z hcx hC hS1 hfin la H locs cells slots hP hz hS hL hcs hss
  obtain ⟨hX, hb, -⟩ := id hcx
  exact lv_if_ge hX hb (aDec1 hM hf rfl rfl) ht (fun z => kt ((aI_le hy hx).mp z) p l e R s m args below meth c D cI base b0 adK adV C1 S1 Z hcx hC hS1 hfin la H locs cells slots hP hz hS hL hcs hss) (fun z => kf (Int.not_le.mp (fun e => z ((aI_le hy hx).mpr e))) p l e R s m args below meth c D cI base b0 adK adV C1 S1 Z hcx hC hS1 hfin la H locs cells slots hP hz hS hL hcs hss)
theorem b_gt (hM : aOK M) (hf : aFetch (aMt M) pc = some (.if_icmp .gt off)) (ht : (pc : Int) + off = (tgt : Int)) (hx : aI x) (hy : aI y) (kt : y < x → AW M d kc ks n sc Q (tgt, ls, st, h)) (kf : x ≤ y → AW M d kc ks n sc Q (pc + 3, ls, st, h)) : AW M d kc ks n sc Q (pc, ls, .inl y :: .inl x :: st, h) := by
  intro p l e R s m args below meth c D cI base b0 adK adV C1 S1 Z hcx hC hS1 hfin la H locs cells slots hP hz hS hL hcs hss
  obtain ⟨hX, hb, -⟩ := id hcx
  exact lv_icmp_gt hX hb (aDec1 hM hf rfl rfl) ht (fun z => kt ((aI_lt hy hx).mp z) p l e R s m args below meth c D cI base b0 adK adV C1 S1 Z hcx hC hS1 hfin la H locs cells slots hP hz hS hL hcs hss) (fun z => kf (Int.not_lt.mp (fun e => z ((aI_lt hy hx).mpr e))) p l e R s m args below meth c D cI base b0 adK adV C1 S1 Z hcx hC hS1 hfin la H locs cells slots hP hz hS hL hcs hss)
theorem b0_gt (hM : aOK M) (hf : aFetch (aMt M) pc = some (.ifCond .gt off)) (ht : (pc : Int) + off = (tgt : Int)) (hx : aI x) (kt : 0 < x → AW M d kc ks n sc Q (tgt, ls, st, h)) (kf : x ≤ 0 → AW M d kc ks n sc Q (pc + 3, ls, st, h)) : AW M d kc ks n sc Q (pc, ls, .inl x :: st, h) := by
  have hy := aI_0
  intro p l e R s m args below meth c D cI base b0 adK adV C1 S1 Z hcx hC hS1 hfin la H locs cells slots hP hz hS hL hcs hss
  obtain ⟨hX, hb, -⟩ := id hcx
  exact lv_if_gt hX hb (aDec1 hM hf rfl rfl) ht (fun z => kt ((aI_lt hy hx).mp z) p l e R s m args below meth c D cI base b0 adK adV C1 S1 Z hcx hC hS1 hfin la H locs cells slots hP hz hS hL hcs hss) (fun z => kf (Int.not_lt.mp (fun e => z ((aI_lt hy hx).mpr e))) p l e R s m args below meth c D cI base b0 adK adV C1 S1 Z hcx hC hS1 hfin la H locs cells slots hP hz hS hL hcs hss)
theorem b_le (hM : aOK M) (hf : aFetch (aMt M) pc = some (.if_icmp .le off)) (ht : (pc : Int) + off = (tgt : Int)) (hx : aI x) (hy : aI y) (kt : x ≤ y → AW M d kc ks n sc Q (tgt, ls, st, h)) (kf : y < x → AW M d kc ks n sc Q (pc + 3, ls, st, h)) : AW M d kc ks n sc Q (pc, ls, .inl y :: .inl x :: st, h) := by
  intro p l e R s m args below meth c D cI base b0 adK adV C1 S1 Z hcx hC hS1 hfin la H locs cells slots hP hz hS hL hcs hss
  obtain ⟨hX, hb, -⟩ := id hcx
  exact lv_icmp_le hX hb (aDec1 hM hf rfl rfl) ht (fun z => kt ((aI_le hx hy).mp z) p l e R s m args below meth c D cI base b0 adK adV C1 S1 Z hcx hC hS1 hfin la H locs cells slots hP hz hS hL hcs hss) (fun z => kf (Int.not_le.mp (fun e => z ((aI_le hx hy).mpr e))) p l e R s m args below meth c D cI base b0 adK adV C1 S1 Z hcx hC hS1 hfin la H locs cells slots hP hz hS hL hcs hss)
theorem b0_le (hM : aOK M) (hf : aFetch (aMt M) pc = some (.ifCond .le off)) (ht : (pc : Int) + off = (tgt : Int)) (hx : aI x) (kt : x ≤ 0 → AW M d kc ks n sc Q (tgt, ls, st, h)) (kf : 0 < x → AW M d kc ks n sc Q (pc + 3, ls, st, h)) : AW M d kc ks n sc Q (pc, ls, .inl x :: st, h) := by
  have hy := aI_0
  intro p l e R s m args below meth c D cI base b0 adK adV C1 S1 Z hcx hC hS1 hfin la H locs cells slots hP hz hS hL hcs hss
  obtain ⟨hX, hb, -⟩ := id hcx
  exact lv_if_le hX hb (aDec1 hM hf rfl rfl) ht (fun z => kt ((aI_le hx hy).mp z) p l e R s m args below meth c D cI base b0 adK adV C1 S1 Z hcx hC hS1 hfin la H locs cells slots hP hz hS hL hcs hss) (fun z => kf (Int.not_le.mp (fun e => z ((aI_le hx hy).mpr e))) p l e R s m args below meth c D cI base b0 adK adV C1 S1 Z hcx hC hS1 hfin la H locs cells slots hP hz hS hL hcs hss)
/-- two answers that are the same, of whatever size -/
theorem b_same (hM : aOK M) (hf : aFetch (aMt M) pc = some (.if_icmp .eq off)) (ht : (pc : Int) + off = (tgt : Int)) (hxy : x = y) (kt : AW M d kc ks n sc Q (tgt, ls, st, h)) : AW M d kc ks n sc Q (pc, ls, .inl y :: .inl x :: st, h) := by
  intro p l e R s m args below meth c D cI base b0 adK adV C1 S1 Z hcx hC hS1 hfin la H locs cells slots hP hz hS hL hcs hss
  obtain ⟨hX, hb, -⟩ := id hcx
  exact lv_icmp_eq hX hb (aDec1 hM hf rfl rfl) ht (fun z => kt p l e R s m args below meth c D cI base b0 adK adV C1 S1 Z hcx hC hS1 hfin la H locs cells slots hP hz hS hL hcs hss) (fun z => absurd (by rw [hxy]) z)
/-! division of numbers that are not below 0 -/
theorem i32_div (hx : 0 ≤ x ∧ x ≤ 2147483647) (hy : 0 < y ∧ y ≤ 2147483647) : Int32.ofInt x / Int32.ofInt y = Int32.ofInt (x / y) := by
  have h1 : x / y ≤ x := Int.ediv_le_self y hx.1
  have h2 : 0 ≤ x / y := Int.ediv_nonneg hx.1 (by omega)
  rw [← Int32.toInt_inj, Int32.toInt_div, aI_toInt ⟨by omega, hx.2⟩, aI_toInt ⟨by omega, hy.2⟩, Int.tdiv_eq_ediv_of_nonneg hx.1, aI_toInt ⟨by omega, by omega⟩]
  exact Int.bmod_eq_of_le (by omega) (by omega)
theorem b_div (hM : aOK M) (hf : aFetch (aMt M) pc = some .idiv) (hx : 0 ≤ x ∧ x ≤ 2147483647) (hy : 0 < y ∧ y ≤ 2147483647) (kk : AW M d kc ks n sc Q (pc + 1, ls, .inl (x / y) :: st, h)) : AW M d kc ks n sc Q (pc, ls, .inl y :: .inl x :: st, h) := by
  intro p l e R s m args below meth c D cI base b0 adK adV C1 S1 Z hcx hC hS1 hfin la H locs cells slots hP hz hS hL hcs hss
  obtain ⟨hX, hb, -⟩ := id hcx
  refine lv_idiv hX hb (aDec1 hM hf rfl rfl) (fun z => ?_) ?_
  · have := (aI_eq (x := y) (y := 0) ⟨by omega, hy.2⟩ aI_0).mp z
    omega
  · rw [i32_div hx hy]
    exact kk p l e R s m args below meth c D cI base b0 adK adV C1 S1 Z hcx hC hS1 hfin la H locs cells slots hP hz hS hL hcs hss
theorem b_rem (hM : aOK M) (hf : aFetch (aMt M) pc = some .irem) (hx : 0 ≤ x ∧ x ≤ 2147483647) (hy : 0 < y ∧ y ≤ 2147483647) (kk : AW M d kc ks n sc Q (pc + 1, ls, .inl (x % y) :: st, h)) : AW M d kc ks n sc Q (pc, ls, .inl y :: .inl x :: st, h) := by
  intro p l e R s m args below meth c D cI base b0 adK adV C1 S1 Z hcx hC hS1 hfin la H locs cells slots hP hz hS hL hcs hss
  obtain ⟨hX, hb, -⟩ := id hcx
  refine lv_irem hX hb (aDec1 hM hf rfl rfl) (fun z => ?_) ?_
  · have := (aI_eq (x := y) (y := 0) ⟨by omega, hy.2⟩ aI_0).mp z
    omega
  · rw [i32_div hx hy, i32_mul, i32_sub, show x - x / y * y = x % y by rw [Int.emod_def, Int.mul_comm]]
    exact kk p l e R s m args below meth c D cI base b0 adK adV C1 S1 Z hcx hC hS1 hfin la H locs cells slots hP hz hS hL hcs hss
/-! switches -/
theorem b_swIn {dflt lo hi : Int} {offs : Array Int} (hM : aOK M) (hf : aFetch (aMt M) pc = some (.tableswitch dflt lo hi offs)) (hx : aI x) (h1 : lo ≤ x) (h2 : x ≤ hi) (ho : offs[(x - lo).toNat]? = some off) (ht : (pc : Int) + off = (tgt : Int)) (kk : AW M d kc ks n sc Q (tgt, ls, st, h)) : AW M d kc ks n sc Q (pc, ls, .inl x :: st, h) := by
  intro p l e R s m args below meth c D cI base b0 adK adV C1 S1 Z hcx hC hS1 hfin la H locs cells slots hP hz hS hL hcs hss
  obtain ⟨hX, hb, -⟩ := id hcx
  obtain ⟨len, hd, -⟩ := aDec_of hM hf
  exact lv_tableIn hX hb hd (by rw [aI_toInt hx]; omega) (by rw [aI_toInt hx]; omega) (by rw [aI_toInt hx]; exact ho) ht (kk p l e R s m args below meth c D cI base b0 adK adV C1 S1 Z hcx hC hS1 hfin la H locs cells slots hP hz hS hL hcs hss)
theorem b_swOut {dflt lo hi : Int} {offs : Array Int} (hM : aOK M) (hf : aFetch (aMt M) pc = some (.tableswitch dflt lo hi offs)) (hx : aI x) (h1 : x < lo ∨ hi < x) (ht : (pc : Int) + dflt = (tgt : Int)) (kk : AW M d kc ks n sc Q (tgt, ls, st, h)) : AW M d kc ks n sc Q (pc, ls, .inl x :: st, h) := by
  intro p l e R s m args below meth c D cI base b0 adK adV C1 S1 Z hcx hC hS1 hfin la H locs cells slots hP hz hS hL hcs hss
  obtain ⟨hX, hb, -⟩ := id hcx
  obtain ⟨len, hd, -⟩ := aDec_of hM hf
  exact lv_tableOut hX hb hd (by rw [aI_toInt hx]; exact h1) ht (kk p l e R s m args below meth c D cI base b0 adK adV C1 S1 Z hcx hC hS1 hfin la H locs cells slots hP hz hS hL hcs hss)
theorem b_look {dflt : Int} {ps : Array (Int × Int)} (hM : aOK M) (hf : aFetch (aMt M) pc = some (.lookupswitch dflt ps)) (hp : (ps.toList.zip (ps.toList.drop 1)).all (fun (a, next) => a.1 < next.1) = true) (hx : aI x) (ho : Op.lookupswitch.offset ps.toList dflt x = off) (ht : (pc : Int) + off = (tgt : Int)) (kk : AW M d kc ks n sc Q (tgt, ls, st, h)) : AW M d kc ks n sc Q (pc, ls, .inl x :: st, h) := by
  intro p l e R s m args below meth c D cI base b0 adK adV C1 S1 Z hcx hC hS1 hfin la H locs cells slots hP hz hS hL hcs hss
  obtain ⟨hX, hb, -⟩ := id hcx
  obtain ⟨len, hd, -⟩ := aDec_of hM hf
  exact lv_lookup hX hb hd hp (by rw [aI_toInt hx]; exact ho) ht (kk p l e R s m args below meth c D cI base b0 adK adV C1 S1 Z hcx hC hS1 hfin la H locs cells slots hP hz hS hL hcs hss)
/-! arrays of ints -/
theorem b_ald {k j : Nat} {a : List Int} (hM : aOK M) (hf : aFetch (aMt M) pc = some .iaload) (hk : aGet h k = some (.inl a)) (hx : x = (j : Int)) (hj : j < a.length) (hj2 : j < 2147483648) (kk : AW M d kc ks n sc Q (pc + 1, ls, .inl (a.getD j 0) :: st, h)) : AW M d kc ks n sc Q (pc, ls, .inl x :: .inr k :: st, h) := by
  intro p l e R s m args below meth c D cI base b0 adK adV C1 S1 Z hcx hC hS1 hfin la H locs cells slots hP hz hS hL hcs hss
  obtain ⟨hX, hb, hml, hr, hin, hown, hts, hlk, hiv, -⟩ := id hcx
  have ej : Int32.ofInt x = nI j := by rw [hx]; rfl
  refine va_iald (D := D) (cl := aCls) (tys := [(cI, .int)]) (n := a.length) (f := fun j => Int32.ofInt (a.getD j 0)) hX hb hiv.1 (aP_one hP hk) 0 0 rfl rfl (i := Int32.ofInt x) (by rw [ej]; exact aIx hj (by omega)) (aDec1 hM hf rfl rfl) ?_
  rw [ej, nI_clamp (by omega)]
  exact kk p l e R s m args below meth c D cI base b0 adK adV C1 S1 Z hcx hC hS1 hfin la H locs cells slots hP hz hS hL hcs hss
theorem b_ast {k j : Nat} {a : List Int} (hM : aOK M) (hf : aFetch (aMt M) pc = some .iastore) (hk : aGet h k = some (.inl a)) (hx : x = (j : Int)) (hj : j < a.length) (hj2 : j < 2147483648) (kk : AW M d kc ks n sc Q (pc + 1, ls, st, aSet h k (.inl (a.set j y)))) : AW M d kc ks n sc Q (pc, ls, .inl y :: .inl x :: .inr k :: st, h) := by
  intro p l e R s m args below meth c D cI base b0 adK adV C1 S1 Z hcx hC hS1 hfin la H locs cells slots hP hz hS hL hcs hss
  obtain ⟨hX, hb, hml, hr, hin, hown, hts, hlk, hiv, -⟩ := id hcx
  have ej : Int32.ofInt x = nI j := by rw [hx]; rfl
  have hfk := aGet_fits hP.1 hk
  have hat : H[aAd base b0 adK k]? = some (vp_cell cI (a.length, .inl (fun j => Int32.ofInt (a.getD j 0)))) := hP.2 k _ hk
  have hba' : base ≤ aAd base b0 adK k := by rw [aAd_fits hfk]; omega
  refine W.iast (x := Int32.ofInt y) (j := Int32.ofInt x) hX hb hat ((hiv.1.2 0 _ rfl).1 a.length (fun j => .int (Int32.ofInt (a.getD j 0)))) (fun q => by cases q) (by
    show ¬ (_ ∨ (arrV _ _ _).slots.size ≤ _)
    rw [arrV_size, ej]
    exact aIx hj hj2) rfl rfl (aDec1 hM hf rfl rfl) fun H1 z1 z2 z3 => ?_
  refine kk p l e R s m args below meth c D cI base b0 adK adV C1 S1 Z hcx hC hS1 hfin la H1 _ cells slots (aP_set hP hfk ?_ z3) (z2.trans hz) (hS.put z2 z3 hba') hL hcs hss
  show H1[_]? = some (vp_cell _ _)
  rw [z1, ej, nI_clamp (by omega), vp_cell_i, vp_cell_i, arrV_store]
  congr 2
  · rw [List.length_set]
  · funext q
    simp only [updV]
    by_cases hq : q = j
    · subst hq
      rw [if_pos rfl, List.getD_eq_getElem?_getD, List.getElem?_set_self hj]
      rfl
    · rw [if_neg hq, List.getD_eq_getElem?_getD, List.getD_eq_getElem?_getD, List.getElem?_set_ne (fun z => hq z.symm)]
/-! the law's script -/
theorem b_sld {j L : Nat} {xs : Nat → Int32} (hM : aOK M) (hf : aFetch (aMt M) pc = some .iaload) (hs : sc = some (L, xs)) (hx : x = (j : Int)) (hj : j < L) (hj2 : L < 2147483648) (kk : AW M d kc ks n sc Q (pc + 1, ls, .inl (xs j).toInt :: st, h)) : AW M d kc ks n sc Q (pc, ls, .inl x :: .inr 1024 :: st, h) := by
  intro p l e R s m args below meth c D cI base b0 adK adV C1 S1 Z hcx hC hS1 hfin la H locs cells slots hP hz hS hL hcs hss
  obtain ⟨hX, hb, hml, hr, hin, hown, hts, hlk, hiv, -, hba, hsc⟩ := id hcx
  obtain ⟨g1, g2, g3⟩ := hsc L xs hs
  have ej : Int32.ofInt x = nI j := by rw [hx]; rfl
  refine va_sld hX hb g1 g2 (Nat.not_le.mpr g3) hS (i := Int32.ofInt x) (by rw [ej]; exact aIx hj (by omega)) (aDec1 hM hf rfl rfl) ?_
  rw [ej, nI_clamp (by omega)]
  have k2 := kk p l e R s m args below meth c D cI base b0 adK adV C1 S1 Z hcx hC hS1 hfin la H locs cells slots hP hz hS hL hcs hss
  simp only [List.map_cons, aC, Int32.ofInt_toInt] at k2
  exact k2
theorem b_slen {L : Nat} {xs : Nat → Int32} (hM : aOK M) (hf : aFetch (aMt M) pc = some .arraylength) (hs : sc = some (L, xs)) (kk : AW M d kc ks n sc Q (pc + 1, ls, .inl (L : Int) :: st, h)) : AW M d kc ks n sc Q (pc, ls, .inr 1024 :: st, h) := by
  intro p l e R s m args below meth c D cI base b0 adK adV C1 S1 Z hcx hC hS1 hfin la H locs cells slots hP hz hS hL hcs hss
  obtain ⟨hX, hb, hml, hr, hin, hown, hts, hlk, hiv, -, hba, hsc⟩ := id hcx
  obtain ⟨g1, g2, g3⟩ := hsc L xs hs
  exact va_slen hX hb g1 g2 (Nat.not_le.mpr g3) hS (aDec1 hM hf rfl rfl) (kk p l e R s m args below meth c D cI base b0 adK adV C1 S1 Z hcx hC hS1 hfin la H locs cells slots hP hz hS hL hcs hss)
/-! answers; locals that are forgotten -/
theorem b_ret {v : Option aV} (hr : aRet M pc v) (hq : Q v h) (hst : st = v.toList) : AW M d 0 ks n sc Q (pc, ls, st, h) := by
  intro p l e R s m args below meth c D cI base b0 adK adV C1 S1 Z hcx hC hS1 hfin la H locs cells slots hP hz hS hL hcs hss
  subst hst
  simp only [Nat.add_zero] at hcs
  subst hcs
  have := hfin v h pc la H locs slots hq hP hz hS (by omega) hr
  cases v <;> exact this
theorem b_lose {ls' : aLs} (hl : ∀ (i : Nat) (v : aV), ls'[i]? = some (some v) → ls[i]? = some (some v)) (kk : AW M d kc ks n sc Q (pc, ls', st, h)) : AW M d kc ks n sc Q (pc, ls, st, h) := by
  intro p l e R s m args below meth c D cI base b0 adK adV C1 S1 Z hcx hC hS1 hfin la H locs cells slots hP hz hS hL hcs hss
  refine kk p l e R s m args below meth c D cI base b0 adK adV C1 S1 Z hcx hC hS1 hfin la H locs cells slots hP hz hS (lv_less hL fun q hq => ?_) hcs hss
  obtain ⟨i, w⟩ := q
  obtain ⟨v, h1, h2⟩ := aAss_in.mp hq
  exact aAss_in.mpr ⟨v, hl i v h1, h2⟩
theorem b_post {Q' : Option aV → aH → Prop} {f : aF} (hq : ∀ v h, Q' v h → Q v h) (kk : AW M d kc ks n sc Q' f) : AW M d kc ks n sc Q f := by
  intro p l e R s m args below meth c D cI base b0 adK adV C1 S1 Z hcx hC hS1 hfin
  exact kk p l e R s m args below meth c D cI base b0 adK adV C1 S1 Z hcx hC hS1 (fun v h pc la H locs slots g => hfin v h pc la H locs slots (hq v h g))
/-! new cells -/
def aDef : FieldType → Option aV
  | .int => some (.inl 0)
  | .boolean => some (.inl 0)
  | _ => none
theorem aDef_ok (ad : Nat → Nat) {ty : FieldType} (h : aTyc ty ≤ 2) : defaultValue ty = aN ad (aDef ty) := by
  cases ty <;> first | rfl | (simp [aTyc] at h)
theorem b_new {idx k ci N : Nat} {C : String} {T : u_T} (hM : aOK M) (hf : aFetch (aMt M) pc = some (.new idx)) (hcl : aCls[ci]? = some (C, T, N)) (hlk : Cond.classLink (aMy M).cls idx C ∈ aBW) (hfk : aFits k) (hk : n = aOrd k) {fs : List (Option aV)} (hlen : fs.length = N) (hfs : ∀ j, j < N → ∀ ty, parseFieldDescriptor (T j).2.2.1 = some ty → fs[j]? = some (aDef ty))
    (kk : AW M d kc ks (n + 1) sc Q (pc + 3, ls, .inr k :: st, aSet h k (.inr (ci, fs)))) : AW M d (kc + 1) (ks + N) n sc Q (pc, ls, st, h) := by
  intro p l e R s m args below meth c D cI base b0 adK adV C1 S1 Z hcx hC hS1 hfin la H locs cells slots hP hz hS hL hcs hss
  obtain ⟨hX, hb, hml, hr, hin, hown, hts, hlo, hiv, -⟩ := id hcx
  obtain ⟨c1, ⟨tyF, c2, c4⟩, c3, c5, c6⟩ := aCls_at hcl
  simp only at c1 c2 c3 c4 c5 c6
  have hKn := hiv.1.1 ci _ hcl
  have had : aAd base b0 adK k = H.size := by rw [aAd_fits hfk, hz, hk]
  have hba := hcx.2.2.2.2.2.2.2.2.2.2.1
  refine W.newcK hX hb hown (hts _ hlk) (hts _ c5) (hts _ c6) rfl (aDec1 hM hf rfl rfl) (by omega) (by omega) hKn.2.1 had.symm fun H1 kC hkC e1 z1 o1 => ?_
  have hP1 : aP D cI (aAd base b0 adK) (aSet h k (.inr (ci, fs))) H1 := by
    refine aP_new hP hfk had ⟨_, hcl, (u_born tyF hts c1 hKn hkC e1 c2).to fun j hj => ?_⟩ (fun q hq => o1 q (by rw [had]; exact hq))
    rw [aDef_ok (aAd base b0 adK) (c4 j hj)]
    simp only [vp_V, List.getD_eq_getElem?_getD, List.getElem?_map, hfs j hj _ (c2 j hj)]
    rfl
  exact kk p l e R s m args below meth c D cI base b0 adK adV C1 S1 Z hcx hC hS1 (fun v h pc la H locs slots g1 g2 g3 => hfin v h pc la H locs slots g1 g2 (by omega)) la H1 locs (cells + 1) (slots + N) hP1 (by rw [z1, had, hz]; omega) ⟨by have := hS.1; omega, fun x h1 h2 => (o1 x (by rw [had]; exact Nat.lt_of_lt_of_le h1 hS.1)).trans (hS.2.1 x h1 h2), hS.2.2⟩ hL (by omega) (by omega)
theorem b_newa {k N : Nat} (hM : aOK M) (hf : aFetch (aMt M) pc = some (.newarray .int)) (hN : N < 65536) (hx : x = (N : Int)) (hfk : aFits k) (hk : n = aOrd k) (hI : Cond.arrayClass .int ∈ aBW)
    (kk : AW M d kc ks (n + 1) sc Q (pc + 2, ls, .inr k :: st, aSet h k (.inl (List.replicate N 0)))) : AW M d (kc + 1) (ks + N) n sc Q (pc, ls, .inl x :: st, h) := by
  intro p l e R s m args below meth c D cI base b0 adK adV C1 S1 Z hcx hC hS1 hfin la H locs cells slots hP hz hS hL hcs hss
  obtain ⟨hX, hb, hml, hr, hin, hown, hts, hlo, hiv, -⟩ := id hcx
  have ej : Int32.ofInt x = nI N := by rw [hx]; rfl
  have had : aAd base b0 adK k = H.size := by rw [aAd_fits hfk, hz, hk]
  refine va_newaK (atype := .int) (n := Int32.ofInt x) (N := N) hX hb (hts _ hI) rfl (aDec1 hM hf rfl rfl) rfl (by rw [ej]; exact nI_pos (by omega)) (by rw [ej]; exact nI_clamp (by omega)) (by show N * 4 ≤ _; omega) (by omega) (by omega) had.symm fun H1 cA e1 z1 o1 hAr hNm => ?_
  have hcA : cA = cI := Option.some.inj (hNm.symm.trans (hiv.1.2 0 _ rfl).2)
  subst hcA
  have hP1 : aP D cA (aAd base b0 adK) (aSet h k (.inl (List.replicate N 0))) H1 := by
    refine aP_new hP hfk had ?_ (fun q hq => o1 q (by rw [had]; exact hq))
    show H1[_]? = some (vp_cell _ _)
    rw [e1, vp_cell_i, List.length_replicate]
    congr 2
    funext q
    simp only [List.getD_eq_getElem?_getD, List.getElem?_replicate]
    by_cases hq : q < N
    · rw [if_pos hq]; rfl
    · rw [if_neg hq]; rfl
  exact kk p l e R s m args below meth c D cA base b0 adK adV C1 S1 Z hcx hC hS1 (fun v h pc la H locs slots g1 g2 g3 => hfin v h pc la H locs slots g1 g2 (by omega)) la H1 locs (cells + 1) (slots + N) hP1 (by rw [z1, had, hz]; omega) ⟨by have := hS.1; omega, fun x h1 h2 => (o1 x (by rw [had]; exact Nat.lt_of_lt_of_le h1 hS.1)).trans (hS.2.1 x h1 h2), hS.2.2⟩ hL (by omega) (by omega)
/-- Object.<init> -/
theorem b_obj {idx k : Nat} (hM : aOK M) (hf : aFetch (aMt M) pc = some (.invokespecial idx)) (hlk : Cond.methodLink (aMy M).cls idx Lib.objectInit ∈ aBW) (hin : Cond.instanceMethod Lib.objectInit ∈ aBW) (hco : Cond.code Lib.objectInit ⟨#[0xb1]⟩ 1 none ∈ aBW) (hd : 1 ≤ d) (hst : st.length ≤ 8) (kk : AW M d kc ks n sc Q (pc + 3, ls, st, h)) : AW M d kc ks n sc Q (pc, ls, .inr k :: st, h) := by
  intro p l e R s m args below meth c D cI base b0 adK adV C1 S1 Z hcx hC hS1 hfin la H locs cells slots hP hz hS hL hcs hss
  obtain ⟨hX, hb, hml, hr, hin0, hown, hts, hlo, hiv, hrm, -⟩ := id hcx
  refine W.objInit hX hb hown (hts _ hlk) (hts _ hin) (hts _ hco) rfl (by rw [hml]; exact hL.1) rfl (aDec1 hM hf rfl rfl) (by omega) ?_ (kk p l e R s m args below meth c D cI base b0 adK adV C1 S1 Z hcx hC hS1 hfin la H locs cells slots hP hz hS hL hcs hss)
  have hsum := aCat_sum (aAd base b0 adK) st
  show 2 * 0 + _ + 12 ≤ _
  rw [hsum]; omega
end ARU
end
section
/-! Methods' contracts over the abstract machine, and calls. -/
def aRm (d kc ks : Nat) : Room := { frames := d, cells := kc, slots := ks, locals := 36 * d }
def aPre (D : va_G) (cI : ClassId) (base b0 : Nat) (adK adV : Nat → Nat) (n : Nat) (as : List aV) (h : aH) : Array Value → State → Prop := fun v U =>
  v = (as.map (aC (aAd base b0 adK))).toArray ∧ U.heap.size = base + n ∧ base ≤ U.heap.size ∧ aP D cI (aAd base b0 adK) h U.heap ∧ aIv base D cI adK adV U
def aPost (D : va_G) (cI : ClassId) (base b0 : Nat) (adK : Nat → Nat) (n : Nat) (Q : Option aV → aH → Prop) : Array Value → State → Outcome → State → Prop := fun _ st o t =>
  (∃ (v : Option aV) (h : aH), o = .returned (v.map (aC (aAd base b0 adK))) ∧ Q v h ∧ t.heap.size = base + n ∧ aP D cI (aAd base b0 adK) h t.heap) ∧ va_F (fun q => base ≤ q) st t
def aWs (M : aM) : List Cond := Cond.code (aMy M) (aMc M) (aMn M) (aMr M) :: aBW
/-- method M, on these arguments over this heap with n cells made before, ends with Q; it makes kc cells of ks slots; d frames -/
def aEv (M : aM) (d kc ks n : Nat) (as : List aV) (h : aH) (Q : Option aV → aH → Prop) : Prop :=
  ∀ (l : Launch) (D : va_G) (cI : ClassId) (base b0 : Nat) (adK adV : Nat → Nat), Met l (aMy M) (aWs M) (aRm d kc ks) (aPre D cI base b0 adK adV n as h) (aPost D cI base b0 adK (n + kc) Q) kc ks (fun q => base ≤ q)
theorem aNW_is {w : Cond} (hw : w ∈ aNW) : ∃ a i x h, w = .methodLinkNest a i x h := by
  have h := (List.mem_filter.mp hw).2
  cases w <;> first | exact ⟨_, _, _, _, rfl⟩ | (simp at h)
theorem aIv_moved {base : Nat} {D : va_G} {cI : ClassId} {adK adV : Nat → Nat} {s U : State} (hW : s.WarmedH U.vm) (hk : ∀ a : Nat, a < s.heap.size → ¬ base ≤ a → U.heap[a]? = s.heap[a]?) (h : aIv base D cI adK adV s) : aIv base D cI adK adV U := by
  obtain ⟨h1, h2, h3, h4⟩ := h
  refine ⟨va_K.moved hW.alike h1, fun w hw => ?_, (vk_S.moved hW.alike h3).kept hk, fun i q hq => vk_R.warm hW (h4 i q hq)⟩
  obtain ⟨a, i, x, hh, rfl⟩ := aNW_is hw
  exact va_Nw.warmM hW (h2 _ hw)
theorem aPre_blind {D : va_G} {cI : ClassId} {base b0 : Nat} {adK adV : Nat → Nat} {n : Nat} {as : List aV} {h : aH} : FrameBlind (aPre D cI base b0 adK adV n as h) := by
  rintro a U g mk ⟨h1, h2, h3, h4, h5⟩
  exact ⟨h1, h2, h3, h4, aIv_moved (s := U) (U := U.calling g mk a) (State.WarmedH.refl U) (fun _ _ _ => rfl) h5⟩
/-- the locals of a method's start -/
def aEn (nL : Nat) (as : List aV) : aLs := as.map some ++ List.replicate (nL - as.length) none
theorem lv_args_mem (ad : Nat → Nat) : ∀ (as : List aV) (i k : Nat) (w : aV), as[k]? = some w → (i + k, aC ad w) ∈ lv_args i (as.map (aC ad))
  | [], i, k, w, h => by simp at h
  | a :: as, i, 0, w, h => by
    simp only [List.getElem?_cons_zero, Option.some.injEq] at h
    subst h
    exact List.mem_cons_self
  | a :: as, i, k + 1, w, h => by
    simp only [List.getElem?_cons_succ] at h
    have := lv_args_mem ad as (i + 1) k w h
    show _ ∈ (i, aC ad a) :: lv_args (if (aC ad a).category = 2 then i + 2 else i + 1) (as.map (aC ad))
    rw [aC_cat, if_neg (by decide)]
    rw [show i + (k + 1) = i + 1 + k by omega]
    exact List.mem_cons_of_mem _ this
theorem lg_sl_len (ad : Nat → Nat) (as : List aV) : (lg_sl (as.map (aC ad))).length = as.length := by
  induction as with
  | nil => rfl
  | cons a as ih =>
    simp only [lg_sl, List.map_cons, List.flatMap_cons, List.length_append, List.length_cons, aC_cat] at ih ⊢
    rw [ih]
    simp
    omega
theorem aEn_ok (ad : Nat → Nat) {nL : Nat} {as : List aV} (hn : as.length ≤ nL) : aL ad (aEn nL as) ((lg_sl (as.map (aC ad)) ++ List.replicate (nL - (lg_sl (as.map (aC ad))).length) Slot.unset).toArray) nL := by
  refine lv_less (lv_entry (as.map (aC ad)) (n := nL) (by rw [lg_sl_len]; exact hn)) fun q hq => ?_
  obtain ⟨i, v⟩ := q
  obtain ⟨w, h1, rfl⟩ := aAss_in.mp hq
  unfold aEn at h1
  by_cases hi : i < as.length
  · rw [List.getElem?_append_left (by rw [List.length_map]; exact hi), List.getElem?_map] at h1
    have h2 : as[i]? = some w := by
      cases hh : as[i]? with
      | none => rw [hh] at h1; cases h1
      | some z => rw [hh] at h1; cases h1; rfl
    have := lv_args_mem ad as 0 i w h2
    rwa [Nat.zero_add] at this
  · rw [List.getElem?_append_right (by rw [List.length_map]; omega), List.getElem?_replicate] at h1
    split at h1 <;> cases h1
/-- what a call needs of its callee -/
def aCal (M : aM) (na : Nat) : Prop := Cond.code (aMy M) (aMc M) (aMn M) (aMr M) ∈ aBW ∧ Cond.initialized (aMy M).cls ∈ aBW ∧ ((aMy M).cls ≠ "java/lang/invoke/MethodHandle" ∧ (aMy M).cls ≠ "java/lang/invoke/VarHandle") ∧ (parseMethodDescriptor (aMy M).desc).map (fun d => d.parameters.length) = some na ∧ plainName (aMy M).cls = true ∧ aMn M ≤ 17
theorem aEv_of {M : aM} (hM : aOK M) {d kc ks n : Nat} {as : List aV} {h : aH} {Q : Option aV → aH → Prop} {na : Nat} (hc : aCal M na) (hn : as.length ≤ aMn M) (k : AW M d kc ks n none Q (0, aEn (aMn M) as, [], h)) : aEv M d kc ks n as h Q := by
  intro l D cI base b0 adK adV
  refine Met.ofW (cc := aMc M) (maxL := aMn M) (ret := aMr M) hc.2.2.2.2.1 rfl ?_
  intro p e s m args below meth c s₁ B hml hv
  obtain ⟨rfl, hz, hba, hP, hiv⟩ := hv
  rw [lg_entry_eq]
  have hw := atoms_spec (ws := aWs M) B.pre
  refine k p l e (aRm d kc ks) s m _ below meth c D cI base b0 adK adV kc ks _ ⟨B.exec, B.bytes, hml, B.returns, fun z => by rw [(name_of_methodNamed B.named B.method).1, z], findClass_of_methodNamed B.named, fun w hh => hw w (List.mem_cons_of_mem _ hh), B.notSynchronized, hiv, ⟨Nat.le_refl _, Nat.le_refl _⟩, hba, fun L xs z => by cases z⟩ (Nat.le_refl _) (Nat.le_refl _) ?_ _ s.heap [] 0 0 hP hz va_S.rf (aEn_ok (aAd base b0 adK) hn) (by omega) (by omega)
  intro v h' pc la H locs slots hq hP' hz' hS' hss hret
  refine W.widen (Nat.le_refl _) hss ?_
  have hqc : ∀ t : State, t.heap = H → s.WarmedH t.vm → aPost D cI base b0 adK (n + kc) Q (as.map (aC (aAd base b0 adK))).toArray s (.returned (v.map (aC (aAd base b0 adK)))) t := fun t ht hW => ⟨⟨v, h', rfl, hq, by rw [ht]; exact hz', by rw [ht]; exact hP'⟩, hS'.F ht⟩
  cases v with
  | none =>
    obtain ⟨g1, g2⟩ := hret
    exact W.vret B.exec B.bytes (by rw [B.returns, g2]) (hqc) hS'.2.2 (aDec1 hM g1 rfl rfl)
  | some v => cases v with
    | inl z =>
      obtain ⟨g1, g2⟩ := hret
      rcases g2 with g2 | ⟨g2, g3⟩
      · exact W.zret (ty := .int) B.exec B.bytes (by rw [B.returns, g2]) rfl hqc hS'.2.2 (aDec1 hM g1 rfl rfl)
      · exact W.zret (ty := .boolean) B.exec B.bytes (by rw [B.returns, g2]) (by rcases g3 with rfl | rfl <;> decide) hqc hS'.2.2 (aDec1 hM g1 rfl rfl)
    | inr z =>
      obtain ⟨g1, cn, g2⟩ := hret
      exact W.aret (rt := .object cn) B.exec B.bytes (by rw [B.returns, g2]) (Or.inl ⟨cn, rfl⟩) (Or.inr ⟨_, rfl⟩) hqc hS'.2.2 (aDec1 hM g1 rfl rfl)
section ACALL
variable {p : Program} {l : Launch} {e : Env} {R : Room} {s : State} {m : MethodId} {args : Array Value} {below : List Frame} {meth : Method} {c : Code} {Z : State → Prop}
/-- behind a call -/
theorem a_cont {D : va_G} {cI : ClassId} {base b0 : Nat} {adK : Nat → Nat} {n mc ms : Nat} {Q1 : Option aV → aH → Prop} {H : Heap} {locs : List Loc} {cells slots pc : Nat} {la : Array Slot} {st0 rest : List Value} {a : Array Value} (hr : va_Run p l e R s m args below meth c H locs cells slots mc ms (F0 m pc la st0) rest (aPost D cI base b0 adK n Q1 a) (fun q => base ≤ q)) (hS : va_S (fun q => base ≤ q) s.heap H locs)
    (kk : ∀ (v : Option aV) (h' : aH) (H1 : Heap) (locs1 : List Loc), Q1 v h' → aP D cI (aAd base b0 adK) h' H1 → H1.size = base + n → va_S (fun q => base ≤ q) s.heap H1 locs1 → W p l e R s m args below meth c H1 locs1 (cells + mc) (slots + ms) Z (F0 m (pc + 3) la ((v.map (aC (aAd base b0 adK))).toList ++ rest))) : W p l e R s m args below meth c H locs cells slots Z (F0 m pc la st0) := by
  intro T hT X
  obtain ⟨v0, st₀, t, T', L, h0, X', hL, e1, e2, ⟨⟨v, h', hv, hq, hz, hP⟩, hf1, hf2⟩, st⟩ := hr T hT X
  cases hv
  rw [h0] at hf1 hf2
  obtain ⟨t2, a1, b1⟩ := kk v h' T'.heap (locs ++ L) hq (by rw [e1]; exact hP) (by rw [e1]; exact hz) ⟨Nat.le_trans hS.1 (by rw [e1]; exact hf1), fun q h1 h2 => by rw [e1, hf2 q (Nat.lt_of_lt_of_le h1 hS.1) h2]; exact hS.2.1 q h1 h2, fun q hq => by
      rcases List.mem_append.mp hq with h | h
      · exact hS.2.2 q h
      · exact hL q h⟩ T' rfl X'
  exact ⟨t2, st t2 a1, b1⟩
theorem a_pre {M : aM} {d : Nat} {sc : Option (Nat × (Nat → Int32))} {base b0 : Nat} {adK adV : Nat → Nat} {D : va_G} {cI : ClassId} (hcx : aCx M d sc base b0 adK adV D cI p R s m args meth c) {H : Heap} {n : Nat} {h : aH} {locs : List Loc} (hP : aP D cI (aAd base b0 adK) h H) (hz : H.size = base + n) (hS : va_S (fun q => base ≤ q) s.heap H locs) (as : List aV) (va : List Value) (hva : va = as.map (aC (aAd base b0 adK))) : ∀ U : State, U.heap = H → s.WarmedH U.vm → aPre D cI base b0 adK adV n as h va.toArray U := by
  intro U hU hW
  subst hva
  have hba := hcx.2.2.2.2.2.2.2.2.2.2.1
  exact ⟨rfl, by rw [hU]; exact hz, by rw [hU, hz]; omega, by rw [hU]; exact hP, aIv_moved hW (fun a h1 h2 => by rw [hU]; exact hS.2.1 a h1 h2) hcx.2.2.2.2.2.2.2.2.1⟩
end ACALL
section ARC
variable {M Mc : aM} {d dc kc ks kc1 ks1 n na : Nat} {sc : Option (Nat × (Nat → Int32))} {Q Q1 : Option aV → aH → Prop} {pc idx k ci N : Nat} {ls : aLs} {st rest as : List aV} {h : aH} {fs : List (Option aV)} {T : u_T} {host : String}
def aLkV (own : String) (idx : Nat) (Mc : aM) : Prop := Cond.methodLink own idx (aMy Mc) ∈ aBW ∧ Cond.instanceMethod (aMy Mc) ∈ aBW ∧ Cond.selects (aMy Mc).cls (aMy Mc) (aMy Mc) ∈ aBW
def aLkS (own : String) (idx : Nat) (Mc : aM) : Prop := Cond.methodLink own idx (aMy Mc) ∈ aBW ∧ Cond.static (aMy Mc) ∈ aBW
def aLkSN (own : String) (idx : Nat) (Mc : aM) (host : String) : Prop := Cond.methodLinkNest own idx (aMy Mc) host ∈ aNW ∧ Cond.static (aMy Mc) ∈ aBW
def aLkI (own : String) (idx : Nat) (Mc : aM) : Prop := Cond.methodLink own idx (aMy Mc) ∈ aBW ∧ Cond.instanceMethod (aMy Mc) ∈ aBW ∧ (aMy Mc).name = "<init>" ∧ aMr Mc = none
def aLkIN (own : String) (idx : Nat) (Mc : aM) (host : String) : Prop := Cond.methodLinkNest own idx (aMy Mc) host ∈ aNW ∧ Cond.instanceMethod (aMy Mc) ∈ aBW ∧ (aMy Mc).name = "<init>" ∧ aMr Mc = none
theorem b_callV (hM : aOK M) (hf : aFetch (aMt M) pc = some (.invokevirtual idx)) (hl : aLkV (aMy M).cls idx Mc) (hc : aCal Mc na) (hd : dc + 1 ≤ d) (hna : as.length = na) (hrl : rest.length ≤ 8) (hk : aGet h k = some (.inr (ci, fs))) (hcl : aCls[ci]? = some ((aMy Mc).cls, T, N)) (hst : st = as.reverse ++ .inr k :: rest) (ev : aEv Mc dc kc1 ks1 n (.inr k :: as) h Q1)
    (kk : ∀ v h', Q1 v h' → AW M d kc ks (n + kc1) sc Q (pc + 3, ls, v.toList ++ rest, h')) : AW M d (kc1 + kc) (ks1 + ks) n sc Q (pc, ls, st, h) := by
  intro p l e R s m args below meth c D cI base b0 adK adV C1 S1 Z hcx hC hS1 hfin la H locs cells slots hP hz hS hL hcs hss
  obtain ⟨hX, hb, hml, hr, hin, hown, hts, hlk, hiv, hrm, hba, hsc⟩ := id hcx
  obtain ⟨c1, c2, c3, c4, c5, c6⟩ := hc
  have hev := ev l D cI base b0 adK adV
  have hcall : va_Run p l e R s m args below meth c H locs cells slots kc1 ks1 (F0 m pc la (st.map (aC (aAd base b0 adK)))) (rest.map (aC (aAd base b0 adK))) (aPost D cI base b0 adK (n + kc1) Q1 (Value.ref (aAd base b0 adK k) :: as.map (aC (aAd base b0 adK))).toArray) (fun q => base ≤ q) := by
    refine va_runV (As := as.map (aC (aAd base b0 adK))) (rest := rest.map (aC (aAd base b0 adK))) ⟨hX, hb, hml, hown, hts⟩ hev ⟨callB_of (maxL := aMn Mc) (bytes := aMc Mc) (ret := aMr Mc) na hts (aBW_in c1) rfl rfl rfl (hts _ c2) (hts _ hl.1) ⟨c3.1, c3.2, c4⟩ ⟨by show dc + 1 ≤ _; omega, by show 8 + (aMn Mc + 11) + 36 * dc ≤ _; omega⟩, hts _ hl.2.1, hts _ hl.2.2⟩ ⟨aPre_blind, va_recv hiv.1 (aP_one hP hk) (ci := ci) (q0 := 0) hcl rfl, a_pre hcx hP hz hS (.inr k :: as) _ rfl⟩ rfl (by rw [List.length_map]; exact hna) hL.1 (by rw [hst, List.map_append, List.map_reverse]; rfl) (lv_room (by rw [aCat_sum]; exact hrl)) (aDec1 hM hf rfl rfl) ⟨by omega, by omega⟩
  refine a_cont hcall hS fun v h' H1 locs1 g1 g2 g3 g4 => ?_
  have hkk := kk v h' g1 p l e R s m args below meth c D cI base b0 adK adV C1 S1 Z hcx hC hS1 (fun v h pc la H locs slots z1 z2 z3 => hfin v h pc la H locs slots z1 z2 (by omega)) la H1 locs1 (cells + kc1) (slots + ks1) g2 g3 g4 hL (by omega) (by omega)
  simp only [List.map_append] at hkk
  cases v <;> exact hkk
theorem b_callS (hM : aOK M) (hf : aFetch (aMt M) pc = some (.invokestatic idx)) (hl : aLkS (aMy M).cls idx Mc) (hc : aCal Mc na) (hd : dc + 1 ≤ d) (hna : as.length = na) (hrl : rest.length ≤ 8) (hst : st = as.reverse ++ rest) (ev : aEv Mc dc kc1 ks1 n as h Q1)
    (kk : ∀ v h', Q1 v h' → AW M d kc ks (n + kc1) sc Q (pc + 3, ls, v.toList ++ rest, h')) : AW M d (kc1 + kc) (ks1 + ks) n sc Q (pc, ls, st, h) := by
  intro p l e R s m args below meth c D cI base b0 adK adV C1 S1 Z hcx hC hS1 hfin la H locs cells slots hP hz hS hL hcs hss
  obtain ⟨hX, hb, hml, hr, hin, hown, hts, hlk, hiv, hrm, hba, hsc⟩ := id hcx
  obtain ⟨c1, c2, c3, c4, c5, c6⟩ := hc
  have hev := ev l D cI base b0 adK adV
  have hcall : va_Run p l e R s m args below meth c H locs cells slots kc1 ks1 (F0 m pc la (st.map (aC (aAd base b0 adK)))) (rest.map (aC (aAd base b0 adK))) (aPost D cI base b0 adK (n + kc1) Q1 (as.map (aC (aAd base b0 adK))).toArray) (fun q => base ≤ q) := by
    refine va_runS (As := as.map (aC (aAd base b0 adK))) (rest := rest.map (aC (aAd base b0 adK))) ⟨hX, hb, hml, hown, hts⟩ hev ⟨callB_of (maxL := aMn Mc) (bytes := aMc Mc) (ret := aMr Mc) na hts (aBW_in c1) rfl rfl rfl (hts _ c2) (hts _ hl.1) ⟨c3.1, c3.2, c4⟩ ⟨by show dc + 1 ≤ _; omega, by show 8 + (aMn Mc + 11) + 36 * dc ≤ _; omega⟩, hts _ hl.2⟩ ⟨aPre_blind, a_pre hcx hP hz hS as _ rfl⟩ rfl (by rw [List.length_map]; exact hna) hL.1 (by rw [hst, List.map_append, List.map_reverse]) (lv_room (by rw [aCat_sum]; exact hrl)) (aDec1 hM hf rfl rfl) ⟨by omega, by omega⟩
  refine a_cont hcall hS fun v h' H1 locs1 g1 g2 g3 g4 => ?_
  have hkk := kk v h' g1 p l e R s m args below meth c D cI base b0 adK adV C1 S1 Z hcx hC hS1 (fun v h pc la H locs slots z1 z2 z3 => hfin v h pc la H locs slots z1 z2 (by omega)) la H1 locs1 (cells + kc1) (slots + ks1) g2 g3 g4 hL (by omega) (by omega)
  simp only [List.map_append] at hkk
  cases v <;> exact hkk
theorem b_callSN (hM : aOK M) (hf : aFetch (aMt M) pc = some (.invokestatic idx)) (hl : aLkSN (aMy M).cls idx Mc host) (hc : aCal Mc na) (hd : dc + 1 ≤ d) (hna : as.length = na) (hrl : rest.length ≤ 8) (hst : st = as.reverse ++ rest) (ev : aEv Mc dc kc1 ks1 n as h Q1)
    (kk : ∀ v h', Q1 v h' → AW M d kc ks (n + kc1) sc Q (pc + 3, ls, v.toList ++ rest, h')) : AW M d (kc1 + kc) (ks1 + ks) n sc Q (pc, ls, st, h) := by
  intro p l e R s m args below meth c D cI base b0 adK adV C1 S1 Z hcx hC hS1 hfin la H locs cells slots hP hz hS hL hcs hss
  obtain ⟨hX, hb, hml, hr, hin, hown, hts, hlk, hiv, hrm, hba, hsc⟩ := id hcx
  obtain ⟨c1, c2, c3, c4, c5, c6⟩ := hc
  have hev := ev l D cI base b0 adK adV
  have hcall : va_Run p l e R s m args below meth c H locs cells slots kc1 ks1 (F0 m pc la (st.map (aC (aAd base b0 adK)))) (rest.map (aC (aAd base b0 adK))) (aPost D cI base b0 adK (n + kc1) Q1 (as.map (aC (aAd base b0 adK))).toArray) (fun q => base ≤ q) := by
    refine va_runSN (As := as.map (aC (aAd base b0 adK))) (rest := rest.map (aC (aAd base b0 adK))) ⟨hX, hb, hml, hown, hts⟩ hev ⟨va_cnB (maxL := aMn Mc) (bytes := aMc Mc) (ret := aMr Mc) na hts (aBW_in c1) rfl rfl rfl (hiv.2.1 _ hl.1) (hts _ c2) ⟨c3.1, c3.2, c4⟩ ⟨by show dc + 1 ≤ _; omega, by show 8 + (aMn Mc + 11) + 36 * dc ≤ _; omega⟩, hts _ hl.2, trivial⟩ ⟨aPre_blind, a_pre hcx hP hz hS as _ rfl⟩ rfl (by rw [List.length_map]; exact hna) hL.1 (by rw [hst, List.map_append, List.map_reverse]) (lv_room (by rw [aCat_sum]; exact hrl)) (aDec1 hM hf rfl rfl) ⟨by omega, by omega⟩
  refine a_cont hcall hS fun v h' H1 locs1 g1 g2 g3 g4 => ?_
  have hkk := kk v h' g1 p l e R s m args below meth c D cI base b0 adK adV C1 S1 Z hcx hC hS1 (fun v h pc la H locs slots z1 z2 z3 => hfin v h pc la H locs slots z1 z2 (by omega)) la H1 locs1 (cells + kc1) (slots + ks1) g2 g3 g4 hL (by omega) (by omega)
  simp only [List.map_append] at hkk
  cases v <;> exact hkk
theorem b_callI (hM : aOK M) (hf : aFetch (aMt M) pc = some (.invokespecial idx)) (hl : aLkI (aMy M).cls idx Mc) (hc : aCal Mc na) (hd : dc + 1 ≤ d) (hna : as.length = na) (hrl : rest.length ≤ 8) (hst : st = as.reverse ++ .inr k :: rest) (ev : aEv Mc dc kc1 ks1 n (.inr k :: as) h Q1)
    (kk : ∀ v h', Q1 v h' → AW M d kc ks (n + kc1) sc Q (pc + 3, ls, v.toList ++ rest, h')) : AW M d (kc1 + kc) (ks1 + ks) n sc Q (pc, ls, st, h) := by
  intro p l e R s m args below meth c D cI base b0 adK adV C1 S1 Z hcx hC hS1 hfin la H locs cells slots hP hz hS hL hcs hss
  obtain ⟨hX, hb, hml, hr, hin, hown, hts, hlk, hiv, hrm, hba, hsc⟩ := id hcx
  obtain ⟨c1, c2, c3, c4, c5, c6⟩ := hc
  have hev := ev l D cI base b0 adK adV
  obtain ⟨l1, l2, l3, l4⟩ := hl
  unfold aWs at hev
  rw [l4] at hev c1
  have hcall : va_Run p l e R s m args below meth c H locs cells slots kc1 ks1 (F0 m pc la (st.map (aC (aAd base b0 adK)))) (rest.map (aC (aAd base b0 adK))) (aPost D cI base b0 adK (n + kc1) Q1 (Value.ref (aAd base b0 adK k) :: as.map (aC (aAd base b0 adK))).toArray) (fun q => base ≤ q) := by
    refine va_runI (As := as.map (aC (aAd base b0 adK))) (rest := rest.map (aC (aAd base b0 adK))) ⟨hX, hb, hml, hown, hts⟩ hev ⟨callB_of (maxL := aMn Mc) (bytes := aMc Mc) (ret := none) na hts (aBW_in c1) rfl rfl rfl (hts _ c2) (hts _ l1) ⟨c3.1, c3.2, c4⟩ ⟨by show dc + 1 ≤ _; omega, by show 8 + (aMn Mc + 11) + 36 * dc ≤ _; omega⟩, l3, hts _ l2⟩ ⟨aPre_blind, a_pre hcx hP hz hS (.inr k :: as) _ rfl⟩ rfl (by rw [List.length_map]; exact hna) hL.1 (by rw [hst, List.map_append, List.map_reverse]; rfl) (lv_room (by rw [aCat_sum]; exact hrl)) (aDec1 hM hf rfl rfl) ⟨by omega, by omega⟩
  refine a_cont hcall hS fun v h' H1 locs1 g1 g2 g3 g4 => ?_
  have hkk := kk v h' g1 p l e R s m args below meth c D cI base b0 adK adV C1 S1 Z hcx hC hS1 (fun v h pc la H locs slots z1 z2 z3 => hfin v h pc la H locs slots z1 z2 (by omega)) la H1 locs1 (cells + kc1) (slots + ks1) g2 g3 g4 hL (by omega) (by omega)
  simp only [List.map_append] at hkk
  cases v <;> exact hkk
theorem b_callIN (hM : aOK M) (hf : aFetch (aMt M) pc = some (.invokespecial idx)) (hl : aLkIN (aMy M).cls idx Mc host) (hc : aCal Mc na) (hd : dc + 1 ≤ d) (hna : as.length = na) (hrl : rest.length ≤ 8) (hst : st = as.reverse ++ .inr k :: rest) (ev : aEv Mc dc kc1 ks1 n (.inr k :: as) h Q1)
    (kk : ∀ v h', Q1 v h' → AW M d kc ks (n + kc1) sc Q (pc + 3, ls, v.toList ++ rest, h')) : AW M d (kc1 + kc) (ks1 + ks) n sc Q (pc, ls, st, h) := by
  intro p l e R s m args below meth c D cI base b0 adK adV C1 S1 Z hcx hC hS1 hfin la H locs cells slots hP hz hS hL hcs hss
  obtain ⟨hX, hb, hml, hr, hin, hown, hts, hlk, hiv, hrm, hba, hsc⟩ := id hcx
  obtain ⟨c1, c2, c3, c4, c5, c6⟩ := hc
  have hev := ev l D cI base b0 adK adV
  obtain ⟨l1, l2, l3, l4⟩ := hl
  unfold aWs at hev
  rw [l4] at hev c1
  have hcall : va_Run p l e R s m args below meth c H locs cells slots kc1 ks1 (F0 m pc la (st.map (aC (aAd base b0 adK)))) (rest.map (aC (aAd base b0 adK))) (aPost D cI base b0 adK (n + kc1) Q1 (Value.ref (aAd base b0 adK k) :: as.map (aC (aAd base b0 adK))).toArray) (fun q => base ≤ q) := by
    refine va_runIN (As := as.map (aC (aAd base b0 adK))) (rest := rest.map (aC (aAd base b0 adK))) ⟨hX, hb, hml, hown, hts⟩ hev ⟨va_cnB (maxL := aMn Mc) (bytes := aMc Mc) (ret := none) na hts (aBW_in c1) rfl rfl rfl (hiv.2.1 _ l1) (hts _ c2) ⟨c3.1, c3.2, c4⟩ ⟨by show dc + 1 ≤ _; omega, by show 8 + (aMn Mc + 11) + 36 * dc ≤ _; omega⟩, l3, hts _ l2⟩ ⟨aPre_blind, a_pre hcx hP hz hS (.inr k :: as) _ rfl⟩ rfl (by rw [List.length_map]; exact hna) hL.1 (by rw [hst, List.map_append, List.map_reverse]; rfl) (lv_room (by rw [aCat_sum]; exact hrl)) (aDec1 hM hf rfl rfl) ⟨by omega, by omega⟩
  refine a_cont hcall hS fun v h' H1 locs1 g1 g2 g3 g4 => ?_
  have hkk := kk v h' g1 p l e R s m args below meth c D cI base b0 adK adV C1 S1 Z hcx hC hS1 (fun v h pc la H locs slots z1 z2 z3 => hfin v h pc la H locs slots z1 z2 (by omega)) la H1 locs1 (cells + kc1) (slots + ks1) g2 g3 g4 hL (by omega) (by omega)
  simp only [List.map_append] at hkk
  cases v <;> exact hkk
end ARC
end
section
/-! Every method: its table, that its bytes decode so, what its calls link; laid by gen_prog.py -/
def flX0 : List (Nat × Nat × Nat × Nat × Bool) := [(9, 0, 0, 2, true), (15, 0, 1, 2, true)]
theorem flokX0 : ∀ f ∈ flX0, aFOk RX0 f := List.forall_mem_cons.mpr ⟨⟨_, _, _, _, rfl, by decide, aBW_at 159 (by decide +kernel) (by decide +kernel), rfl, rfl, tyokX0 0 (by decide), rfl, (fun _ => rfl)⟩, List.forall_mem_cons.mpr ⟨⟨_, _, _, _, rfl, by decide, aBW_at 160 (by decide +kernel) (by decide +kernel), rfl, rfl, tyokX0 1 (by decide), rfl, (fun _ => rfl)⟩, fun f hf => absurd hf List.not_mem_nil⟩⟩
def flX1 : List (Nat × Nat × Nat × Nat × Bool) := [(9, 1, 0, 0, false)]
theorem flokX1 : ∀ f ∈ flX1, aFOk RX1 f := List.forall_mem_cons.mpr ⟨⟨_, _, _, _, rfl, by decide, aBW_at 178 (by decide +kernel) (by decide +kernel), rfl, rfl, tyokX1 0 (by decide), rfl, (fun _ => rfl)⟩, fun f hf => absurd hf List.not_mem_nil⟩
def flX2 : List (Nat × Nat × Nat × Nat × Bool) := [(14, 2, 1, 2, true), (20, 2, 2, 2, true), (23, 2, 3, 2, true), (26, 2, 0, 2, true)]
theorem flokX2 : ∀ f ∈ flX2, aFOk RX2 f := List.forall_mem_cons.mpr ⟨⟨_, _, _, _, rfl, by decide, aBW_at 209 (by decide +kernel) (by decide +kernel), rfl, rfl, tyokX2 1 (by decide), rfl, (fun _ => rfl)⟩, List.forall_mem_cons.mpr ⟨⟨_, _, _, _, rfl, by decide, aBW_at 210 (by decide +kernel) (by decide +kernel), rfl, rfl, tyokX2 2 (by decide), rfl, (fun _ => rfl)⟩, List.forall_mem_cons.mpr ⟨⟨_, _, _, _, rfl, by decide, aBW_at 211 (by decide +kernel) (by decide +kernel), rfl, rfl, tyokX2 3 (by decide), rfl, (fun _ => rfl)⟩, List.forall_mem_cons.mpr ⟨⟨_, _, _, _, rfl, by decide, aBW_at 208 (by decide +kernel) (by decide +kernel), rfl, rfl, tyokX2 0 (by decide), rfl, (fun _ => rfl)⟩, fun f hf => absurd hf List.not_mem_nil⟩⟩⟩⟩
def flX3 : List (Nat × Nat × Nat × Nat × Bool) := [(14, 3, 0, 2, true), (20, 3, 1, 2, true), (23, 3, 2, 2, true), (26, 3, 3, 2, true), (29, 3, 4, 2, true), (32, 3, 5, 2, true), (35, 3, 6, 2, true), (38, 3, 7, 2, true), (41, 3, 8, 2, true), (44, 3, 9, 0, false), (48, 3, 10, 0, false), (51, 3, 11, 0, false), (54, 3, 12, 0, false)]
theorem flokX3 : ∀ f ∈ flX3, aFOk RX3 f := List.forall_mem_cons.mpr ⟨⟨_, _, _, _, rfl, by decide, aBW_at 113 (by decide +kernel) (by decide +kernel), rfl, rfl, tyokX3 0 (by decide), rfl, (fun _ => rfl)⟩, List.forall_mem_cons.mpr ⟨⟨_, _, _, _, rfl, by decide, aBW_at 114 (by decide +kernel) (by decide +kernel), rfl, rfl, tyokX3 1 (by decide), rfl, (fun _ => rfl)⟩, List.forall_mem_cons.mpr ⟨⟨_, _, _, _, rfl, by decide, aBW_at 115 (by decide +kernel) (by decide +kernel), rfl, rfl, tyokX3 2 (by decide), rfl, (fun _ => rfl)⟩, List.forall_mem_cons.mpr ⟨⟨_, _, _, _, rfl, by decide, aBW_at 116 (by decide +kernel) (by decide +kernel), rfl, rfl, tyokX3 3 (by decide), rfl, (fun _ => rfl)⟩, List.forall_mem_cons.mpr ⟨⟨_, _, _, _, rfl, by decide, aBW_at 117 (by decide +kernel) (by decide +kernel), rfl, rfl, tyokX3 4 (by decide), rfl, (fun _ => rfl)⟩, List.forall_mem_cons.mpr ⟨⟨_, _, _, _, rfl, by decide, aBW_at 118 (by decide +kernel) (by decide +kernel), rfl, rfl, tyokX3 5 (by decide), rfl, (fun _ => rfl)⟩, List.forall_mem_cons.mpr ⟨⟨_, _, _, _, rfl, by decide, aBW_at 119 (by decide +kernel) (by decide +kernel), rfl, rfl, tyokX3 6 (by decide), rfl, (fun _ => rfl)⟩, List.forall_mem_cons.mpr ⟨⟨_, _, _, _, rfl, by decide, aBW_at 120 (by decide +kernel) (by decide +kernel), rfl, rfl, tyokX3 7 (by decide), rfl, (fun _ => rfl)⟩, List.forall_mem_cons.mpr ⟨⟨_, _, _, _, rfl, by decide, aBW_at 121 (by decide +kernel) (by decide +kernel), rfl, rfl, tyokX3 8 (by decide), rfl, (fun _ => rfl)⟩, List.forall_mem_cons.mpr ⟨⟨_, _, _, _, rfl, by decide, aBW_at 122 (by decide +kernel) (by decide +kernel), rfl, rfl, tyokX3 9 (by decide), rfl, (fun _ => rfl)⟩, List.forall_mem_cons.mpr ⟨⟨_, _, _, _, rfl, by decide, aBW_at 123 (by decide +kernel) (by decide +kernel), rfl, rfl, tyokX3 10 (by decide), rfl, (fun _ => rfl)⟩, List.forall_mem_cons.mpr ⟨⟨_, _, _, _, rfl, by decide, aBW_at 124 (by decide +kernel) (by decide +kernel), rfl, rfl, tyokX3 11 (by decide), rfl, (fun _ => rfl)⟩, List.forall_mem_cons.mpr ⟨⟨_, _, _, _, rfl, by decide, aBW_at 125 (by decide +kernel) (by decide +kernel), rfl, rfl, tyokX3 12 (by decide), rfl, (fun _ => rfl)⟩, fun f hf => absurd hf List.not_mem_nil⟩⟩⟩⟩⟩⟩⟩⟩⟩⟩⟩⟩⟩
def flX4 : List (Nat × Nat × Nat × Nat × Bool) := [(13, 4, 0, 2, true)]
theorem flokX4 : ∀ f ∈ flX4, aFOk RX4 f := List.forall_mem_cons.mpr ⟨⟨_, _, _, _, rfl, by decide, aBW_at 108 (by decide +kernel) (by decide +kernel), rfl, rfl, tyokX4 0 (by decide), rfl, (fun _ => rfl)⟩, fun f hf => absurd hf List.not_mem_nil⟩
def flX5 : List (Nat × Nat × Nat × Nat × Bool) := [(12, 5, 2, 2, true), (23, 5, 3, 2, true), (27, 5, 4, 2, true), (30, 5, 0, 2, true), (34, 5, 1, 2, true)]
theorem flokX5 : ∀ f ∈ flX5, aFOk RX5 f := List.forall_mem_cons.mpr ⟨⟨_, _, _, _, rfl, by decide, aBW_at 186 (by decide +kernel) (by decide +kernel), rfl, rfl, tyokX5 2 (by decide), rfl, (fun _ => rfl)⟩, List.forall_mem_cons.mpr ⟨⟨_, _, _, _, rfl, by decide, aBW_at 187 (by decide +kernel) (by decide +kernel), rfl, rfl, tyokX5 3 (by decide), rfl, (fun _ => rfl)⟩, List.forall_mem_cons.mpr ⟨⟨_, _, _, _, rfl, by decide, aBW_at 188 (by decide +kernel) (by decide +kernel), rfl, rfl, tyokX5 4 (by decide), rfl, (fun _ => rfl)⟩, List.forall_mem_cons.mpr ⟨⟨_, _, _, _, rfl, by decide, aBW_at 184 (by decide +kernel) (by decide +kernel), rfl, rfl, tyokX5 0 (by decide), rfl, (fun _ => rfl)⟩, List.forall_mem_cons.mpr ⟨⟨_, _, _, _, rfl, by decide, aBW_at 185 (by decide +kernel) (by decide +kernel), rfl, rfl, tyokX5 1 (by decide), rfl, (fun _ => rfl)⟩, fun f hf => absurd hf List.not_mem_nil⟩⟩⟩⟩⟩
def flX6 : List (Nat × Nat × Nat × Nat × Bool) := [(14, 6, 0, 2, true), (20, 6, 1, 0, false)]
theorem flokX6 : ∀ f ∈ flX6, aFOk RX6 f := List.forall_mem_cons.mpr ⟨⟨_, _, _, _, rfl, by decide, aBW_at 229 (by decide +kernel) (by decide +kernel), rfl, rfl, tyokX6 0 (by decide), rfl, (fun _ => rfl)⟩, List.forall_mem_cons.mpr ⟨⟨_, _, _, _, rfl, by decide, aBW_at 230 (by decide +kernel) (by decide +kernel), rfl, rfl, tyokX6 1 (by decide), rfl, (fun _ => rfl)⟩, fun f hf => absurd hf List.not_mem_nil⟩⟩
def flX7 : List (Nat × Nat × Nat × Nat × Bool) := [(12, 7, 0, 2, true), (16, 7, 1, 2, true), (24, 7, 2, 2, true), (31, 7, 3, 2, true), (40, 7, 4, 2, true), (47, 7, 5, 2, true), (51, 7, 6, 2, true), (54, 7, 7, 1, false), (63, 7, 8, 2, true), (67, 7, 9, 0, false), (71, 7, 10, 2, true)]
theorem flokX7 : ∀ f ∈ flX7, aFOk RX7 f := List.forall_mem_cons.mpr ⟨⟨_, _, _, _, rfl, by decide, aBW_at 238 (by decide +kernel) (by decide +kernel), rfl, rfl, tyokX7 0 (by decide), rfl, (fun _ => rfl)⟩, List.forall_mem_cons.mpr ⟨⟨_, _, _, _, rfl, by decide, aBW_at 239 (by decide +kernel) (by decide +kernel), rfl, rfl, tyokX7 1 (by decide), rfl, (fun _ => rfl)⟩, List.forall_mem_cons.mpr ⟨⟨_, _, _, _, rfl, by decide, aBW_at 240 (by decide +kernel) (by decide +kernel), rfl, rfl, tyokX7 2 (by decide), rfl, (fun _ => rfl)⟩, List.forall_mem_cons.mpr ⟨⟨_, _, _, _, rfl, by decide, aBW_at 241 (by decide +kernel) (by decide +kernel), rfl, rfl, tyokX7 3 (by decide), rfl, (fun _ => rfl)⟩, List.forall_mem_cons.mpr ⟨⟨_, _, _, _, rfl, by decide, aBW_at 242 (by decide +kernel) (by decide +kernel), rfl, rfl, tyokX7 4 (by decide), rfl, (fun _ => rfl)⟩, List.forall_mem_cons.mpr ⟨⟨_, _, _, _, rfl, by decide, aBW_at 243 (by decide +kernel) (by decide +kernel), rfl, rfl, tyokX7 5 (by decide), rfl, (fun _ => rfl)⟩, List.forall_mem_cons.mpr ⟨⟨_, _, _, _, rfl, by decide, aBW_at 244 (by decide +kernel) (by decide +kernel), rfl, rfl, tyokX7 6 (by decide), rfl, (fun _ => rfl)⟩, List.forall_mem_cons.mpr ⟨⟨_, _, _, _, rfl, by decide, aBW_at 245 (by decide +kernel) (by decide +kernel), rfl, rfl, tyokX7 7 (by decide), rfl, (fun _ => rfl)⟩, List.forall_mem_cons.mpr ⟨⟨_, _, _, _, rfl, by decide, aBW_at 246 (by decide +kernel) (by decide +kernel), rfl, rfl, tyokX7 8 (by decide), rfl, (fun _ => rfl)⟩, List.forall_mem_cons.mpr ⟨⟨_, _, _, _, rfl, by decide, aBW_at 247 (by decide +kernel) (by decide +kernel), rfl, rfl, tyokX7 9 (by decide), rfl, (fun _ => rfl)⟩, List.forall_mem_cons.mpr ⟨⟨_, _, _, _, rfl, by decide, aBW_at 248 (by decide +kernel) (by decide +kernel), rfl, rfl, tyokX7 10 (by decide), rfl, (fun _ => rfl)⟩, fun f hf => absurd hf List.not_mem_nil⟩⟩⟩⟩⟩⟩⟩⟩⟩⟩⟩
def flX8 : List (Nat × Nat × Nat × Nat × Bool) := [(7, 8, 0, 2, true), (13, 8, 1, 2, true), (16, 8, 2, 2, true), (19, 8, 3, 2, true), (22, 8, 4, 2, true), (25, 8, 5, 2, true), (28, 8, 6, 2, true), (31, 8, 10, 2, true), (34, 8, 11, 2, true), (37, 8, 12, 2, true), (40, 8, 13, 2, true), (43, 8, 17, 2, true), (46, 8, 22, 2, true), (49, 8, 23, 2, true), (52, 8, 25, 2, true), (55, 8, 26, 2, true), (58, 8, 27, 2, true), (61, 8, 28, 2, true), (64, 8, 29, 2, true), (67, 8, 8, 0, false), (72, 8, 7, 0, false), (83, 8, 14, 0, false), (90, 8, 15, 0, false), (111, 8, 16, 0, false), (124, 8, 9, 0, false), (151, 8, 19, 1, false), (155, 8, 20, 0, false), (165, 8, 18, 1, false), (172, 8, 21, 0, false), (205, 8, 24, 0, false), (280, 8, 30, 0, false)]
theorem flokX8 : ∀ f ∈ flX8, aFOk RX8 f := List.forall_mem_cons.mpr ⟨⟨_, _, _, _, rfl, by decide, aBW_at 951 (by decide +kernel) (by decide +kernel), rfl, rfl, tyokX8 0 (by decide), rfl, (fun _ => rfl)⟩, List.forall_mem_cons.mpr ⟨⟨_, _, _, _, rfl, by decide, aBW_at 952 (by decide +kernel) (by decide +kernel), rfl, rfl, tyokX8 1 (by decide), rfl, (fun _ => rfl)⟩, List.forall_mem_cons.mpr ⟨⟨_, _, _, _, rfl, by decide, aBW_at 953 (by decide +kernel) (by decide +kernel), rfl, rfl, tyokX8 2 (by decide), rfl, (fun _ => rfl)⟩, List.forall_mem_cons.mpr ⟨⟨_, _, _, _, rfl, by decide, aBW_at 954 (by decide +kernel) (by decide +kernel), rfl, rfl, tyokX8 3 (by decide), rfl, (fun _ => rfl)⟩, List.forall_mem_cons.mpr ⟨⟨_, _, _, _, rfl, by decide, aBW_at 955 (by decide +kernel) (by decide +kernel), rfl, rfl, tyokX8 4 (by decide), rfl, (fun _ => rfl)⟩, List.forall_mem_cons.mpr ⟨⟨_, _, _, _, rfl, by decide, aBW_at 956 (by decide +kernel) (by decide +kernel), rfl, rfl, tyokX8 5 (by decide), rfl, (fun _ => rfl)⟩, List.forall_mem_cons.mpr ⟨⟨_, _, _, _, rfl, by decide, aBW_at 957 (by decide +kernel) (by decide +kernel), rfl, rfl, tyokX8 6 (by decide), rfl, (fun _ => rfl)⟩, List.forall_mem_cons.mpr ⟨⟨_, _, _, _, rfl, by decide, aBW_at 961 (by decide +kernel) (by decide +kernel), rfl, rfl, tyokX8 10 (by decide), rfl, (fun _ => rfl)⟩, List.forall_mem_cons.mpr ⟨⟨_, _, _, _, rfl, by decide, aBW_at 962 (by decide +kernel) (by decide +kernel), rfl, rfl, tyokX8 11 (by decide), rfl, (fun _ => rfl)⟩, List.forall_mem_cons.mpr ⟨⟨_, _, _, _, rfl, by decide, aBW_at 963 (by decide +kernel) (by decide +kernel), rfl, rfl, tyokX8 12 (by decide), rfl, (fun _ => rfl)⟩, List.forall_mem_cons.mpr ⟨⟨_, _, _, _, rfl, by decide, aBW_at 964 (by decide +kernel) (by decide +kernel), rfl, rfl, tyokX8 13 (by decide), rfl, (fun _ => rfl)⟩, List.forall_mem_cons.mpr ⟨⟨_, _, _, _, rfl, by decide, aBW_at 968 (by decide +kernel) (by decide +kernel), rfl, rfl, tyokX8 17 (by decide), rfl, (fun _ => rfl)⟩, List.forall_mem_cons.mpr ⟨⟨_, _, _, _, rfl, by decide, aBW_at 973 (by decide +kernel) (by decide +kernel), rfl, rfl, tyokX8 22 (by decide), rfl, (fun _ => rfl)⟩, List.forall_mem_cons.mpr ⟨⟨_, _, _, _, rfl, by decide, aBW_at 974 (by decide +kernel) (by decide +kernel), rfl, rfl, tyokX8 23 (by decide), rfl, (fun _ => rfl)⟩, List.forall_mem_cons.mpr ⟨⟨_, _, _, _, rfl, by decide, aBW_at 976 (by decide +kernel) (by decide +kernel), rfl, rfl, tyokX8 25 (by decide), rfl, (fun _ => rfl)⟩, List.forall_mem_cons.mpr ⟨⟨_, _, _, _, rfl, by decide, aBW_at 977 (by decide +kernel) (by decide +kernel), rfl, rfl, tyokX8 26 (by decide), rfl, (fun _ => rfl)⟩, List.forall_mem_cons.mpr ⟨⟨_, _, _, _, rfl, by decide, aBW_at 978 (by decide +kernel) (by decide +kernel), rfl, rfl, tyokX8 27 (by decide), rfl, (fun _ => rfl)⟩, List.forall_mem_cons.mpr ⟨⟨_, _, _, _, rfl, by decide, aBW_at 979 (by decide +kernel) (by decide +kernel), rfl, rfl, tyokX8 28 (by decide), rfl, (fun _ => rfl)⟩, List.forall_mem_cons.mpr ⟨⟨_, _, _, _, rfl, by decide, aBW_at 980 (by decide +kernel) (by decide +kernel), rfl, rfl, tyokX8 29 (by decide), rfl, (fun _ => rfl)⟩, List.forall_mem_cons.mpr ⟨⟨_, _, _, _, rfl, by decide, aBW_at 959 (by decide +kernel) (by decide +kernel), rfl, rfl, tyokX8 8 (by decide), rfl, (fun _ => rfl)⟩, List.forall_mem_cons.mpr ⟨⟨_, _, _, _, rfl, by decide, aBW_at 958 (by decide +kernel) (by decide +kernel), rfl, rfl, tyokX8 7 (by decide), rfl, (fun _ => rfl)⟩, List.forall_mem_cons.mpr ⟨⟨_, _, _, _, rfl, by decide, aBW_at 965 (by decide +kernel) (by decide +kernel), rfl, rfl, tyokX8 14 (by decide), rfl, (fun _ => rfl)⟩, List.forall_mem_cons.mpr ⟨⟨_, _, _, _, rfl, by decide, aBW_at 966 (by decide +kernel) (by decide +kernel), rfl, rfl, tyokX8 15 (by decide), rfl, (fun _ => rfl)⟩, List.forall_mem_cons.mpr ⟨⟨_, _, _, _, rfl, by decide, aBW_at 967 (by decide +kernel) (by decide +kernel), rfl, rfl, tyokX8 16 (by decide), rfl, (fun _ => rfl)⟩, List.forall_mem_cons.mpr ⟨⟨_, _, _, _, rfl, by decide, aBW_at 960 (by decide +kernel) (by decide +kernel), rfl, rfl, tyokX8 9 (by decide), rfl, (fun _ => rfl)⟩, List.forall_mem_cons.mpr ⟨⟨_, _, _, _, rfl, by decide, aBW_at 970 (by decide +kernel) (by decide +kernel), rfl, rfl, tyokX8 19 (by decide), rfl, (fun _ => rfl)⟩, List.forall_mem_cons.mpr ⟨⟨_, _, _, _, rfl, by decide, aBW_at 971 (by decide +kernel) (by decide +kernel), rfl, rfl, tyokX8 20 (by decide), rfl, (fun _ => rfl)⟩, List.forall_mem_cons.mpr ⟨⟨_, _, _, _, rfl, by decide, aBW_at 969 (by decide +kernel) (by decide +kernel), rfl, rfl, tyokX8 18 (by decide), rfl, (fun _ => rfl)⟩, List.forall_mem_cons.mpr ⟨⟨_, _, _, _, rfl, by decide, aBW_at 972 (by decide +kernel) (by decide +kernel), rfl, rfl, tyokX8 21 (by decide), rfl, (fun _ => rfl)⟩, List.forall_mem_cons.mpr ⟨⟨_, _, _, _, rfl, by decide, aBW_at 975 (by decide +kernel) (by decide +kernel), rfl, rfl, tyokX8 24 (by decide), rfl, (fun _ => rfl)⟩, List.forall_mem_cons.mpr ⟨⟨_, _, _, _, rfl, by decide, aBW_at 981 (by decide +kernel) (by decide +kernel), rfl, rfl, tyokX8 30 (by decide), rfl, (fun _ => rfl)⟩, fun f hf => absurd hf List.not_mem_nil⟩⟩⟩⟩⟩⟩⟩⟩⟩⟩⟩⟩⟩⟩⟩⟩⟩⟩⟩⟩⟩⟩⟩⟩⟩⟩⟩⟩⟩⟩⟩
def ksX0 : List (Nat × Int) := []
theorem ksokX0 : ∀ f ∈ ksX0, aKOk RX0 f := fun f hf => absurd hf List.not_mem_nil
def ksX1 : List (Nat × Int) := [(15, 1664525), (16, 1013904223), (17, 2147483647)]
theorem ksokX1 : ∀ f ∈ ksX1, aKOk RX1 f := List.forall_mem_cons.mpr ⟨aBW_at 906 (by decide +kernel) (by decide +kernel), List.forall_mem_cons.mpr ⟨aBW_at 907 (by decide +kernel) (by decide +kernel), List.forall_mem_cons.mpr ⟨aBW_at 908 (by decide +kernel) (by decide +kernel), fun f hf => absurd hf List.not_mem_nil⟩⟩⟩
def ksX2 : List (Nat × Int) := [(53, 2147483647)]
theorem ksokX2 : ∀ f ∈ ksX2, aKOk RX2 f := List.forall_mem_cons.mpr ⟨aBW_at 719 (by decide +kernel) (by decide +kernel), fun f hf => absurd hf List.not_mem_nil⟩
def ksX3 : List (Nat × Int) := []
theorem ksokX3 : ∀ f ∈ ksX3, aKOk RX3 f := fun f hf => absurd hf List.not_mem_nil
def ksX4 : List (Nat × Int) := []
theorem ksokX4 : ∀ f ∈ ksX4, aKOk RX4 f := fun f hf => absurd hf List.not_mem_nil
def ksX5 : List (Nat × Int) := []
theorem ksokX5 : ∀ f ∈ ksX5, aKOk RX5 f := fun f hf => absurd hf List.not_mem_nil
def ksX6 : List (Nat × Int) := []
theorem ksokX6 : ∀ f ∈ ksX6, aKOk RX6 f := fun f hf => absurd hf List.not_mem_nil
def ksX7 : List (Nat × Int) := [(292, 1000000000)]
theorem ksokX7 : ∀ f ∈ ksX7, aKOk RX7 f := List.forall_mem_cons.mpr ⟨aBW_at 530 (by decide +kernel) (by decide +kernel), fun f hf => absurd hf List.not_mem_nil⟩
def ksX8 : List (Nat × Int) := [(71, 1000000000), (287, 1664525), (288, 1013904223), (289, 2147483647)]
theorem ksokX8 : ∀ f ∈ ksX8, aKOk RX8 f := List.forall_mem_cons.mpr ⟨aBW_at 1193 (by decide +kernel) (by decide +kernel), List.forall_mem_cons.mpr ⟨aBW_at 1408 (by decide +kernel) (by decide +kernel), List.forall_mem_cons.mpr ⟨aBW_at 1409 (by decide +kernel) (by decide +kernel), List.forall_mem_cons.mpr ⟨aBW_at 1410 (by decide +kernel) (by decide +kernel), fun f hf => absurd hf List.not_mem_nil⟩⟩⟩⟩
def ksJ6 : List (Nat × Int) := [(265, 1431655765), (266, 858993459), (267, 252645135)]
theorem ksokJ6 : ∀ f ∈ ksJ6, aKOk RJ6 f := List.forall_mem_cons.mpr ⟨aBW_at 580 (by decide +kernel) (by decide +kernel), List.forall_mem_cons.mpr ⟨aBW_at 581 (by decide +kernel) (by decide +kernel), List.forall_mem_cons.mpr ⟨aBW_at 582 (by decide +kernel) (by decide +kernel), fun f hf => absurd hf List.not_mem_nil⟩⟩⟩
def ksJ9 : List (Nat × Int) := []
theorem ksokJ9 : ∀ f ∈ ksJ9, aKOk RJ9 f := fun f hf => absurd hf List.not_mem_nil
def flJ6 : List (Nat × Nat × Nat × Nat × Bool) := []
def flJ9 : List (Nat × Nat × Nat × Nat × Bool) := []
theorem flokJ6 : ∀ f ∈ flJ6, aFOk RJ6 f := fun f hf => absurd hf List.not_mem_nil
theorem flokJ9 : ∀ f ∈ flJ9, aFOk RJ9 f := fun f hf => absurd hf List.not_mem_nil
def yX0_init : MethodName := ⟨RX0, "<init>", "(LAloneIsAQuantity$Moor;LAloneIsAQuantity$Moor;)V"⟩
def tX0_init : List (Nat × Instr) := [(0, .aload_n 0), (1, .invokespecial 3), (4, .aload_n 0), (5, .aload_n 1), (6, .putfield 9), (9, .aload_n 0), (10, .aload_n 2), (11, .putfield 15), (14, .return_)]
def mX0_init : aM := (yX0_init, prog_2_method_1_code, tX0_init, 3, none, flX0, ksX0)
theorem okX0_init : aOK mX0_init := ⟨by decide +kernel, flokX0, ksokX0, by decide⟩
theorem caX0_init : aCal mX0_init 2 := ⟨aBW_at 157 (by decide +kernel) (by decide +kernel), iniX0, ⟨by decide +kernel, by decide +kernel⟩, by decide +kernel, by decide +kernel, by decide⟩
def yX0_keptAfter : MethodName := ⟨RX0, "keptAfte\x72", "(II)I"⟩
def tX0_keptAfter : List (Nat × Instr) := [(0, .aload_n 0), (1, .getfield 15), (4, .aload_n 0), (5, .getfield 9), (8, .invokevirtual 18), (11, .aload_n 0), (12, .getfield 15), (15, .iload_n 2), (16, .invokevirtual 24), (19, .pop), (20, .aload_n 0), (21, .getfield 15), (24, .iload_n 1), (25, .invokevirtual 28), (28, .ireturn)]
def mX0_keptAfter : aM := (yX0_keptAfter, prog_2_method_2_code, tX0_keptAfter, 3, (some .int), flX0, ksX0)
theorem okX0_keptAfter : aOK mX0_keptAfter := ⟨by decide +kernel, flokX0, ksokX0, by decide⟩
theorem caX0_keptAfter : aCal mX0_keptAfter 2 := ⟨aBW_at 590 (by decide +kernel) (by decide +kernel), iniX0, ⟨by decide +kernel, by decide +kernel⟩, by decide +kernel, by decide +kernel, by decide⟩
def yX0_shortDays : MethodName := ⟨RX0, "shortDays", "(II)I"⟩
def tX0_shortDays : List (Nat × Instr) := [(0, .aload_n 0), (1, .getfield 15), (4, .aload_n 0), (5, .getfield 9), (8, .invokevirtual 18), (11, .iconst 0), (12, .istore_n 3), (13, .iconst 0), (14, .istore 4), (16, .iload 4), (18, .iload_n 2), (19, .if_icmp .ge 24), (22, .iload_n 3), (23, .aload_n 0), (24, .getfield 15), (27, .iconst 1), (28, .invokevirtual 24), (31, .iload_n 1), (32, .ishr), (33, .iconst 1), (34, .iand), (35, .iadd), (36, .istore_n 3), (37, .iinc 4 1), (40, .goto (-24)), (43, .iload_n 3), (44, .ireturn)]
def mX0_shortDays : aM := (yX0_shortDays, prog_2_method_3_code, tX0_shortDays, 5, (some .int), flX0, ksX0)
theorem okX0_shortDays : aOK mX0_shortDays := ⟨by decide +kernel, flokX0, ksokX0, by decide⟩
theorem caX0_shortDays : aCal mX0_shortDays 2 := ⟨aBW_at 597 (by decide +kernel) (by decide +kernel), iniX0, ⟨by decide +kernel, by decide +kernel⟩, by decide +kernel, by decide +kernel, by decide⟩
def yX0_firstShortDay : MethodName := ⟨RX0, "firstShortDay", "()I"⟩
def tX0_firstShortDay : List (Nat × Instr) := [(0, .aload_n 0), (1, .getfield 15), (4, .aload_n 0), (5, .getfield 9), (8, .invokevirtual 18), (11, .iconst 1), (12, .istore_n 1), (13, .iload_n 1), (14, .bipush 99), (16, .if_icmp .gt 22), (19, .aload_n 0), (20, .getfield 15), (23, .iconst 1), (24, .invokevirtual 24), (27, .ifCond .eq 5), (30, .iload_n 1), (31, .ireturn), (32, .iinc 1 1), (35, .goto (-22)), (38, .bipush (-9)), (40, .ireturn)]
def mX0_firstShortDay : aM := (yX0_firstShortDay, prog_2_method_4_code, tX0_firstShortDay, 2, (some .int), flX0, ksX0)
theorem okX0_firstShortDay : aOK mX0_firstShortDay := ⟨by decide +kernel, flokX0, ksokX0, by decide⟩
theorem caX0_firstShortDay : aCal mX0_firstShortDay 0 := ⟨aBW_at 605 (by decide +kernel) (by decide +kernel), iniX0, ⟨by decide +kernel, by decide +kernel⟩, by decide +kernel, by decide +kernel, by decide⟩
def yX0_firstShortOne : MethodName := ⟨RX0, "firstShortOne", "()I"⟩
def tX0_firstShortOne : List (Nat × Instr) := [(0, .aload_n 0), (1, .getfield 15), (4, .aload_n 0), (5, .getfield 9), (8, .invokevirtual 18), (11, .iconst 1), (12, .istore_n 1), (13, .iload_n 1), (14, .bipush 99), (16, .if_icmp .gt 47), (19, .aload_n 0), (20, .getfield 15), (23, .iconst 1), (24, .invokevirtual 24), (27, .istore_n 2), (28, .iconst 0), (29, .istore_n 3), (30, .iload_n 3), (31, .aload_n 0), (32, .getfield 9), (35, .invokevirtual 31), (38, .if_icmp .ge 19), (41, .iload_n 2), (42, .iload_n 3), (43, .ishr), (44, .iconst 1), (45, .iand), (46, .ifCond .eq 5), (49, .iload_n 3), (50, .ireturn), (51, .iinc 3 1), (54, .goto (-24)), (57, .iinc 1 1), (60, .goto (-47)), (63, .bipush (-9)), (65, .ireturn)]
def mX0_firstShortOne : aM := (yX0_firstShortOne, prog_2_method_5_code, tX0_firstShortOne, 4, (some .int), flX0, ksX0)
theorem okX0_firstShortOne : aOK mX0_firstShortOne := ⟨by decide +kernel, flokX0, ksokX0, by decide⟩
theorem caX0_firstShortOne : aCal mX0_firstShortOne 0 := ⟨aBW_at 609 (by decide +kernel) (by decide +kernel), iniX0, ⟨by decide +kernel, by decide +kernel⟩, by decide +kernel, by decide +kernel, by decide⟩
def yX0_daysTillShort : MethodName := ⟨RX0, "daysTillShort", "(I)I"⟩
def tX0_daysTillShort : List (Nat × Instr) := [(0, .aload_n 0), (1, .getfield 15), (4, .aload_n 0), (5, .getfield 9), (8, .invokevirtual 18), (11, .iconst 0), (12, .istore_n 2), (13, .iload_n 2), (14, .bipush 99), (16, .if_icmp .ge 26), (19, .aload_n 0), (20, .getfield 15), (23, .iconst 1), (24, .invokevirtual 24), (27, .iload_n 1), (28, .ishr), (29, .iconst 1), (30, .iand), (31, .ifCond .eq 5), (34, .iload_n 2), (35, .ireturn), (36, .iinc 2 1), (39, .goto (-26)), (42, .bipush 99), (44, .ireturn)]
def mX0_daysTillShort : aM := (yX0_daysTillShort, prog_2_method_6_code, tX0_daysTillShort, 3, (some .int), flX0, ksX0)
theorem okX0_daysTillShort : aOK mX0_daysTillShort := ⟨by decide +kernel, flokX0, ksokX0, by decide⟩
theorem caX0_daysTillShort : aCal mX0_daysTillShort 1 := ⟨aBW_at 618 (by decide +kernel) (by decide +kernel), iniX0, ⟨by decide +kernel, by decide +kernel⟩, by decide +kernel, by decide +kernel, by decide⟩
def yX0_keptAfterVisits : MethodName := ⟨RX0, "keptAfterVisits", "(III)I"⟩
def tX0_keptAfterVisits : List (Nat × Instr) := [(0, .aload_n 0), (1, .getfield 15), (4, .aload_n 0), (5, .getfield 9), (8, .invokevirtual 18), (11, .iconst 0), (12, .istore 4), (14, .iload 4), (16, .iload_n 3), (17, .if_icmp .ge 73), (20, .aload_n 0), (21, .getfield 15), (24, .invokevirtual 35), (27, .iconst 1), (28, .iadd), (29, .bipush 7), (31, .irem), (32, .iconst 1), (33, .if_icmp .ne 7), (36, .iconst 1), (37, .goto 4), (40, .iconst 0), (41, .istore 5), (43, .aload_n 0), (44, .getfield 15), (47, .iload_n 2), (48, .iload 5), (50, .ifCond .eq 14), (53, .aload_n 0), (54, .getfield 9), (57, .iload_n 1), (58, .invokevirtual 38), (61, .goto 11), (64, .aload_n 0), (65, .getfield 9), (68, .iload_n 2), (69, .invokevirtual 38), (72, .invokevirtual 41), (75, .aload_n 0), (76, .getfield 15), (79, .iconst 1), (80, .invokevirtual 24), (83, .pop), (84, .iinc 4 1), (87, .goto (-73)), (90, .aload_n 0), (91, .getfield 15), (94, .iload_n 2), (95, .invokevirtual 28), (98, .ireturn)]
def mX0_keptAfterVisits : aM := (yX0_keptAfterVisits, prog_2_method_7_code, tX0_keptAfterVisits, 6, (some .int), flX0, ksX0)
theorem okX0_keptAfterVisits : aOK mX0_keptAfterVisits := ⟨by decide +kernel, flokX0, ksokX0, by decide⟩
theorem caX0_keptAfterVisits : aCal mX0_keptAfterVisits 3 := ⟨aBW_at 840 (by decide +kernel) (by decide +kernel), iniX0, ⟨by decide +kernel, by decide +kernel⟩, by decide +kernel, by decide +kernel, by decide⟩
def yX0_firstMistold : MethodName := ⟨RX0, "firstMistold", "(ILAloneIsAQuantity$Numbers;I)I"⟩
def tX0_firstMistold : List (Nat × Instr) := [(0, .aload_n 0), (1, .getfield 15), (4, .aload_n 0), (5, .getfield 9), (8, .invokevirtual 18), (11, .iconst 0), (12, .istore 4), (14, .iload 4), (16, .iload_n 3), (17, .if_icmp .ge 43), (20, .aload_n 0), (21, .getfield 15), (24, .iload_n 1), (25, .invokevirtual 28), (28, .bipush 99), (30, .invokestatic 45), (33, .aload_n 2), (34, .iload 4), (36, .invokevirtual 51), (39, .if_icmp .eq 6), (42, .iload 4), (44, .ireturn), (45, .aload_n 0), (46, .getfield 15), (49, .iconst 1), (50, .invokevirtual 24), (53, .pop), (54, .iinc 4 1), (57, .goto (-43)), (60, .bipush (-9)), (62, .ireturn)]
def mX0_firstMistold : aM := (yX0_firstMistold, prog_2_method_8_code, tX0_firstMistold, 5, (some .int), flX0, ksX0)
theorem okX0_firstMistold : aOK mX0_firstMistold := ⟨by decide +kernel, flokX0, ksokX0, by decide⟩
theorem caX0_firstMistold : aCal mX0_firstMistold 3 := ⟨aBW_at 879 (by decide +kernel) (by decide +kernel), iniX0, ⟨by decide +kernel, by decide +kernel⟩, by decide +kernel, by decide +kernel, by decide⟩
def yX1_init : MethodName := ⟨RX1, "<init>", "()V"⟩
def tX1_init : List (Nat × Instr) := [(0, .aload_n 0), (1, .invokespecial 3), (4, .aload_n 0), (5, .iconst 0), (6, .putfield 9), (9, .return_)]
def mX1_init : aM := (yX1_init, prog_3_method_1_code, tX1_init, 1, none, flX1, ksX1)
theorem okX1_init : aOK mX1_init := ⟨by decide +kernel, flokX1, ksokX1, by decide⟩
theorem caX1_init : aCal mX1_init 0 := ⟨aBW_at 176 (by decide +kernel) (by decide +kernel), iniX1, ⟨by decide +kernel, by decide +kernel⟩, by decide +kernel, by decide +kernel, by decide⟩
def yX1_begin : MethodName := ⟨RX1, "begin", "(I)V"⟩
def tX1_begin : List (Nat × Instr) := [(0, .aload_n 0), (1, .iload_n 1), (2, .putfield 9), (5, .return_)]
def mX1_begin : aM := (yX1_begin, prog_3_method_2_code, tX1_begin, 2, none, flX1, ksX1)
theorem okX1_begin : aOK mX1_begin := ⟨by decide +kernel, flokX1, ksokX1, by decide⟩
theorem caX1_begin : aCal mX1_begin 1 := ⟨aBW_at 897 (by decide +kernel) (by decide +kernel), iniX1, ⟨by decide +kernel, by decide +kernel⟩, by decide +kernel, by decide +kernel, by decide⟩
def yX1_below : MethodName := ⟨RX1, "below", "(I)I"⟩
def tX1_below : List (Nat × Instr) := [(0, .aload_n 0), (1, .aload_n 0), (2, .getfield 9), (5, .ldc 15), (7, .imul), (8, .ldc 16), (10, .iadd), (11, .putfield 9), (14, .iload_n 1), (15, .ifCond .le 19), (18, .aload_n 0), (19, .getfield 9), (22, .ldc 17), (24, .iand), (25, .sipush 256), (28, .idiv), (29, .iload_n 1), (30, .irem), (31, .goto 4), (34, .iconst 0), (35, .ireturn)]
def mX1_below : aM := (yX1_below, prog_3_method_3_code, tX1_below, 2, (some .int), flX1, ksX1)
theorem okX1_below : aOK mX1_below := ⟨by decide +kernel, flokX1, ksokX1, by decide⟩
theorem caX1_below : aCal mX1_below 1 := ⟨aBW_at 905 (by decide +kernel) (by decide +kernel), iniX1, ⟨by decide +kernel, by decide +kernel⟩, by decide +kernel, by decide +kernel, by decide⟩
def yX2_init : MethodName := ⟨RX2, "<init>", "(LAloneIsAQuantity$Moor;)V"⟩
def tX2_init : List (Nat × Instr) := [(0, .aload_n 0), (1, .invokespecial 3), (4, .aload_n 0), (5, .new 9), (8, .dup), (9, .bipush 6), (11, .invokespecial 11), (14, .putfield 14), (17, .aload_n 0), (18, .new 9), (21, .dup), (22, .bipush 6), (24, .invokespecial 11), (27, .putfield 20), (30, .aload_n 0), (31, .new 9), (34, .dup), (35, .bipush 64), (37, .invokespecial 11), (40, .putfield 23), (43, .aload_n 0), (44, .aload_n 1), (45, .putfield 26), (48, .return_)]
def mX2_init : aM := (yX2_init, prog_4_method_1_code, tX2_init, 2, none, flX2, ksX2)
theorem okX2_init : aOK mX2_init := ⟨by decide +kernel, flokX2, ksokX2, by decide⟩
theorem caX2_init : aCal mX2_init 1 := ⟨aBW_at 204 (by decide +kernel) (by decide +kernel), iniX2, ⟨by decide +kernel, by decide +kernel⟩, by decide +kernel, by decide +kernel, by decide⟩
def yX2_lackingOfAll : MethodName := ⟨RX2, "lackingOfAll", "()I"⟩
def tX2_lackingOfAll : List (Nat × Instr) := [(0, .iconst 0), (1, .istore_n 1), (2, .iconst 0), (3, .istore_n 2), (4, .iload_n 2), (5, .aload_n 0), (6, .getfield 26), (9, .invokevirtual 30), (12, .if_icmp .ge 33), (15, .iload_n 1), (16, .iconst 0), (17, .aload_n 0), (18, .getfield 26), (21, .iload_n 2), (22, .invokevirtual 36), (25, .aload_n 0), (26, .getfield 26), (29, .iload_n 2), (30, .invokevirtual 40), (33, .isub), (34, .invokestatic 43), (37, .iadd), (38, .istore_n 1), (39, .iinc 2 1), (42, .goto (-38)), (45, .iload_n 1), (46, .ireturn)]
def mX2_lackingOfAll : aM := (yX2_lackingOfAll, prog_4_method_2_code, tX2_lackingOfAll, 3, (some .int), flX2, ksX2)
theorem okX2_lackingOfAll : aOK mX2_lackingOfAll := ⟨by decide +kernel, flokX2, ksokX2, by decide⟩
theorem caX2_lackingOfAll : aCal mX2_lackingOfAll 0 := ⟨aBW_at 737 (by decide +kernel) (by decide +kernel), iniX2, ⟨by decide +kernel, by decide +kernel⟩, by decide +kernel, by decide +kernel, by decide⟩
def yX2_mostGiven : MethodName := ⟨RX2, "mostGiven", "(I)I"⟩
def tX2_mostGiven : List (Nat × Instr) := [(0, .iconst 0), (1, .istore_n 2), (2, .iload_n 2), (3, .aload_n 0), (4, .getfield 26), (7, .invokevirtual 30), (10, .if_icmp .ge 54), (13, .aload_n 0), (14, .getfield 26), (17, .iload_n 2), (18, .invokevirtual 40), (21, .aload_n 0), (22, .getfield 26), (25, .iload_n 2), (26, .invokevirtual 36), (29, .isub), (30, .istore_n 3), (31, .aload_n 0), (32, .getfield 14), (35, .iload_n 2), (36, .iconst 0), (37, .iload_n 3), (38, .invokestatic 43), (41, .invokevirtual 49), (44, .aload_n 0), (45, .getfield 20), (48, .iload_n 2), (49, .iconst 0), (50, .iload_n 3), (51, .ineg), (52, .invokestatic 43), (55, .invokevirtual 49), (58, .iinc 2 1), (61, .goto (-59)), (64, .ldc 53), (66, .istore_n 2), (67, .iconst 0), (68, .istore_n 3), (69, .iload_n 3), (70, .iconst 1), (71, .aload_n 0), (72, .getfield 26), (75, .invokevirtual 30), (78, .ishl), (79, .if_icmp .ge 20), (82, .iload_n 2), (83, .aload_n 0), (84, .iload_n 3), (85, .iload_n 1), (86, .invokevirtual 54), (89, .invokestatic 57), (92, .istore_n 2), (93, .iinc 3 1), (96, .goto (-27)), (99, .iload_n 2), (100, .ireturn)]
def mX2_mostGiven : aM := (yX2_mostGiven, prog_4_method_3_code, tX2_mostGiven, 4, (some .int), flX2, ksX2)
theorem okX2_mostGiven : aOK mX2_mostGiven := ⟨by decide +kernel, flokX2, ksokX2, by decide⟩
theorem caX2_mostGiven : aCal mX2_mostGiven 1 := ⟨aBW_at 713 (by decide +kernel) (by decide +kernel), iniX2, ⟨by decide +kernel, by decide +kernel⟩, by decide +kernel, by decide +kernel, by decide⟩
def yX2_cutBy : MethodName := ⟨RX2, "cutBy", "(II)I"⟩
def tX2_cutBy : List (Nat × Instr) := [(0, .iconst 0), (1, .istore_n 3), (2, .iconst 0), (3, .istore 4), (5, .iload 4), (7, .aload_n 0), (8, .getfield 26), (11, .invokevirtual 30), (14, .if_icmp .ge 65), (17, .iload_n 1), (18, .iload 4), (20, .ishr), (21, .iconst 1), (22, .iand), (23, .ifCond .eq 15), (26, .iload_n 3), (27, .aload_n 0), (28, .getfield 14), (31, .iload 4), (33, .invokevirtual 60), (36, .iadd), (37, .istore_n 3), (38, .aload_n 0), (39, .getfield 20), (42, .iload 4), (44, .invokevirtual 60), (47, .ifCond .le 26), (50, .aload_n 0), (51, .iload_n 1), (52, .iload 4), (54, .iload_n 2), (55, .invokevirtual 63), (58, .ifCond .eq 15), (61, .iload_n 3), (62, .aload_n 0), (63, .getfield 20), (66, .iload 4), (68, .invokevirtual 60), (71, .iadd), (72, .istore_n 3), (73, .iinc 4 1), (76, .goto (-71)), (79, .iload_n 3), (80, .ireturn)]
def mX2_cutBy : aM := (yX2_cutBy, prog_4_method_4_code, tX2_cutBy, 5, (some .int), flX2, ksX2)
theorem okX2_cutBy : aOK mX2_cutBy := ⟨by decide +kernel, flokX2, ksokX2, by decide⟩
theorem caX2_cutBy : aCal mX2_cutBy 2 := ⟨aBW_at 723 (by decide +kernel) (by decide +kernel), iniX2, ⟨by decide +kernel, by decide +kernel⟩, by decide +kernel, by decide +kernel, by decide⟩
def yX2_isNearGiverBeside : MethodName := ⟨RX2, "isNearGiverBeside", "(III)Z"⟩
def tX2_isNearGiverBeside : List (Nat × Instr) := [(0, .iconst 0), (1, .istore 4), (3, .iload 4), (5, .aload_n 0), (6, .getfield 26), (9, .invokevirtual 30), (12, .if_icmp .ge 46), (15, .iload_n 1), (16, .iload 4), (18, .ishr), (19, .iconst 1), (20, .iand), (21, .ifCond .ne 31), (24, .aload_n 0), (25, .getfield 14), (28, .iload 4), (30, .invokevirtual 60), (33, .ifCond .le 19), (36, .aload_n 0), (37, .getfield 26), (40, .iload 4), (42, .iload_n 2), (43, .invokevirtual 67), (46, .iload_n 3), (47, .if_icmp .gt 5), (50, .iconst 1), (51, .ireturn), (52, .iinc 4 1), (55, .goto (-52)), (58, .iconst 0), (59, .ireturn)]
def mX2_isNearGiverBeside : aM := (yX2_isNearGiverBeside, prog_4_method_5_code, tX2_isNearGiverBeside, 5, (some .boolean), flX2, ksX2)
theorem okX2_isNearGiverBeside : aOK mX2_isNearGiverBeside := ⟨by decide +kernel, flokX2, ksokX2, by decide⟩
theorem caX2_isNearGiverBeside : aCal mX2_isNearGiverBeside 3 := ⟨aBW_at 728 (by decide +kernel) (by decide +kernel), iniX2, ⟨by decide +kernel, by decide +kernel⟩, by decide +kernel, by decide +kernel, by decide⟩
def yX2_fewestLoans : MethodName := ⟨RX2, "fewestLoans", "()I"⟩
def tX2_fewestLoans : List (Nat × Instr) := [(0, .iconst 1), (1, .aload_n 0), (2, .getfield 26), (5, .invokevirtual 30), (8, .ishl), (9, .iconst 1), (10, .isub), (11, .istore_n 1), (12, .aload_n 0), (13, .getfield 23), (16, .iconst 0), (17, .iconst 0), (18, .invokevirtual 49), (21, .iconst 1), (22, .istore_n 2), (23, .iload_n 2), (24, .iload_n 1), (25, .if_icmp .gt 99), (28, .iconst 0), (29, .istore_n 3), (30, .iconst 0), (31, .istore 4), (33, .iconst 0), (34, .istore 5), (36, .iload 5), (38, .aload_n 0), (39, .getfield 26), (42, .invokevirtual 30), (45, .if_icmp .ge 52), (48, .iload_n 2), (49, .iload 5), (51, .ishr), (52, .iconst 1), (53, .iand), (54, .ifCond .eq 37), (57, .iload_n 3), (58, .aload_n 0), (59, .getfield 26), (62, .iload 5), (64, .invokevirtual 70), (67, .iadd), (68, .istore_n 3), (69, .iload 4), (71, .aload_n 0), (72, .getfield 23), (75, .iload_n 2), (76, .iconst 1), (77, .iload 5), (79, .ishl), (80, .iconst (-1)), (81, .ixor), (82, .iand), (83, .invokevirtual 60), (86, .invokestatic 43), (89, .istore 4), (91, .iinc 5 1), (94, .goto (-58)), (97, .aload_n 0), (98, .getfield 23), (101, .iload_n 2), (102, .iload_n 3), (103, .ifCond .ne 10), (106, .iload 4), (108, .iconst 1), (109, .iadd), (110, .goto 5), (113, .iload 4), (115, .invokevirtual 49), (118, .iinc 2 1), (121, .goto (-98)), (124, .aload_n 0), (125, .getfield 26), (128, .invokevirtual 30), (131, .aload_n 0), (132, .getfield 23), (135, .iload_n 1), (136, .invokevirtual 60), (139, .isub), (140, .ireturn)]
def mX2_fewestLoans : aM := (yX2_fewestLoans, prog_4_method_6_code, tX2_fewestLoans, 6, (some .int), flX2, ksX2)
theorem okX2_fewestLoans : aOK mX2_fewestLoans := ⟨by decide +kernel, flokX2, ksokX2, by decide⟩
theorem caX2_fewestLoans : aCal mX2_fewestLoans 0 := ⟨aBW_at 757 (by decide +kernel) (by decide +kernel), iniX2, ⟨by decide +kernel, by decide +kernel⟩, by decide +kernel, by decide +kernel, by decide⟩
def yX3_init : MethodName := ⟨RX3, "<init>", "()V"⟩
def tX3_init : List (Nat × Instr) := [(0, .aload_n 0), (1, .invokespecial 3), (4, .aload_n 0), (5, .new 9), (8, .dup), (9, .bipush 7), (11, .invokespecial 11), (14, .putfield 14), (17, .aload_n 0), (18, .new 9), (21, .dup), (22, .bipush 7), (24, .invokespecial 11), (27, .putfield 20), (30, .aload_n 0), (31, .new 9), (34, .dup), (35, .bipush 7), (37, .invokespecial 11), (40, .putfield 23), (43, .aload_n 0), (44, .new 9), (47, .dup), (48, .bipush 7), (50, .invokespecial 11), (53, .putfield 26), (56, .aload_n 0), (57, .new 9), (60, .dup), (61, .bipush 7), (63, .invokespecial 11), (66, .putfield 29), (69, .aload_n 0), (70, .new 9), (73, .dup), (74, .bipush 49), (76, .invokespecial 11), (79, .putfield 32), (82, .aload_n 0), (83, .new 9), (86, .dup), (87, .bipush 7), (89, .invokespecial 11), (92, .putfield 35), (95, .aload_n 0), (96, .new 9), (99, .dup), (100, .bipush 7), (102, .invokespecial 11), (105, .putfield 38), (108, .aload_n 0), (109, .new 9), (112, .dup), (113, .bipush 7), (115, .invokespecial 11), (118, .putfield 41), (121, .aload_n 0), (122, .iconst 0), (123, .putfield 44), (126, .aload_n 0), (127, .sipush 360), (130, .putfield 48), (133, .aload_n 0), (134, .iconst 0), (135, .putfield 51), (138, .aload_n 0), (139, .iconst 0), (140, .putfield 54), (143, .return_)]
def mX3_init : aM := (yX3_init, prog_5_method_1_code, tX3_init, 1, none, flX3, ksX3)
theorem okX3_init : aOK mX3_init := ⟨by decide +kernel, flokX3, ksokX3, by decide⟩
theorem caX3_init : aCal mX3_init 0 := ⟨aBW_at 97 (by decide +kernel) (by decide +kernel), iniX3, ⟨by decide +kernel, by decide +kernel⟩, by decide +kernel, by decide +kernel, by decide⟩
def yX3_takeFrom : MethodName := ⟨RX3, "takeFrom", "(LAloneIsAQuantity$Moor;)V"⟩
def tX3_takeFrom : List (Nat × Instr) := [(0, .aload_n 0), (1, .getfield 14), (4, .aload_n 1), (5, .getfield 14), (8, .invokevirtual 57), (11, .aload_n 0), (12, .getfield 20), (15, .aload_n 1), (16, .getfield 20), (19, .invokevirtual 57), (22, .aload_n 0), (23, .getfield 23), (26, .aload_n 1), (27, .getfield 23), (30, .invokevirtual 57), (33, .aload_n 0), (34, .getfield 26), (37, .aload_n 1), (38, .getfield 26), (41, .invokevirtual 57), (44, .aload_n 0), (45, .getfield 29), (48, .aload_n 1), (49, .getfield 29), (52, .invokevirtual 57), (55, .aload_n 0), (56, .getfield 32), (59, .aload_n 1), (60, .getfield 32), (63, .invokevirtual 57), (66, .aload_n 0), (67, .getfield 35), (70, .aload_n 1), (71, .getfield 35), (74, .invokevirtual 57), (77, .aload_n 0), (78, .getfield 38), (81, .aload_n 1), (82, .getfield 38), (85, .invokevirtual 57), (88, .aload_n 0), (89, .getfield 41), (92, .aload_n 1), (93, .getfield 41), (96, .invokevirtual 57), (99, .aload_n 0), (100, .aload_n 1), (101, .getfield 44), (104, .putfield 44), (107, .aload_n 0), (108, .aload_n 1), (109, .getfield 48), (112, .putfield 48), (115, .aload_n 0), (116, .aload_n 1), (117, .getfield 51), (120, .putfield 51), (123, .aload_n 0), (124, .aload_n 1), (125, .getfield 54), (128, .putfield 54), (131, .return_)]
def mX3_takeFrom : aM := (yX3_takeFrom, prog_5_method_2_code, tX3_takeFrom, 2, none, flX3, ksX3)
theorem okX3_takeFrom : aOK mX3_takeFrom := ⟨by decide +kernel, flokX3, ksokX3, by decide⟩
theorem caX3_takeFrom : aCal mX3_takeFrom 1 := ⟨aBW_at 304 (by decide +kernel) (by decide +kernel), iniX3, ⟨by decide +kernel, by decide +kernel⟩, by decide +kernel, by decide +kernel, by decide⟩
def yX3_people : MethodName := ⟨RX3, "people", "()I"⟩
def tX3_people : List (Nat × Instr) := [(0, .aload_n 0), (1, .getfield 44), (4, .ireturn)]
def mX3_people : aM := (yX3_people, prog_5_method_3_code, tX3_people, 1, (some .int), flX3, ksX3)
theorem okX3_people : aOK mX3_people := ⟨by decide +kernel, flokX3, ksokX3, by decide⟩
theorem caX3_people : aCal mX3_people 0 := ⟨aBW_at 405 (by decide +kernel) (by decide +kernel), iniX3, ⟨by decide +kernel, by decide +kernel⟩, by decide +kernel, by decide +kernel, by decide⟩
def yX3_total : MethodName := ⟨RX3, "total", "()I"⟩
def tX3_total : List (Nat × Instr) := [(0, .aload_n 0), (1, .getfield 48), (4, .ireturn)]
def mX3_total : aM := (yX3_total, prog_5_method_4_code, tX3_total, 1, (some .int), flX3, ksX3)
theorem okX3_total : aOK mX3_total := ⟨by decide +kernel, flokX3, ksokX3, by decide⟩
theorem caX3_total : aCal mX3_total 0 := ⟨aBW_at 569 (by decide +kernel) (by decide +kernel), iniX3, ⟨by decide +kernel, by decide +kernel⟩, by decide +kernel, by decide +kernel, by decide⟩
def yX3_day : MethodName := ⟨RX3, "day", "()I"⟩
def tX3_day : List (Nat × Instr) := [(0, .aload_n 0), (1, .getfield 51), (4, .ireturn)]
def mX3_day : aM := (yX3_day, prog_5_method_5_code, tX3_day, 1, (some .int), flX3, ksX3)
theorem okX3_day : aOK mX3_day := ⟨by decide +kernel, flokX3, ksokX3, by decide⟩
theorem caX3_day : aCal mX3_day 0 := ⟨aBW_at 474 (by decide +kernel) (by decide +kernel), iniX3, ⟨by decide +kernel, by decide +kernel⟩, by decide +kernel, by decide +kernel, by decide⟩
def yX3_isThere : MethodName := ⟨RX3, "isThere", "(I)Z"⟩
def tX3_isThere : List (Nat × Instr) := [(0, .iload_n 1), (1, .ifCond .lt 15), (4, .iload_n 1), (5, .aload_n 0), (6, .getfield 44), (9, .if_icmp .ge 7), (12, .iconst 1), (13, .goto 4), (16, .iconst 0), (17, .ireturn)]
def mX3_isThere : aM := (yX3_isThere, prog_5_method_6_code, tX3_isThere, 2, (some .boolean), flX3, ksX3)
theorem okX3_isThere : aOK mX3_isThere := ⟨by decide +kernel, flokX3, ksokX3, by decide⟩
theorem caX3_isThere : aCal mX3_isThere 1 := ⟨aBW_at 449 (by decide +kernel) (by decide +kernel), iniX3, ⟨by decide +kernel, by decide +kernel⟩, by decide +kernel, by decide +kernel, by decide⟩
def yX3_areTwo : MethodName := ⟨RX3, "areTwo", "(II)Z"⟩
def tX3_areTwo : List (Nat × Instr) := [(0, .aload_n 0), (1, .iload_n 1), (2, .invokevirtual 61), (5, .ifCond .eq 20), (8, .aload_n 0), (9, .iload_n 2), (10, .invokevirtual 61), (13, .ifCond .eq 12), (16, .iload_n 1), (17, .iload_n 2), (18, .if_icmp .eq 7), (21, .iconst 1), (22, .goto 4), (25, .iconst 0), (26, .ireturn)]
def mX3_areTwo : aM := (yX3_areTwo, prog_5_method_7_code, tX3_areTwo, 3, (some .boolean), flX3, ksX3)
theorem okX3_areTwo : aOK mX3_areTwo := ⟨by decide +kernel, flokX3, ksokX3, by decide⟩
theorem caX3_areTwo : aCal mX3_areTwo 2 := ⟨aBW_at 457 (by decide +kernel) (by decide +kernel), iniX3, ⟨by decide +kernel, by decide +kernel⟩, by decide +kernel, by decide +kernel, by decide⟩
def yX3_kindOf : MethodName := ⟨RX3, "kindOf", "(I)I"⟩
def tX3_kindOf : List (Nat × Instr) := [(0, .aload_n 0), (1, .getfield 14), (4, .iload_n 1), (5, .invokevirtual 65), (8, .ireturn)]
def mX3_kindOf : aM := (yX3_kindOf, prog_5_method_8_code, tX3_kindOf, 2, (some .int), flX3, ksX3)
theorem okX3_kindOf : aOK mX3_kindOf := ⟨by decide +kernel, flokX3, ksokX3, by decide⟩
theorem caX3_kindOf : aCal mX3_kindOf 1 := ⟨aBW_at 497 (by decide +kernel) (by decide +kernel), iniX3, ⟨by decide +kernel, by decide +kernel⟩, by decide +kernel, by decide +kernel, by decide⟩
def yX3_figureOf : MethodName := ⟨RX3, "figureOf", "(I)I"⟩
def tX3_figureOf : List (Nat × Instr) := [(0, .aload_n 0), (1, .getfield 20), (4, .iload_n 1), (5, .invokevirtual 65), (8, .ireturn)]
def mX3_figureOf : aM := (yX3_figureOf, prog_5_method_9_code, tX3_figureOf, 2, (some .int), flX3, ksX3)
theorem okX3_figureOf : aOK mX3_figureOf := ⟨by decide +kernel, flokX3, ksokX3, by decide⟩
theorem caX3_figureOf : aCal mX3_figureOf 1 := ⟨aBW_at 501 (by decide +kernel) (by decide +kernel), iniX3, ⟨by decide +kernel, by decide +kernel⟩, by decide +kernel, by decide +kernel, by decide⟩
def yX3_cellOf : MethodName := ⟨RX3, "cellOf", "(I)I"⟩
def tX3_cellOf : List (Nat × Instr) := [(0, .aload_n 0), (1, .getfield 23), (4, .iload_n 1), (5, .invokevirtual 65), (8, .ireturn)]
def mX3_cellOf : aM := (yX3_cellOf, prog_5_method_10_code, tX3_cellOf, 2, (some .int), flX3, ksX3)
theorem okX3_cellOf : aOK mX3_cellOf := ⟨by decide +kernel, flokX3, ksokX3, by decide⟩
theorem caX3_cellOf : aCal mX3_cellOf 1 := ⟨aBW_at 505 (by decide +kernel) (by decide +kernel), iniX3, ⟨by decide +kernel, by decide +kernel⟩, by decide +kernel, by decide +kernel, by decide⟩
def yX3_needOf : MethodName := ⟨RX3, "needOf", "(I)I"⟩
def tX3_needOf : List (Nat × Instr) := [(0, .aload_n 0), (1, .getfield 26), (4, .iload_n 1), (5, .invokevirtual 65), (8, .ireturn)]
def mX3_needOf : aM := (yX3_needOf, prog_5_method_11_code, tX3_needOf, 2, (some .int), flX3, ksX3)
theorem okX3_needOf : aOK mX3_needOf := ⟨by decide +kernel, flokX3, ksokX3, by decide⟩
theorem caX3_needOf : aCal mX3_needOf 1 := ⟨aBW_at 509 (by decide +kernel) (by decide +kernel), iniX3, ⟨by decide +kernel, by decide +kernel⟩, by decide +kernel, by decide +kernel, by decide⟩
def yX3_keptOf : MethodName := ⟨RX3, "keptOf", "(I)I"⟩
def tX3_keptOf : List (Nat × Instr) := [(0, .aload_n 0), (1, .getfield 29), (4, .iload_n 1), (5, .invokevirtual 65), (8, .ireturn)]
def mX3_keptOf : aM := (yX3_keptOf, prog_5_method_12_code, tX3_keptOf, 2, (some .int), flX3, ksX3)
theorem okX3_keptOf : aOK mX3_keptOf := ⟨by decide +kernel, flokX3, ksokX3, by decide⟩
theorem caX3_keptOf : aCal mX3_keptOf 1 := ⟨aBW_at 513 (by decide +kernel) (by decide +kernel), iniX3, ⟨by decide +kernel, by decide +kernel⟩, by decide +kernel, by decide +kernel, by decide⟩
def yX3_weightOf : MethodName := ⟨RX3, "weightOf", "(I)I"⟩
def tX3_weightOf : List (Nat × Instr) := [(0, .aload_n 0), (1, .getfield 38), (4, .iload_n 1), (5, .invokevirtual 65), (8, .ireturn)]
def mX3_weightOf : aM := (yX3_weightOf, prog_5_method_13_code, tX3_weightOf, 2, (some .int), flX3, ksX3)
theorem okX3_weightOf : aOK mX3_weightOf := ⟨by decide +kernel, flokX3, ksokX3, by decide⟩
theorem caX3_weightOf : aCal mX3_weightOf 1 := ⟨aBW_at 517 (by decide +kernel) (by decide +kernel), iniX3, ⟨by decide +kernel, by decide +kernel⟩, by decide +kernel, by decide +kernel, by decide⟩
def yX3_shareOf : MethodName := ⟨RX3, "shareOf", "(I)I"⟩
def tX3_shareOf : List (Nat × Instr) := [(0, .aload_n 0), (1, .getfield 41), (4, .iload_n 1), (5, .invokevirtual 65), (8, .ireturn)]
def mX3_shareOf : aM := (yX3_shareOf, prog_5_method_14_code, tX3_shareOf, 2, (some .int), flX3, ksX3)
theorem okX3_shareOf : aOK mX3_shareOf := ⟨by decide +kernel, flokX3, ksokX3, by decide⟩
theorem caX3_shareOf : aCal mX3_shareOf 1 := ⟨aBW_at 521 (by decide +kernel) (by decide +kernel), iniX3, ⟨by decide +kernel, by decide +kernel⟩, by decide +kernel, by decide +kernel, by decide⟩
def yX3_stepsOf : MethodName := ⟨RX3, "stepsOf", "(II)I"⟩
def tX3_stepsOf : List (Nat × Instr) := [(0, .aload_n 0), (1, .getfield 23), (4, .iload_n 1), (5, .invokevirtual 65), (8, .aload_n 0), (9, .getfield 23), (12, .iload_n 2), (13, .invokevirtual 65), (16, .invokestatic 69), (19, .ireturn)]
def mX3_stepsOf : aM := (yX3_stepsOf, prog_5_method_15_code, tX3_stepsOf, 3, (some .int), flX3, ksX3)
theorem okX3_stepsOf : aOK mX3_stepsOf := ⟨by decide +kernel, flokX3, ksokX3, by decide⟩
theorem caX3_stepsOf : aCal mX3_stepsOf 2 := ⟨aBW_at 732 (by decide +kernel) (by decide +kernel), iniX3, ⟨by decide +kernel, by decide +kernel⟩, by decide +kernel, by decide +kernel, by decide⟩
def yX3_lentBy : MethodName := ⟨RX3, "lentBy", "(II)I"⟩
def tX3_lentBy : List (Nat × Instr) := [(0, .aload_n 0), (1, .getfield 32), (4, .iload_n 1), (5, .bipush 7), (7, .imul), (8, .iload_n 2), (9, .iadd), (10, .invokevirtual 65), (13, .ireturn)]
def mX3_lentBy : aM := (yX3_lentBy, prog_5_method_16_code, tX3_lentBy, 3, (some .int), flX3, ksX3)
theorem okX3_lentBy : aOK mX3_lentBy := ⟨by decide +kernel, flokX3, ksokX3, by decide⟩
theorem caX3_lentBy : aCal mX3_lentBy 2 := ⟨aBW_at 422 (by decide +kernel) (by decide +kernel), iniX3, ⟨by decide +kernel, by decide +kernel⟩, by decide +kernel, by decide +kernel, by decide⟩
def yX3_netOf : MethodName := ⟨RX3, "netOf", "(I)I"⟩
def tX3_netOf : List (Nat × Instr) := [(0, .aload_n 0), (1, .getfield 35), (4, .iload_n 1), (5, .invokevirtual 65), (8, .ireturn)]
def mX3_netOf : aM := (yX3_netOf, prog_5_method_17_code, tX3_netOf, 2, (some .int), flX3, ksX3)
theorem okX3_netOf : aOK mX3_netOf := ⟨by decide +kernel, flokX3, ksokX3, by decide⟩
theorem caX3_netOf : aCal mX3_netOf 1 := ⟨aBW_at 745 (by decide +kernel) (by decide +kernel), iniX3, ⟨by decide +kernel, by decide +kernel⟩, by decide +kernel, by decide +kernel, by decide⟩
def yX3_hasOf : MethodName := ⟨RX3, "hasOf", "(I)I"⟩
def tX3_hasOf : List (Nat × Instr) := [(0, .aload_n 0), (1, .getfield 41), (4, .iload_n 1), (5, .invokevirtual 65), (8, .aload_n 0), (9, .getfield 35), (12, .iload_n 1), (13, .invokevirtual 65), (16, .isub), (17, .ireturn)]
def mX3_hasOf : aM := (yX3_hasOf, prog_5_method_18_code, tX3_hasOf, 2, (some .int), flX3, ksX3)
theorem okX3_hasOf : aOK mX3_hasOf := ⟨by decide +kernel, flokX3, ksokX3, by decide⟩
theorem caX3_hasOf : aCal mX3_hasOf 1 := ⟨aBW_at 482 (by decide +kernel) (by decide +kernel), iniX3, ⟨by decide +kernel, by decide +kernel⟩, by decide +kernel, by decide +kernel, by decide⟩
def yX3_allShares : MethodName := ⟨RX3, "allShares", "()I"⟩
def tX3_allShares : List (Nat × Instr) := [(0, .aload_n 0), (1, .getfield 44), (4, .ifCond .le 10), (7, .aload_n 0), (8, .getfield 48), (11, .goto 4), (14, .iconst 0), (15, .ireturn)]
def mX3_allShares : aM := (yX3_allShares, prog_5_method_19_code, tX3_allShares, 1, (some .int), flX3, ksX3)
theorem okX3_allShares : aOK mX3_allShares := ⟨by decide +kernel, flokX3, ksokX3, by decide⟩
theorem caX3_allShares : aCal mX3_allShares 0 := ⟨aBW_at 683 (by decide +kernel) (by decide +kernel), iniX3, ⟨by decide +kernel, by decide +kernel⟩, by decide +kernel, by decide +kernel, by decide⟩
def yX3_allWeights : MethodName := ⟨RX3, "allWeights", "()I"⟩
def tX3_allWeights : List (Nat × Instr) := [(0, .aload_n 0), (1, .getfield 54), (4, .ireturn)]
def mX3_allWeights : aM := (yX3_allWeights, prog_5_method_20_code, tX3_allWeights, 1, (some .int), flX3, ksX3)
theorem okX3_allWeights : aOK mX3_allWeights := ⟨by decide +kernel, flokX3, ksokX3, by decide⟩
theorem caX3_allWeights : aCal mX3_allWeights 0 := ⟨aBW_at 928 (by decide +kernel) (by decide +kernel), iniX3, ⟨by decide +kernel, by decide +kernel⟩, by decide +kernel, by decide +kernel, by decide⟩
def yX3_allNeeds : MethodName := ⟨RX3, "allNeeds", "()I"⟩
def tX3_allNeeds : List (Nat × Instr) := [(0, .aload_n 0), (1, .aload_n 0), (2, .getfield 26), (5, .invokevirtual 73), (8, .ireturn)]
def mX3_allNeeds : aM := (yX3_allNeeds, prog_5_method_21_code, tX3_allNeeds, 1, (some .int), flX3, ksX3)
theorem okX3_allNeeds : aOK mX3_allNeeds := ⟨by decide +kernel, flokX3, ksokX3, by decide⟩
theorem caX3_allNeeds : aCal mX3_allNeeds 0 := ⟨aBW_at 932 (by decide +kernel) (by decide +kernel), iniX3, ⟨by decide +kernel, by decide +kernel⟩, by decide +kernel, by decide +kernel, by decide⟩
def yX3_allKept : MethodName := ⟨RX3, "allKept", "()I"⟩
def tX3_allKept : List (Nat × Instr) := [(0, .aload_n 0), (1, .aload_n 0), (2, .getfield 29), (5, .invokevirtual 73), (8, .ireturn)]
def mX3_allKept : aM := (yX3_allKept, prog_5_method_22_code, tX3_allKept, 1, (some .int), flX3, ksX3)
theorem okX3_allKept : aOK mX3_allKept := ⟨by decide +kernel, flokX3, ksokX3, by decide⟩
theorem caX3_allKept : aCal mX3_allKept 0 := ⟨aBW_at 940 (by decide +kernel) (by decide +kernel), iniX3, ⟨by decide +kernel, by decide +kernel⟩, by decide +kernel, by decide +kernel, by decide⟩
def yX3_allOf : MethodName := ⟨RX3, "allOf", "(LAloneIsAQuantity$Numbers;)I"⟩
def tX3_allOf : List (Nat × Instr) := [(0, .iconst 0), (1, .istore_n 2), (2, .iconst 0), (3, .istore_n 3), (4, .iload_n 3), (5, .aload_n 0), (6, .getfield 44), (9, .if_icmp .ge 17), (12, .iload_n 2), (13, .aload_n 1), (14, .iload_n 3), (15, .invokevirtual 65), (18, .iadd), (19, .istore_n 2), (20, .iinc 3 1), (23, .goto (-19)), (26, .iload_n 2), (27, .ireturn)]
def mX3_allOf : aM := (yX3_allOf, prog_5_method_23_code, tX3_allOf, 4, (some .int), flX3, ksX3)
theorem okX3_allOf : aOK mX3_allOf := ⟨by decide +kernel, flokX3, ksokX3, by decide⟩
theorem caX3_allOf : aCal mX3_allOf 1 := ⟨aBW_at 936 (by decide +kernel) (by decide +kernel), iniX3, ⟨by decide +kernel, by decide +kernel⟩, by decide +kernel, by decide +kernel, by decide⟩
def yX3_contentBits : MethodName := ⟨RX3, "contentBits", "()I"⟩
def tX3_contentBits : List (Nat × Instr) := [(0, .iconst 0), (1, .istore_n 1), (2, .iconst 0), (3, .istore_n 2), (4, .iload_n 2), (5, .aload_n 0), (6, .getfield 44), (9, .if_icmp .ge 31), (12, .aload_n 0), (13, .iload_n 2), (14, .invokevirtual 77), (17, .aload_n 0), (18, .getfield 26), (21, .iload_n 2), (22, .invokevirtual 65), (25, .if_icmp .lt 9), (28, .iload_n 1), (29, .iconst 1), (30, .iload_n 2), (31, .ishl), (32, .ior), (33, .istore_n 1), (34, .iinc 2 1), (37, .goto (-33)), (40, .iload_n 1), (41, .ireturn)]
def mX3_contentBits : aM := (yX3_contentBits, prog_5_method_24_code, tX3_contentBits, 3, (some .int), flX3, ksX3)
theorem okX3_contentBits : aOK mX3_contentBits := ⟨by decide +kernel, flokX3, ksokX3, by decide⟩
theorem caX3_contentBits : aCal mX3_contentBits 0 := ⟨aBW_at 705 (by decide +kernel) (by decide +kernel), iniX3, ⟨by decide +kernel, by decide +kernel⟩, by decide +kernel, by decide +kernel, by decide⟩
def yX3_loansAboveNothing : MethodName := ⟨RX3, "loansAboveNothing", "()I"⟩
def tX3_loansAboveNothing : List (Nat × Instr) := [(0, .iconst 0), (1, .istore_n 1), (2, .iconst 0), (3, .istore_n 2), (4, .iload_n 2), (5, .aload_n 0), (6, .getfield 44), (9, .if_icmp .ge 37), (12, .iconst 0), (13, .istore_n 3), (14, .iload_n 3), (15, .aload_n 0), (16, .getfield 44), (19, .if_icmp .ge 21), (22, .aload_n 0), (23, .iload_n 2), (24, .iload_n 3), (25, .invokevirtual 80), (28, .ifCond .le 6), (31, .iinc 1 1), (34, .iinc 3 1), (37, .goto (-23)), (40, .iinc 2 1), (43, .goto (-39)), (46, .iload_n 1), (47, .ireturn)]
def mX3_loansAboveNothing : aM := (yX3_loansAboveNothing, prog_5_method_25_code, tX3_loansAboveNothing, 4, (some .int), flX3, ksX3)
theorem okX3_loansAboveNothing : aOK mX3_loansAboveNothing := ⟨by decide +kernel, flokX3, ksokX3, by decide⟩
theorem caX3_loansAboveNothing : aCal mX3_loansAboveNothing 0 := ⟨aBW_at 753 (by decide +kernel) (by decide +kernel), iniX3, ⟨by decide +kernel, by decide +kernel⟩, by decide +kernel, by decide +kernel, by decide⟩
def yX3_mostSteps : MethodName := ⟨RX3, "mostSteps", "()I"⟩
def tX3_mostSteps : List (Nat × Instr) := [(0, .bipush (-9)), (2, .istore_n 1), (3, .iconst 0), (4, .istore_n 2), (5, .iload_n 2), (6, .aload_n 0), (7, .getfield 44), (10, .if_icmp .ge 38), (13, .iload_n 2), (14, .iconst 1), (15, .iadd), (16, .istore_n 3), (17, .iload_n 3), (18, .aload_n 0), (19, .getfield 44), (22, .if_icmp .ge 20), (25, .iload_n 1), (26, .aload_n 0), (27, .iload_n 2), (28, .iload_n 3), (29, .invokevirtual 83), (32, .invokestatic 86), (35, .istore_n 1), (36, .iinc 3 1), (39, .goto (-22)), (42, .iinc 2 1), (45, .goto (-40)), (48, .iload_n 1), (49, .ireturn)]
def mX3_mostSteps : aM := (yX3_mostSteps, prog_5_method_26_code, tX3_mostSteps, 4, (some .int), flX3, ksX3)
theorem okX3_mostSteps : aOK mX3_mostSteps := ⟨by decide +kernel, flokX3, ksokX3, by decide⟩
theorem caX3_mostSteps : aCal mX3_mostSteps 0 := ⟨aBW_at 820 (by decide +kernel) (by decide +kernel), iniX3, ⟨by decide +kernel, by decide +kernel⟩, by decide +kernel, by decide +kernel, by decide⟩
def yX3_nearestPair : MethodName := ⟨RX3, "nearestPai\x72", "()I"⟩
def tX3_nearestPair : List (Nat × Instr) := [(0, .bipush (-9)), (2, .istore_n 1), (3, .bipush 11), (5, .istore_n 2), (6, .iconst 0), (7, .istore_n 3), (8, .iload_n 3), (9, .aload_n 0), (10, .getfield 44), (13, .if_icmp .ge 56), (16, .iload_n 3), (17, .iconst 1), (18, .iadd), (19, .istore 4), (21, .iload 4), (23, .aload_n 0), (24, .getfield 44), (27, .if_icmp .ge 36), (30, .aload_n 0), (31, .iload_n 3), (32, .iload 4), (34, .invokevirtual 83), (37, .iload_n 2), (38, .if_icmp .ge 19), (41, .aload_n 0), (42, .iload_n 3), (43, .iload 4), (45, .invokevirtual 83), (48, .istore_n 2), (49, .bipush 10), (51, .iload_n 3), (52, .imul), (53, .iload 4), (55, .iadd), (56, .istore_n 1), (57, .iinc 4 1), (60, .goto (-39)), (63, .iinc 3 1), (66, .goto (-58)), (69, .iload_n 1), (70, .ireturn)]
def mX3_nearestPair : aM := (yX3_nearestPair, prog_5_method_27_code, tX3_nearestPair, 5, (some .int), flX3, ksX3)
theorem okX3_nearestPair : aOK mX3_nearestPair := ⟨by decide +kernel, flokX3, ksokX3, by decide⟩
theorem caX3_nearestPair : aCal mX3_nearestPair 0 := ⟨aBW_at 815 (by decide +kernel) (by decide +kernel), iniX3, ⟨by decide +kernel, by decide +kernel⟩, by decide +kernel, by decide +kernel, by decide⟩
def yX3_leastSteps : MethodName := ⟨RX3, "leastSteps", "()I"⟩
def tX3_leastSteps : List (Nat × Instr) := [(0, .aload_n 0), (1, .invokevirtual 91), (4, .istore_n 1), (5, .iload_n 1), (6, .bipush (-9)), (8, .if_icmp .ne 8), (11, .bipush (-9)), (13, .goto 15), (16, .aload_n 0), (17, .iload_n 1), (18, .bipush 10), (20, .idiv), (21, .iload_n 1), (22, .bipush 10), (24, .irem), (25, .invokevirtual 83), (28, .ireturn)]
def mX3_leastSteps : aM := (yX3_leastSteps, prog_5_method_28_code, tX3_leastSteps, 2, (some .int), flX3, ksX3)
theorem okX3_leastSteps : aOK mX3_leastSteps := ⟨by decide +kernel, flokX3, ksokX3, by decide⟩
theorem caX3_leastSteps : aCal mX3_leastSteps 0 := ⟨aBW_at 811 (by decide +kernel) (by decide +kernel), iniX3, ⟨by decide +kernel, by decide +kernel⟩, by decide +kernel, by decide +kernel, by decide⟩
def yX3_setTotal : MethodName := ⟨RX3, "setTotal", "(I)V"⟩
def tX3_setTotal : List (Nat × Instr) := [(0, .aload_n 0), (1, .iload_n 1), (2, .putfield 48), (5, .aload_n 0), (6, .invokevirtual 95), (9, .return_)]
def mX3_setTotal : aM := (yX3_setTotal, prog_5_method_29_code, tX3_setTotal, 2, none, flX3, ksX3)
theorem okX3_setTotal : aOK mX3_setTotal := ⟨by decide +kernel, flokX3, ksokX3, by decide⟩
theorem caX3_setTotal : aCal mX3_setTotal 1 := ⟨aBW_at 470 (by decide +kernel) (by decide +kernel), iniX3, ⟨by decide +kernel, by decide +kernel⟩, by decide +kernel, by decide +kernel, by decide⟩
def yX3_setKept : MethodName := ⟨RX3, "setKept", "(II)V"⟩
def tX3_setKept : List (Nat × Instr) := [(0, .aload_n 0), (1, .getfield 29), (4, .iload_n 1), (5, .iload_n 2), (6, .invokevirtual 98), (9, .return_)]
def mX3_setKept : aM := (yX3_setKept, prog_5_method_30_code, tX3_setKept, 3, none, flX3, ksX3)
theorem okX3_setKept : aOK mX3_setKept := ⟨by decide +kernel, flokX3, ksokX3, by decide⟩
theorem caX3_setKept : aCal mX3_setKept 2 := ⟨aBW_at 466 (by decide +kernel) (by decide +kernel), iniX3, ⟨by decide +kernel, by decide +kernel⟩, by decide +kernel, by decide +kernel, by decide⟩
def yX3_setNeed : MethodName := ⟨RX3, "setNeed", "(II)V"⟩
def tX3_setNeed : List (Nat × Instr) := [(0, .aload_n 0), (1, .getfield 26), (4, .iload_n 1), (5, .iload_n 2), (6, .invokevirtual 98), (9, .return_)]
def mX3_setNeed : aM := (yX3_setNeed, prog_5_method_31_code, tX3_setNeed, 3, none, flX3, ksX3)
theorem okX3_setNeed : aOK mX3_setNeed := ⟨by decide +kernel, flokX3, ksokX3, by decide⟩
theorem caX3_setNeed : aCal mX3_setNeed 2 := ⟨aBW_at 561 (by decide +kernel) (by decide +kernel), iniX3, ⟨by decide +kernel, by decide +kernel⟩, by decide +kernel, by decide +kernel, by decide⟩
def yX3_setLent : MethodName := ⟨RX3, "setLent", "(III)V"⟩
def tX3_setLent : List (Nat × Instr) := [(0, .aload_n 0), (1, .iload_n 1), (2, .iload_n 2), (3, .iload_n 3), (4, .invokevirtual 102), (7, .aload_n 0), (8, .invokevirtual 106), (11, .return_)]
def mX3_setLent : aM := (yX3_setLent, prog_5_method_32_code, tX3_setLent, 4, none, flX3, ksX3)
theorem okX3_setLent : aOK mX3_setLent := ⟨by decide +kernel, flokX3, ksokX3, by decide⟩
theorem caX3_setLent : aCal mX3_setLent 3 := ⟨aBW_at 462 (by decide +kernel) (by decide +kernel), iniX3, ⟨by decide +kernel, by decide +kernel⟩, by decide +kernel, by decide +kernel, by decide⟩
def yX3_putLent : MethodName := ⟨RX3, "putLent", "(III)V"⟩
def tX3_putLent : List (Nat × Instr) := [(0, .aload_n 0), (1, .getfield 32), (4, .iload_n 1), (5, .bipush 7), (7, .imul), (8, .iload_n 2), (9, .iadd), (10, .iload_n 3), (11, .invokevirtual 98), (14, .return_)]
def mX3_putLent : aM := (yX3_putLent, prog_5_method_33_code, tX3_putLent, 4, none, flX3, ksX3)
theorem okX3_putLent : aOK mX3_putLent := ⟨by decide +kernel, flokX3, ksokX3, by decide⟩
theorem caX3_putLent : aCal mX3_putLent 3 := ⟨aBW_at 414 (by decide +kernel) (by decide +kernel), iniX3, ⟨by decide +kernel, by decide +kernel⟩, by decide +kernel, by decide +kernel, by decide⟩
def yX3_setKind : MethodName := ⟨RX3, "setKind", "(II)V"⟩
def tX3_setKind : List (Nat × Instr) := [(0, .aload_n 0), (1, .getfield 14), (4, .iload_n 1), (5, .iload_n 2), (6, .invokevirtual 98), (9, .aload_n 0), (10, .invokevirtual 109), (13, .return_)]
def mX3_setKind : aM := (yX3_setKind, prog_5_method_34_code, tX3_setKind, 3, none, flX3, ksX3)
theorem okX3_setKind : aOK mX3_setKind := ⟨by decide +kernel, flokX3, ksokX3, by decide⟩
theorem caX3_setKind : aCal mX3_setKind 2 := ⟨aBW_at 855 (by decide +kernel) (by decide +kernel), iniX3, ⟨by decide +kernel, by decide +kernel⟩, by decide +kernel, by decide +kernel, by decide⟩
def yX3_setFigure : MethodName := ⟨RX3, "setFigure", "(II)V"⟩
def tX3_setFigure : List (Nat × Instr) := [(0, .aload_n 0), (1, .getfield 20), (4, .iload_n 1), (5, .iload_n 2), (6, .invokevirtual 98), (9, .aload_n 0), (10, .invokevirtual 109), (13, .return_)]
def mX3_setFigure : aM := (yX3_setFigure, prog_5_method_35_code, tX3_setFigure, 3, none, flX3, ksX3)
theorem okX3_setFigure : aOK mX3_setFigure := ⟨by decide +kernel, flokX3, ksokX3, by decide⟩
theorem caX3_setFigure : aCal mX3_setFigure 2 := ⟨aBW_at 867 (by decide +kernel) (by decide +kernel), iniX3, ⟨by decide +kernel, by decide +kernel⟩, by decide +kernel, by decide +kernel, by decide⟩
def yX3_place : MethodName := ⟨RX3, "place", "(II)V"⟩
def tX3_place : List (Nat × Instr) := [(0, .aload_n 0), (1, .getfield 23), (4, .iload_n 1), (5, .iload_n 2), (6, .invokevirtual 98), (9, .aload_n 0), (10, .invokevirtual 109), (13, .return_)]
def mX3_place : aM := (yX3_place, prog_5_method_36_code, tX3_place, 3, none, flX3, ksX3)
theorem okX3_place : aOK mX3_place := ⟨by decide +kernel, flokX3, ksokX3, by decide⟩
theorem caX3_place : aCal mX3_place 2 := ⟨aBW_at 453 (by decide +kernel) (by decide +kernel), iniX3, ⟨by decide +kernel, by decide +kernel⟩, by decide +kernel, by decide +kernel, by decide⟩
def yX3_add : MethodName := ⟨RX3, "add", "(IIII)V"⟩
def tX3_add : List (Nat × Instr) := [(0, .aload_n 0), (1, .getfield 44), (4, .bipush 7), (6, .if_icmp .lt 4), (9, .return_), (10, .aload_n 0), (11, .getfield 14), (14, .aload_n 0), (15, .getfield 44), (18, .iload_n 1), (19, .invokevirtual 98), (22, .aload_n 0), (23, .getfield 20), (26, .aload_n 0), (27, .getfield 44), (30, .iload_n 2), (31, .invokevirtual 98), (34, .aload_n 0), (35, .getfield 23), (38, .aload_n 0), (39, .getfield 44), (42, .iload_n 3), (43, .invokevirtual 98), (46, .aload_n 0), (47, .getfield 26), (50, .aload_n 0), (51, .getfield 44), (54, .iload 4), (56, .invokevirtual 98), (59, .aload_n 0), (60, .getfield 29), (63, .aload_n 0), (64, .getfield 44), (67, .iconst 0), (68, .invokevirtual 98), (71, .iconst 0), (72, .istore 5), (74, .iload 5), (76, .bipush 7), (78, .if_icmp .ge 31), (81, .aload_n 0), (82, .aload_n 0), (83, .getfield 44), (86, .iload 5), (88, .iconst 0), (89, .invokevirtual 102), (92, .aload_n 0), (93, .iload 5), (95, .aload_n 0), (96, .getfield 44), (99, .iconst 0), (100, .invokevirtual 102), (103, .iinc 5 1), (106, .goto (-32)), (109, .aload_n 0), (110, .dup), (111, .getfield 44), (114, .iconst 1), (115, .iadd), (116, .putfield 44), (119, .aload_n 0), (120, .invokevirtual 106), (123, .aload_n 0), (124, .invokevirtual 109), (127, .return_)]
def mX3_add : aM := (yX3_add, prog_5_method_37_code, tX3_add, 6, none, flX3, ksX3)
theorem okX3_add : aOK mX3_add := ⟨by decide +kernel, flokX3, ksokX3, by decide⟩
theorem caX3_add : aCal mX3_add 4 := ⟨aBW_at 409 (by decide +kernel) (by decide +kernel), iniX3, ⟨by decide +kernel, by decide +kernel⟩, by decide +kernel, by decide +kernel, by decide⟩
def yX3_remove : MethodName := ⟨RX3, "remove", "(I)V"⟩
def tX3_remove : List (Nat × Instr) := [(0, .aload_n 0), (1, .iload_n 1), (2, .invokevirtual 61), (5, .ifCond .ne 4), (8, .return_), (9, .iload_n 1), (10, .istore_n 2), (11, .iload_n 2), (12, .iconst 1), (13, .iadd), (14, .aload_n 0), (15, .getfield 44), (18, .if_icmp .ge 129), (21, .aload_n 0), (22, .getfield 14), (25, .iload_n 2), (26, .aload_n 0), (27, .getfield 14), (30, .iload_n 2), (31, .iconst 1), (32, .iadd), (33, .invokevirtual 65), (36, .invokevirtual 98), (39, .aload_n 0), (40, .getfield 20), (43, .iload_n 2), (44, .aload_n 0), (45, .getfield 20), (48, .iload_n 2), (49, .iconst 1), (50, .iadd), (51, .invokevirtual 65), (54, .invokevirtual 98), (57, .aload_n 0), (58, .getfield 23), (61, .iload_n 2), (62, .aload_n 0), (63, .getfield 23), (66, .iload_n 2), (67, .iconst 1), (68, .iadd), (69, .invokevirtual 65), (72, .invokevirtual 98), (75, .aload_n 0), (76, .getfield 26), (79, .iload_n 2), (80, .aload_n 0), (81, .getfield 26), (84, .iload_n 2), (85, .iconst 1), (86, .iadd), (87, .invokevirtual 65), (90, .invokevirtual 98), (93, .aload_n 0), (94, .getfield 29), (97, .iload_n 2), (98, .aload_n 0), (99, .getfield 29), (102, .iload_n 2), (103, .iconst 1), (104, .iadd), (105, .invokevirtual 65), (108, .invokevirtual 98), (111, .iconst 0), (112, .istore_n 3), (113, .iload_n 3), (114, .aload_n 0), (115, .getfield 44), (118, .if_icmp .ge 23), (121, .aload_n 0), (122, .iload_n 2), (123, .iload_n 3), (124, .aload_n 0), (125, .iload_n 2), (126, .iconst 1), (127, .iadd), (128, .iload_n 3), (129, .invokevirtual 80), (132, .invokevirtual 102), (135, .iinc 3 1), (138, .goto (-25)), (141, .iinc 2 1), (144, .goto (-133)), (147, .iload_n 1), (148, .istore_n 2), (149, .iload_n 2), (150, .iconst 1), (151, .iadd), (152, .aload_n 0), (153, .getfield 44), (156, .if_icmp .ge 39), (159, .iconst 0), (160, .istore_n 3), (161, .iload_n 3), (162, .aload_n 0), (163, .getfield 44), (166, .if_icmp .ge 23), (169, .aload_n 0), (170, .iload_n 3), (171, .iload_n 2), (172, .aload_n 0), (173, .iload_n 3), (174, .iload_n 2), (175, .iconst 1), (176, .iadd), (177, .invokevirtual 80), (180, .invokevirtual 102), (183, .iinc 3 1), (186, .goto (-25)), (189, .iinc 2 1), (192, .goto (-43)), (195, .aload_n 0), (196, .dup), (197, .getfield 44), (200, .iconst 1), (201, .isub), (202, .putfield 44), (205, .aload_n 0), (206, .invokevirtual 106), (209, .aload_n 0), (210, .invokevirtual 109), (213, .return_)]
def mX3_remove : aM := (yX3_remove, prog_5_method_38_code, tX3_remove, 4, none, flX3, ksX3)
theorem okX3_remove : aOK mX3_remove := ⟨by decide +kernel, flokX3, ksokX3, by decide⟩
theorem caX3_remove : aCal mX3_remove 1 := ⟨aBW_at 655 (by decide +kernel) (by decide +kernel), iniX3, ⟨by decide +kernel, by decide +kernel⟩, by decide +kernel, by decide +kernel, by decide⟩
def yX3_passDays : MethodName := ⟨RX3, "passDays", "(I)I"⟩
def tX3_passDays : List (Nat × Instr) := [(0, .iconst 0), (1, .istore_n 2), (2, .iconst 0), (3, .istore_n 3), (4, .iload_n 3), (5, .iload_n 1), (6, .if_icmp .ge 100), (9, .aload_n 0), (10, .dup), (11, .getfield 51), (14, .iconst 1), (15, .iadd), (16, .putfield 51), (19, .iconst 0), (20, .istore_n 2), (21, .iconst 0), (22, .istore 4), (24, .iload 4), (26, .aload_n 0), (27, .getfield 44), (30, .if_icmp .ge 70), (33, .aload_n 0), (34, .getfield 29), (37, .iload 4), (39, .invokevirtual 65), (42, .aload_n 0), (43, .iload 4), (45, .invokevirtual 77), (48, .iadd), (49, .aload_n 0), (50, .getfield 26), (53, .iload 4), (55, .invokevirtual 65), (58, .isub), (59, .istore 5), (61, .iload 5), (63, .ifCond .ge 10), (66, .iload_n 2), (67, .iconst 1), (68, .iload 4), (70, .ishl), (71, .ior), (72, .istore_n 2), (73, .aload_n 0), (74, .getfield 29), (77, .iload 4), (79, .iconst 0), (80, .iload 5), (82, .sipush 9999), (85, .invokestatic 112), (88, .invokestatic 86), (91, .invokevirtual 98), (94, .iinc 4 1), (97, .goto (-73)), (100, .iinc 3 1), (103, .goto (-99)), (106, .iload_n 2), (107, .ireturn)]
def mX3_passDays : aM := (yX3_passDays, prog_5_method_39_code, tX3_passDays, 6, (some .int), flX3, ksX3)
theorem okX3_passDays : aOK mX3_passDays := ⟨by decide +kernel, flokX3, ksokX3, by decide⟩
theorem caX3_passDays : aCal mX3_passDays 1 := ⟨aBW_at 478 (by decide +kernel) (by decide +kernel), iniX3, ⟨by decide +kernel, by decide +kernel⟩, by decide +kernel, by decide +kernel, by decide⟩
def yX3_netLoans : MethodName := ⟨RX3, "netLoans", "()V"⟩
def tX3_netLoans : List (Nat × Instr) := [(0, .iconst 0), (1, .istore_n 1), (2, .iload_n 1), (3, .aload_n 0), (4, .getfield 44), (7, .if_icmp .ge 52), (10, .iconst 0), (11, .istore_n 2), (12, .iconst 0), (13, .istore_n 3), (14, .iload_n 3), (15, .aload_n 0), (16, .getfield 44), (19, .if_icmp .ge 25), (22, .iload_n 2), (23, .aload_n 0), (24, .iload_n 1), (25, .iload_n 3), (26, .invokevirtual 80), (29, .aload_n 0), (30, .iload_n 3), (31, .iload_n 1), (32, .invokevirtual 80), (35, .isub), (36, .iadd), (37, .istore_n 2), (38, .iinc 3 1), (41, .goto (-27)), (44, .aload_n 0), (45, .getfield 35), (48, .iload_n 1), (49, .iload_n 2), (50, .invokevirtual 98), (53, .iinc 1 1), (56, .goto (-54)), (59, .return_)]
def mX3_netLoans : aM := (yX3_netLoans, prog_5_method_40_code, tX3_netLoans, 4, none, flX3, ksX3)
theorem okX3_netLoans : aOK mX3_netLoans := ⟨by decide +kernel, flokX3, ksokX3, by decide⟩
theorem caX3_netLoans : aCal mX3_netLoans 0 := ⟨aBW_at 418 (by decide +kernel) (by decide +kernel), iniX3, ⟨by decide +kernel, by decide +kernel⟩, by decide +kernel, by decide +kernel, by decide⟩
def yX3_weigh : MethodName := ⟨RX3, "weigh", "()V"⟩
def tX3_weigh : List (Nat × Instr) := [(0, .aload_n 0), (1, .iconst 0), (2, .putfield 54), (5, .iconst 0), (6, .istore_n 1), (7, .iload_n 1), (8, .aload_n 0), (9, .getfield 44), (12, .if_icmp .ge 34), (15, .aload_n 0), (16, .iload_n 1), (17, .invokevirtual 115), (20, .istore_n 2), (21, .aload_n 0), (22, .getfield 38), (25, .iload_n 1), (26, .iload_n 2), (27, .invokevirtual 98), (30, .aload_n 0), (31, .dup), (32, .getfield 54), (35, .iload_n 2), (36, .iadd), (37, .putfield 54), (40, .iinc 1 1), (43, .goto (-36)), (46, .aload_n 0), (47, .invokevirtual 95), (50, .return_)]
def mX3_weigh : aM := (yX3_weigh, prog_5_method_41_code, tX3_weigh, 3, none, flX3, ksX3)
theorem okX3_weigh : aOK mX3_weigh := ⟨by decide +kernel, flokX3, ksokX3, by decide⟩
theorem caX3_weigh : aCal mX3_weigh 0 := ⟨aBW_at 427 (by decide +kernel) (by decide +kernel), iniX3, ⟨by decide +kernel, by decide +kernel⟩, by decide +kernel, by decide +kernel, by decide⟩
def yX3_weightNow : MethodName := ⟨RX3, "weightNow", "(I)I"⟩
def tX3_weightNow : List (Nat × Instr) := [(0, .iconst 0), (1, .istore_n 2), (2, .bipush 10), (4, .istore_n 3), (5, .iconst 0), (6, .istore 4), (8, .iload 4), (10, .aload_n 0), (11, .getfield 44), (14, .if_icmp .ge 49), (17, .iload 4), (19, .iload_n 1), (20, .if_icmp .eq 37), (23, .aload_n 0), (24, .getfield 23), (27, .iload_n 1), (28, .invokevirtual 65), (31, .aload_n 0), (32, .getfield 23), (35, .iload 4), (37, .invokevirtual 65), (40, .invokestatic 69), (43, .istore 5), (45, .iload_n 2), (46, .iload 5), (48, .iadd), (49, .istore_n 2), (50, .iload_n 3), (51, .iload 5), (53, .invokestatic 112), (56, .istore_n 3), (57, .iinc 4 1), (60, .goto (-52)), (63, .iconst 1), (64, .iload_n 2), (65, .invokestatic 86), (68, .istore 4), (70, .iload 4), (72, .aload_n 0), (73, .getfield 20), (76, .iload_n 1), (77, .invokevirtual 65), (80, .iadd), (81, .istore 5), (83, .iconst 1), (84, .iload 4), (86, .iconst 2), (87, .idiv), (88, .invokestatic 86), (91, .istore 6), (93, .aload_n 0), (94, .getfield 14), (97, .iload_n 1), (98, .invokevirtual 65), (101, .tableswitch 77 1 5 #[35, 38, 43, 46, 61]), (136, .iload 5), (138, .ireturn), (139, .iconst 2), (140, .iload 4), (142, .imul), (143, .ireturn), (144, .iload 6), (146, .ireturn), (147, .iload_n 3), (148, .iconst 3), (149, .if_icmp .ge 8), (152, .iload 5), (154, .goto 7), (157, .iload 5), (159, .iconst 5), (160, .iadd), (161, .ireturn), (162, .iconst 1), (163, .iload 6), (165, .aload_n 0), (166, .getfield 20), (169, .iload_n 1), (170, .invokevirtual 65), (173, .isub), (174, .invokestatic 86), (177, .ireturn), (178, .iload 4), (180, .ireturn)]
def mX3_weightNow : aM := (yX3_weightNow, prog_5_method_42_code, tX3_weightNow, 7, (some .int), flX3, ksX3)
theorem okX3_weightNow : aOK mX3_weightNow := ⟨by decide +kernel, flokX3, ksokX3, by decide⟩
theorem caX3_weightNow : aCal mX3_weightNow 1 := ⟨aBW_at 431 (by decide +kernel) (by decide +kernel), iniX3, ⟨by decide +kernel, by decide +kernel⟩, by decide +kernel, by decide +kernel, by decide⟩
def yX3_shareOut : MethodName := ⟨RX3, "shareOut", "()V"⟩
def tX3_shareOut : List (Nat × Instr) := [(0, .aload_n 0), (1, .getfield 48), (4, .istore_n 1), (5, .iconst 0), (6, .istore_n 2), (7, .iload_n 2), (8, .aload_n 0), (9, .getfield 44), (12, .if_icmp .ge 52), (15, .aload_n 0), (16, .getfield 54), (19, .ifCond .le 24), (22, .aload_n 0), (23, .getfield 48), (26, .aload_n 0), (27, .getfield 38), (30, .iload_n 2), (31, .invokevirtual 65), (34, .imul), (35, .aload_n 0), (36, .getfield 54), (39, .idiv), (40, .goto 4), (43, .iconst 0), (44, .istore_n 3), (45, .aload_n 0), (46, .getfield 41), (49, .iload_n 2), (50, .iload_n 3), (51, .invokevirtual 98), (54, .iload_n 1), (55, .iload_n 3), (56, .isub), (57, .istore_n 1), (58, .iinc 2 1), (61, .goto (-54)), (64, .iconst 0), (65, .istore_n 2), (66, .iload_n 2), (67, .aload_n 0), (68, .getfield 44), (71, .if_icmp .ge 32), (74, .iload_n 2), (75, .iload_n 1), (76, .if_icmp .ge 27), (79, .aload_n 0), (80, .getfield 41), (83, .iload_n 2), (84, .aload_n 0), (85, .getfield 41), (88, .iload_n 2), (89, .invokevirtual 65), (92, .iconst 1), (93, .iadd), (94, .invokevirtual 98), (97, .iinc 2 1), (100, .goto (-34)), (103, .return_)]
def mX3_shareOut : aM := (yX3_shareOut, prog_5_method_43_code, tX3_shareOut, 4, none, flX3, ksX3)
theorem okX3_shareOut : aOK mX3_shareOut := ⟨by decide +kernel, flokX3, ksokX3, by decide⟩
theorem caX3_shareOut : aCal mX3_shareOut 0 := ⟨aBW_at 445 (by decide +kernel) (by decide +kernel), iniX3, ⟨by decide +kernel, by decide +kernel⟩, by decide +kernel, by decide +kernel, by decide⟩
def yX4_init : MethodName := ⟨RX4, "<init>", "(I)V"⟩
def tX4_init : List (Nat × Instr) := [(0, .aload_n 0), (1, .invokespecial 1), (4, .aload_n 0), (5, .iload_n 1), (6, .iconst 0), (7, .invokestatic 7), (10, .newarray .int), (12, .putfield 13), (15, .return_)]
def mX4_init : aM := (yX4_init, prog_6_method_1_code, tX4_init, 2, none, flX4, ksX4)
theorem okX4_init : aOK mX4_init := ⟨by decide +kernel, flokX4, ksokX4, by decide⟩
theorem caX4_init : aCal mX4_init 1 := ⟨aBW_at 103 (by decide +kernel) (by decide +kernel), iniX4, ⟨by decide +kernel, by decide +kernel⟩, by decide +kernel, by decide +kernel, by decide⟩
def yX4_at : MethodName := ⟨RX4, "at", "(I)I"⟩
def tX4_at : List (Nat × Instr) := [(0, .iload_n 1), (1, .ifCond .lt 21), (4, .iload_n 1), (5, .aload_n 0), (6, .getfield 13), (9, .arraylength), (10, .if_icmp .ge 12), (13, .aload_n 0), (14, .getfield 13), (17, .iload_n 1), (18, .iaload), (19, .goto 4), (22, .iconst 0), (23, .ireturn)]
def mX4_at : aM := (yX4_at, prog_6_method_2_code, tX4_at, 2, (some .int), flX4, ksX4)
theorem okX4_at : aOK mX4_at := ⟨by decide +kernel, flokX4, ksokX4, by decide⟩
theorem caX4_at : aCal mX4_at 1 := ⟨aBW_at 283 (by decide +kernel) (by decide +kernel), iniX4, ⟨by decide +kernel, by decide +kernel⟩, by decide +kernel, by decide +kernel, by decide⟩
def yX4_put : MethodName := ⟨RX4, "put", "(II)V"⟩
def tX4_put : List (Nat × Instr) := [(0, .iload_n 1), (1, .ifCond .lt 19), (4, .iload_n 1), (5, .aload_n 0), (6, .getfield 13), (9, .arraylength), (10, .if_icmp .ge 10), (13, .aload_n 0), (14, .getfield 13), (17, .iload_n 1), (18, .iload_n 2), (19, .iastore), (20, .return_)]
def mX4_put : aM := (yX4_put, prog_6_method_3_code, tX4_put, 3, none, flX4, ksX4)
theorem okX4_put : aOK mX4_put := ⟨by decide +kernel, flokX4, ksokX4, by decide⟩
theorem caX4_put : aCal mX4_put 2 := ⟨aBW_at 287 (by decide +kernel) (by decide +kernel), iniX4, ⟨by decide +kernel, by decide +kernel⟩, by decide +kernel, by decide +kernel, by decide⟩
def yX4_takeFrom : MethodName := ⟨RX4, "takeFrom", "(LAloneIsAQuantity$Numbers;)V"⟩
def tX4_takeFrom : List (Nat × Instr) := [(0, .iconst 0), (1, .istore_n 2), (2, .iload_n 2), (3, .aload_n 0), (4, .getfield 13), (7, .arraylength), (8, .if_icmp .ge 20), (11, .aload_n 0), (12, .getfield 13), (15, .iload_n 2), (16, .aload_n 1), (17, .iload_n 2), (18, .invokevirtual 19), (21, .iastore), (22, .iinc 2 1), (25, .goto (-23)), (28, .return_)]
def mX4_takeFrom : aM := (yX4_takeFrom, prog_6_method_4_code, tX4_takeFrom, 3, none, flX4, ksX4)
theorem okX4_takeFrom : aOK mX4_takeFrom := ⟨by decide +kernel, flokX4, ksokX4, by decide⟩
theorem caX4_takeFrom : aCal mX4_takeFrom 1 := ⟨aBW_at 308 (by decide +kernel) (by decide +kernel), iniX4, ⟨by decide +kernel, by decide +kernel⟩, by decide +kernel, by decide +kernel, by decide⟩
def yX5_init : MethodName := ⟨RX5, "<init>", "(LAloneIsAQuantity$Moor;LAloneIsAQuantity$Moor;)V"⟩
def tX5_init : List (Nat × Instr) := [(0, .aload_n 0), (1, .invokespecial 3), (4, .aload_n 0), (5, .new 9), (8, .dup), (9, .invokespecial 11), (12, .putfield 12), (15, .aload_n 0), (16, .new 18), (19, .dup), (20, .bipush 25), (22, .invokespecial 20), (25, .putfield 23), (28, .aload_n 0), (29, .new 18), (32, .dup), (33, .bipush 25), (35, .invokespecial 20), (38, .putfield 27), (41, .aload_n 0), (42, .aload_n 1), (43, .putfield 30), (46, .aload_n 0), (47, .aload_n 2), (48, .putfield 34), (51, .return_)]
def mX5_init : aM := (yX5_init, prog_7_method_1_code, tX5_init, 3, none, flX5, ksX5)
theorem okX5_init : aOK mX5_init := ⟨by decide +kernel, flokX5, ksokX5, by decide⟩
theorem caX5_init : aCal mX5_init 2 := ⟨aBW_at 170 (by decide +kernel) (by decide +kernel), iniX5, ⟨by decide +kernel, by decide +kernel⟩, by decide +kernel, by decide +kernel, by decide⟩
def yX5_shareIn : MethodName := ⟨RX5, "shareIn", "(II)I"⟩
def tX5_shareIn : List (Nat × Instr) := [(0, .aload_n 0), (1, .getfield 34), (4, .aload_n 0), (5, .getfield 30), (8, .invokevirtual 37), (11, .aload_n 0), (12, .getfield 34), (15, .iload_n 1), (16, .iload_n 2), (17, .invokevirtual 43), (20, .aload_n 0), (21, .getfield 34), (24, .iload_n 1), (25, .invokevirtual 47), (28, .ireturn)]
def mX5_shareIn : aM := (yX5_shareIn, prog_7_method_2_code, tX5_shareIn, 3, (some .int), flX5, ksX5)
theorem okX5_shareIn : aOK mX5_shareIn := ⟨by decide +kernel, flokX5, ksokX5, by decide⟩
theorem caX5_shareIn : aCal mX5_shareIn 2 := ⟨aBW_at 633 (by decide +kernel) (by decide +kernel), iniX5, ⟨by decide +kernel, by decide +kernel⟩, by decide +kernel, by decide +kernel, by decide⟩
def yX5_richestCell : MethodName := ⟨RX5, "richestCell", "(I)I"⟩
def tX5_richestCell : List (Nat × Instr) := [(0, .aload_n 0), (1, .getfield 34), (4, .aload_n 0), (5, .getfield 30), (8, .invokevirtual 37), (11, .iconst 0), (12, .istore_n 2), (13, .iconst (-1)), (14, .istore_n 3), (15, .iconst 0), (16, .istore 4), (18, .iload 4), (20, .bipush 36), (22, .if_icmp .ge 43), (25, .aload_n 0), (26, .getfield 34), (29, .iload_n 1), (30, .iload 4), (32, .invokevirtual 43), (35, .aload_n 0), (36, .getfield 34), (39, .iload_n 1), (40, .invokevirtual 47), (43, .iload_n 3), (44, .if_icmp .le 15), (47, .aload_n 0), (48, .getfield 34), (51, .iload_n 1), (52, .invokevirtual 47), (55, .istore_n 3), (56, .iload 4), (58, .istore_n 2), (59, .iinc 4 1), (62, .goto (-44)), (65, .iload_n 2), (66, .ireturn)]
def mX5_richestCell : aM := (yX5_richestCell, prog_7_method_3_code, tX5_richestCell, 5, (some .int), flX5, ksX5)
theorem okX5_richestCell : aOK mX5_richestCell := ⟨by decide +kernel, flokX5, ksokX5, by decide⟩
theorem caX5_richestCell : aCal mX5_richestCell 1 := ⟨aBW_at 626 (by decide +kernel) (by decide +kernel), iniX5, ⟨by decide +kernel, by decide +kernel⟩, by decide +kernel, by decide +kernel, by decide⟩
def yX5_kindCell : MethodName := ⟨RX5, "kindCell", "(I)I"⟩
def tX5_kindCell : List (Nat × Instr) := [(0, .aload_n 0), (1, .getfield 34), (4, .aload_n 0), (5, .getfield 30), (8, .invokevirtual 37), (11, .iconst 0), (12, .istore_n 2), (13, .iconst (-1)), (14, .istore_n 3), (15, .iconst 0), (16, .istore 4), (18, .iload 4), (20, .bipush 36), (22, .if_icmp .ge 38), (25, .aload_n 0), (26, .getfield 34), (29, .iload_n 1), (30, .iload 4), (32, .invokevirtual 43), (35, .aload_n 0), (36, .iload_n 1), (37, .invokevirtual 51), (40, .istore 5), (42, .iload 5), (44, .iload_n 3), (45, .if_icmp .le 9), (48, .iload 5), (50, .istore_n 3), (51, .iload 4), (53, .istore_n 2), (54, .iinc 4 1), (57, .goto (-39)), (60, .iload_n 2), (61, .ireturn)]
def mX5_kindCell : aM := (yX5_kindCell, prog_7_method_4_code, tX5_kindCell, 6, (some .int), flX5, ksX5)
theorem okX5_kindCell : aOK mX5_kindCell := ⟨by decide +kernel, flokX5, ksokX5, by decide⟩
theorem caX5_kindCell : aCal mX5_kindCell 1 := ⟨aBW_at 637 (by decide +kernel) (by decide +kernel), iniX5, ⟨by decide +kernel, by decide +kernel⟩, by decide +kernel, by decide +kernel, by decide⟩
def yX5_leastShareBeside : MethodName := ⟨RX5, "leastShareBeside", "(I)I"⟩
def tX5_leastShareBeside : List (Nat × Instr) := [(0, .sipush 999), (3, .istore_n 2), (4, .iconst 0), (5, .istore_n 3), (6, .iload_n 3), (7, .aload_n 0), (8, .getfield 34), (11, .invokevirtual 54), (14, .if_icmp .ge 27), (17, .iload_n 3), (18, .iload_n 1), (19, .if_icmp .eq 16), (22, .iload_n 2), (23, .aload_n 0), (24, .getfield 34), (27, .iload_n 3), (28, .invokevirtual 47), (31, .invokestatic 58), (34, .istore_n 2), (35, .iinc 3 1), (38, .goto (-32)), (41, .iload_n 2), (42, .ireturn)]
def mX5_leastShareBeside : aM := (yX5_leastShareBeside, prog_7_method_5_code, tX5_leastShareBeside, 4, (some .int), flX5, ksX5)
theorem okX5_leastShareBeside : aOK mX5_leastShareBeside := ⟨by decide +kernel, flokX5, ksokX5, by decide⟩
theorem caX5_leastShareBeside : aCal mX5_leastShareBeside 1 := ⟨aBW_at 641 (by decide +kernel) (by decide +kernel), iniX5, ⟨by decide +kernel, by decide +kernel⟩, by decide +kernel, by decide +kernel, by decide⟩
def yX5_takenBy : MethodName := ⟨RX5, "takenBy", "(II)I"⟩
def tX5_takenBy : List (Nat × Instr) := [(0, .aload_n 0), (1, .getfield 34), (4, .aload_n 0), (5, .getfield 30), (8, .invokevirtual 37), (11, .aload_n 0), (12, .getfield 34), (15, .iload_n 1), (16, .invokevirtual 64), (19, .aload_n 0), (20, .getfield 34), (23, .aload_n 0), (24, .iload_n 1), (25, .iload_n 2), (26, .invokevirtual 67), (29, .invokevirtual 47), (32, .aload_n 0), (33, .getfield 30), (36, .iload_n 2), (37, .invokevirtual 47), (40, .isub), (41, .ireturn)]
def mX5_takenBy : aM := (yX5_takenBy, prog_7_method_6_code, tX5_takenBy, 3, (some .int), flX5, ksX5)
theorem okX5_takenBy : aOK mX5_takenBy := ⟨by decide +kernel, flokX5, ksokX5, by decide⟩
theorem caX5_takenBy : aCal mX5_takenBy 2 := ⟨aBW_at 651 (by decide +kernel) (by decide +kernel), iniX5, ⟨by decide +kernel, by decide +kernel⟩, by decide +kernel, by decide +kernel, by decide⟩
def yX5_numberWithout : MethodName := ⟨RX5, "numberWithout", "(II)I"⟩
def tX5_numberWithout : List (Nat × Instr) := [(0, .iload_n 2), (1, .iload_n 1), (2, .if_icmp .le 9), (5, .iload_n 2), (6, .iconst 1), (7, .isub), (8, .goto 4), (11, .iload_n 2), (12, .ireturn)]
def mX5_numberWithout : aM := (yX5_numberWithout, prog_7_method_7_code, tX5_numberWithout, 3, (some .int), flX5, ksX5)
theorem okX5_numberWithout : aOK mX5_numberWithout := ⟨by decide +kernel, flokX5, ksokX5, by decide⟩
theorem caX5_numberWithout : aCal mX5_numberWithout 2 := ⟨aBW_at 659 (by decide +kernel) (by decide +kernel), iniX5, ⟨by decide +kernel, by decide +kernel⟩, by decide +kernel, by decide +kernel, by decide⟩
def yX5_worstFor : MethodName := ⟨RX5, "worstFo\x72", "(I)I"⟩
def tX5_worstFor : List (Nat × Instr) := [(0, .bipush (-9)), (2, .istore_n 2), (3, .iconst 0), (4, .istore_n 3), (5, .iconst 0), (6, .istore 4), (8, .iload 4), (10, .aload_n 0), (11, .getfield 30), (14, .invokevirtual 54), (17, .if_icmp .ge 42), (20, .iload 4), (22, .iload_n 1), (23, .if_icmp .eq 30), (26, .aload_n 0), (27, .iload 4), (29, .iload_n 1), (30, .invokevirtual 70), (33, .istore 5), (35, .iload_n 2), (36, .bipush (-9)), (38, .if_icmp .eq 9), (41, .iload 5), (43, .iload_n 3), (44, .if_icmp .le 9), (47, .iload 4), (49, .istore_n 2), (50, .iload 5), (52, .istore_n 3), (53, .iinc 4 1), (56, .goto (-48)), (59, .iload_n 2), (60, .ireturn)]
def mX5_worstFor : aM := (yX5_worstFor, prog_7_method_8_code, tX5_worstFor, 6, (some .int), flX5, ksX5)
theorem okX5_worstFor : aOK mX5_worstFor := ⟨by decide +kernel, flokX5, ksokX5, by decide⟩
theorem caX5_worstFor : aCal mX5_worstFor 1 := ⟨aBW_at 667 (by decide +kernel) (by decide +kernel), iniX5, ⟨by decide +kernel, by decide +kernel⟩, by decide +kernel, by decide +kernel, by decide⟩
def yX5_sharesBesideOneMoreIn : MethodName := ⟨RX5, "sharesBesideOneMoreIn", "(I)I"⟩
def tX5_sharesBesideOneMoreIn : List (Nat × Instr) := [(0, .aload_n 0), (1, .getfield 34), (4, .aload_n 0), (5, .getfield 30), (8, .invokevirtual 37), (11, .aload_n 0), (12, .getfield 34), (15, .iconst 0), (16, .iconst 0), (17, .iload_n 1), (18, .iconst 0), (19, .invokevirtual 73), (22, .aload_n 0), (23, .getfield 34), (26, .invokevirtual 77), (29, .aload_n 0), (30, .getfield 34), (33, .aload_n 0), (34, .getfield 30), (37, .invokevirtual 54), (40, .invokevirtual 47), (43, .isub), (44, .ireturn)]
def mX5_sharesBesideOneMoreIn : aM := (yX5_sharesBesideOneMoreIn, prog_7_method_9_code, tX5_sharesBesideOneMoreIn, 2, (some .int), flX5, ksX5)
theorem okX5_sharesBesideOneMoreIn : aOK mX5_sharesBesideOneMoreIn := ⟨by decide +kernel, flokX5, ksokX5, by decide⟩
theorem caX5_sharesBesideOneMoreIn : aCal mX5_sharesBesideOneMoreIn 1 := ⟨aBW_at 677 (by decide +kernel) (by decide +kernel), iniX5, ⟨by decide +kernel, by decide +kernel⟩, by decide +kernel, by decide +kernel, by decide⟩
def yX5_bestSurveyCell : MethodName := ⟨RX5, "bestSurveyCell", "()I"⟩
def tX5_bestSurveyCell : List (Nat × Instr) := [(0, .iconst 0), (1, .istore_n 1), (2, .iconst (-1)), (3, .istore_n 2), (4, .iconst 0), (5, .istore_n 3), (6, .iload_n 3), (7, .bipush 36), (9, .if_icmp .ge 27), (12, .aload_n 0), (13, .iload_n 3), (14, .invokevirtual 80), (17, .istore 4), (19, .iload 4), (21, .iload_n 2), (22, .if_icmp .le 8), (25, .iload 4), (27, .istore_n 2), (28, .iload_n 3), (29, .istore_n 1), (30, .iinc 3 1), (33, .goto (-27)), (36, .iload_n 1), (37, .ireturn)]
def mX5_bestSurveyCell : aM := (yX5_bestSurveyCell, prog_7_method_10_code, tX5_bestSurveyCell, 5, (some .int), flX5, ksX5)
theorem okX5_bestSurveyCell : aOK mX5_bestSurveyCell := ⟨by decide +kernel, flokX5, ksokX5, by decide⟩
theorem caX5_bestSurveyCell : aCal mX5_bestSurveyCell 0 := ⟨aBW_at 770 (by decide +kernel) (by decide +kernel), iniX5, ⟨by decide +kernel, by decide +kernel⟩, by decide +kernel, by decide +kernel, by decide⟩
def yX5_gainersWithout : MethodName := ⟨RX5, "gainersWithout", "(I)I"⟩
def tX5_gainersWithout : List (Nat × Instr) := [(0, .aload_n 0), (1, .getfield 34), (4, .aload_n 0), (5, .getfield 30), (8, .invokevirtual 37), (11, .aload_n 0), (12, .getfield 34), (15, .iload_n 1), (16, .invokevirtual 64), (19, .iconst 0), (20, .istore_n 2), (21, .iconst 0), (22, .istore_n 3), (23, .iload_n 3), (24, .aload_n 0), (25, .getfield 30), (28, .invokevirtual 54), (31, .if_icmp .ge 41), (34, .iload_n 3), (35, .iload_n 1), (36, .if_icmp .eq 30), (39, .aload_n 0), (40, .getfield 34), (43, .aload_n 0), (44, .iload_n 1), (45, .iload_n 3), (46, .invokevirtual 67), (49, .invokevirtual 83), (52, .aload_n 0), (53, .getfield 30), (56, .iload_n 3), (57, .invokevirtual 83), (60, .if_icmp .le 6), (63, .iinc 2 1), (66, .iinc 3 1), (69, .goto (-46)), (72, .iload_n 2), (73, .ireturn)]
def mX5_gainersWithout : aM := (yX5_gainersWithout, prog_7_method_11_code, tX5_gainersWithout, 4, (some .int), flX5, ksX5)
theorem okX5_gainersWithout : aOK mX5_gainersWithout := ⟨by decide +kernel, flokX5, ksokX5, by decide⟩
theorem caX5_gainersWithout : aCal mX5_gainersWithout 1 := ⟨aBW_at 695 (by decide +kernel) (by decide +kernel), iniX5, ⟨by decide +kernel, by decide +kernel⟩, by decide +kernel, by decide +kernel, by decide⟩
def yX5_bestLeaver : MethodName := ⟨RX5, "bestLeave\x72", "()I"⟩
def tX5_bestLeaver : List (Nat × Instr) := [(0, .bipush (-9)), (2, .istore_n 1), (3, .iconst (-1)), (4, .istore_n 2), (5, .iconst 0), (6, .istore_n 3), (7, .iload_n 3), (8, .aload_n 0), (9, .getfield 30), (12, .invokevirtual 54), (15, .if_icmp .ge 27), (18, .aload_n 0), (19, .iload_n 3), (20, .invokevirtual 86), (23, .istore 4), (25, .iload 4), (27, .iload_n 2), (28, .if_icmp .le 8), (31, .iload 4), (33, .istore_n 2), (34, .iload_n 3), (35, .istore_n 1), (36, .iinc 3 1), (39, .goto (-32)), (42, .iload_n 1), (43, .ireturn)]
def mX5_bestLeaver : aM := (yX5_bestLeaver, prog_7_method_12_code, tX5_bestLeaver, 5, (some .int), flX5, ksX5)
theorem okX5_bestLeaver : aOK mX5_bestLeaver := ⟨by decide +kernel, flokX5, ksokX5, by decide⟩
theorem caX5_bestLeaver : aCal mX5_bestLeaver 0 := ⟨aBW_at 691 (by decide +kernel) (by decide +kernel), iniX5, ⟨by decide +kernel, by decide +kernel⟩, by decide +kernel, by decide +kernel, by decide⟩
def yX5_quarrelCell : MethodName := ⟨RX5, "quarrelCell", "(III)I"⟩
def tX5_quarrelCell : List (Nat × Instr) := [(0, .bipush (-9)), (2, .istore 4), (4, .iconst 0), (5, .istore 5), (7, .iconst 0), (8, .istore 6), (10, .iload 6), (12, .bipush 36), (14, .if_icmp .ge 63), (17, .aload_n 0), (18, .getfield 30), (21, .iload_n 1), (22, .invokevirtual 89), (25, .iload 6), (27, .invokestatic 92), (30, .istore 7), (32, .iload 6), (34, .aload_n 0), (35, .getfield 30), (38, .iload_n 2), (39, .invokevirtual 89), (42, .invokestatic 92), (45, .iload_n 3), (46, .if_icmp .le 25), (49, .iload 4), (51, .bipush (-9)), (53, .if_icmp .eq 10), (56, .iload 7), (58, .iload 5), (60, .if_icmp .ge 11), (63, .iload 6), (65, .istore 4), (67, .iload 7), (69, .istore 5), (71, .iinc 6 1), (74, .goto (-64)), (77, .iload 4), (79, .ireturn)]
def mX5_quarrelCell : aM := (yX5_quarrelCell, prog_7_method_13_code, tX5_quarrelCell, 8, (some .int), flX5, ksX5)
theorem okX5_quarrelCell : aOK mX5_quarrelCell := ⟨by decide +kernel, flokX5, ksokX5, by decide⟩
theorem caX5_quarrelCell : aCal mX5_quarrelCell 3 := ⟨aBW_at 779 (by decide +kernel) (by decide +kernel), iniX5, ⟨by decide +kernel, by decide +kernel⟩, by decide +kernel, by decide +kernel, by decide⟩
def yX5_firstSteadyPair : MethodName := ⟨RX5, "firstSteadyPai\x72", "(II)I"⟩
def tX5_firstSteadyPair : List (Nat × Instr) := [(0, .aload_n 0), (1, .iload_n 1), (2, .iload_n 2), (3, .invokevirtual 95), (6, .iconst 0), (7, .istore_n 3), (8, .iload_n 3), (9, .iconst 5), (10, .if_icmp .ge 42), (13, .iconst 0), (14, .istore 4), (16, .iload 4), (18, .iconst 5), (19, .if_icmp .ge 27), (22, .aload_n 0), (23, .iload_n 3), (24, .iload 4), (26, .invokevirtual 98), (29, .ifCond .eq 11), (32, .bipush 10), (34, .iload_n 3), (35, .imul), (36, .iload 4), (38, .iadd), (39, .ireturn), (40, .iinc 4 1), (43, .goto (-27)), (46, .iinc 3 1), (49, .goto (-41)), (52, .bipush (-9)), (54, .ireturn)]
def mX5_firstSteadyPair : aM := (yX5_firstSteadyPair, prog_7_method_14_code, tX5_firstSteadyPair, 5, (some .int), flX5, ksX5)
theorem okX5_firstSteadyPair : aOK mX5_firstSteadyPair := ⟨by decide +kernel, flokX5, ksokX5, by decide⟩
theorem caX5_firstSteadyPair : aCal mX5_firstSteadyPair 2 := ⟨aBW_at 789 (by decide +kernel) (by decide +kernel), iniX5, ⟨by decide +kernel, by decide +kernel⟩, by decide +kernel, by decide +kernel, by decide⟩
def yX5_weighChoices : MethodName := ⟨RX5, "weighChoices", "(II)V"⟩
def tX5_weighChoices : List (Nat × Instr) := [(0, .aload_n 0), (1, .getfield 34), (4, .aload_n 0), (5, .getfield 30), (8, .invokevirtual 37), (11, .iconst 0), (12, .istore_n 3), (13, .iload_n 3), (14, .iconst 5), (15, .if_icmp .ge 109), (18, .aload_n 0), (19, .getfield 34), (22, .iload_n 1), (23, .aload_n 0), (24, .aload_n 0), (25, .getfield 30), (28, .iload_n 1), (29, .invokevirtual 89), (32, .iload_n 3), (33, .invokevirtual 102), (36, .invokevirtual 43), (39, .iconst 0), (40, .istore 4), (42, .iload 4), (44, .iconst 5), (45, .if_icmp .ge 73), (48, .aload_n 0), (49, .getfield 34), (52, .iload_n 2), (53, .aload_n 0), (54, .aload_n 0), (55, .getfield 30), (58, .iload_n 2), (59, .invokevirtual 89), (62, .iload 4), (64, .invokevirtual 102), (67, .invokevirtual 43), (70, .aload_n 0), (71, .getfield 23), (74, .iload_n 3), (75, .iconst 5), (76, .imul), (77, .iload 4), (79, .iadd), (80, .aload_n 0), (81, .getfield 34), (84, .iload_n 1), (85, .invokevirtual 47), (88, .invokevirtual 105), (91, .aload_n 0), (92, .getfield 27), (95, .iload_n 3), (96, .iconst 5), (97, .imul), (98, .iload 4), (100, .iadd), (101, .aload_n 0), (102, .getfield 34), (105, .iload_n 2), (106, .invokevirtual 47), (109, .invokevirtual 105), (112, .iinc 4 1), (115, .goto (-73)), (118, .iinc 3 1), (121, .goto (-108)), (124, .return_)]
def mX5_weighChoices : aM := (yX5_weighChoices, prog_7_method_15_code, tX5_weighChoices, 5, none, flX5, ksX5)
theorem okX5_weighChoices : aOK mX5_weighChoices := ⟨by decide +kernel, flokX5, ksokX5, by decide⟩
theorem caX5_weighChoices : aCal mX5_weighChoices 2 := ⟨aBW_at 793 (by decide +kernel) (by decide +kernel), iniX5, ⟨by decide +kernel, by decide +kernel⟩, by decide +kernel, by decide +kernel, by decide⟩
def yX5_isSteady : MethodName := ⟨RX5, "isSteady", "(II)Z"⟩
def tX5_isSteady : List (Nat × Instr) := [(0, .iload_n 1), (1, .iconst 5), (2, .imul), (3, .iload_n 2), (4, .iadd), (5, .istore_n 3), (6, .iconst 0), (7, .istore 4), (9, .iload 4), (11, .iconst 5), (12, .if_icmp .ge 59), (15, .aload_n 0), (16, .getfield 23), (19, .iload 4), (21, .iconst 5), (22, .imul), (23, .iload_n 2), (24, .iadd), (25, .invokevirtual 108), (28, .aload_n 0), (29, .getfield 23), (32, .iload_n 3), (33, .invokevirtual 108), (36, .if_icmp .gt 27), (39, .aload_n 0), (40, .getfield 27), (43, .iload_n 1), (44, .iconst 5), (45, .imul), (46, .iload 4), (48, .iadd), (49, .invokevirtual 108), (52, .aload_n 0), (53, .getfield 27), (56, .iload_n 3), (57, .invokevirtual 108), (60, .if_icmp .le 5), (63, .iconst 0), (64, .ireturn), (65, .iinc 4 1), (68, .goto (-59)), (71, .iconst 1), (72, .ireturn)]
def mX5_isSteady : aM := (yX5_isSteady, prog_7_method_16_code, tX5_isSteady, 5, (some .boolean), flX5, ksX5)
theorem okX5_isSteady : aOK mX5_isSteady := ⟨by decide +kernel, flokX5, ksokX5, by decide⟩
theorem caX5_isSteady : aCal mX5_isSteady 2 := ⟨aBW_at 802 (by decide +kernel) (by decide +kernel), iniX5, ⟨by decide +kernel, by decide +kernel⟩, by decide +kernel, by decide +kernel, by decide⟩
def yX5_chosenCell : MethodName := ⟨RX5, "chosenCell", "(II)I"⟩
def tX5_chosenCell : List (Nat × Instr) := [(0, .iload_n 2), (1, .tableswitch 95 1 4 #[31, 46, 61, 77]), (32, .iload_n 1), (33, .bipush 6), (35, .if_icmp .lt 10), (38, .iload_n 1), (39, .bipush 6), (41, .isub), (42, .goto 4), (45, .iload_n 1), (46, .ireturn), (47, .iload_n 1), (48, .bipush 6), (50, .irem), (51, .ifCond .le 9), (54, .iload_n 1), (55, .iconst 1), (56, .isub), (57, .goto 4), (60, .iload_n 1), (61, .ireturn), (62, .iload_n 1), (63, .bipush 6), (65, .irem), (66, .iconst 5), (67, .if_icmp .ge 9), (70, .iload_n 1), (71, .iconst 1), (72, .iadd), (73, .goto 4), (76, .iload_n 1), (77, .ireturn), (78, .iload_n 1), (79, .bipush 6), (81, .iadd), (82, .bipush 36), (84, .if_icmp .ge 10), (87, .iload_n 1), (88, .bipush 6), (90, .iadd), (91, .goto 4), (94, .iload_n 1), (95, .ireturn), (96, .iload_n 1), (97, .ireturn)]
def mX5_chosenCell : aM := (yX5_chosenCell, prog_7_method_17_code, tX5_chosenCell, 3, (some .int), flX5, ksX5)
theorem okX5_chosenCell : aOK mX5_chosenCell := ⟨by decide +kernel, flokX5, ksokX5, by decide⟩
theorem caX5_chosenCell : aCal mX5_chosenCell 2 := ⟨aBW_at 797 (by decide +kernel) (by decide +kernel), iniX5, ⟨by decide +kernel, by decide +kernel⟩, by decide +kernel, by decide +kernel, by decide⟩
def yX5_leastTotalForAll : MethodName := ⟨RX5, "leastTotalForAll", "()I"⟩
def tX5_leastTotalForAll : List (Nat × Instr) := [(0, .aload_n 0), (1, .getfield 34), (4, .aload_n 0), (5, .getfield 30), (8, .invokevirtual 37), (11, .iconst 0), (12, .istore_n 1), (13, .iload_n 1), (14, .sipush 999), (17, .if_icmp .gt 39), (20, .aload_n 0), (21, .getfield 34), (24, .iload_n 1), (25, .invokevirtual 111), (28, .aload_n 0), (29, .getfield 34), (32, .invokevirtual 114), (35, .invokestatic 117), (38, .aload_n 0), (39, .getfield 34), (42, .invokevirtual 54), (45, .if_icmp .ne 5), (48, .iload_n 1), (49, .ireturn), (50, .iinc 1 1), (53, .goto (-40)), (56, .bipush (-9)), (58, .ireturn)]
def mX5_leastTotalForAll : aM := (yX5_leastTotalForAll, prog_7_method_18_code, tX5_leastTotalForAll, 2, (some .int), flX5, ksX5)
theorem okX5_leastTotalForAll : aOK mX5_leastTotalForAll := ⟨by decide +kernel, flokX5, ksokX5, by decide⟩
theorem caX5_leastTotalForAll : aCal mX5_leastTotalForAll 0 := ⟨aBW_at 829 (by decide +kernel) (by decide +kernel), iniX5, ⟨by decide +kernel, by decide +kernel⟩, by decide +kernel, by decide +kernel, by decide⟩
def yX5_kindsTold : MethodName := ⟨RX5, "kindsTold", "(ILAloneIsAQuantity$Numbers;)I"⟩
def tX5_kindsTold : List (Nat × Instr) := [(0, .aload_n 0), (1, .getfield 34), (4, .aload_n 0), (5, .getfield 30), (8, .invokevirtual 37), (11, .iconst 0), (12, .istore_n 3), (13, .iconst 0), (14, .istore 4), (16, .iload 4), (18, .bipush 6), (20, .if_icmp .ge 34), (23, .aload_n 0), (24, .getfield 34), (27, .iload_n 1), (28, .iload 4), (30, .invokevirtual 122), (33, .aload_n 0), (34, .aload_n 2), (35, .invokevirtual 125), (38, .ifCond .eq 10), (41, .iload_n 3), (42, .iconst 1), (43, .iload 4), (45, .ishl), (46, .ior), (47, .istore_n 3), (48, .iinc 4 1), (51, .goto (-35)), (54, .iload_n 3), (55, .ireturn)]
def mX5_kindsTold : aM := (yX5_kindsTold, prog_7_method_19_code, tX5_kindsTold, 5, (some .int), flX5, ksX5)
theorem okX5_kindsTold : aOK mX5_kindsTold := ⟨by decide +kernel, flokX5, ksokX5, by decide⟩
theorem caX5_kindsTold : aCal mX5_kindsTold 2 := ⟨aBW_at 851 (by decide +kernel) (by decide +kernel), iniX5, ⟨by decide +kernel, by decide +kernel⟩, by decide +kernel, by decide +kernel, by decide⟩
def yX5_figuresTold : MethodName := ⟨RX5, "figuresTold", "(ILAloneIsAQuantity$Numbers;)I"⟩
def tX5_figuresTold : List (Nat × Instr) := [(0, .aload_n 0), (1, .getfield 34), (4, .aload_n 0), (5, .getfield 30), (8, .invokevirtual 37), (11, .iconst 0), (12, .istore_n 3), (13, .iconst 0), (14, .istore 4), (16, .iload 4), (18, .bipush 9), (20, .if_icmp .gt 34), (23, .aload_n 0), (24, .getfield 34), (27, .iload_n 1), (28, .iload 4), (30, .invokevirtual 129), (33, .aload_n 0), (34, .aload_n 2), (35, .invokevirtual 125), (38, .ifCond .eq 10), (41, .iload_n 3), (42, .iconst 1), (43, .iload 4), (45, .ishl), (46, .ior), (47, .istore_n 3), (48, .iinc 4 1), (51, .goto (-35)), (54, .iload_n 3), (55, .ireturn)]
def mX5_figuresTold : aM := (yX5_figuresTold, prog_7_method_20_code, tX5_figuresTold, 5, (some .int), flX5, ksX5)
theorem okX5_figuresTold : aOK mX5_figuresTold := ⟨by decide +kernel, flokX5, ksokX5, by decide⟩
theorem caX5_figuresTold : aCal mX5_figuresTold 2 := ⟨aBW_at 863 (by decide +kernel) (by decide +kernel), iniX5, ⟨by decide +kernel, by decide +kernel⟩, by decide +kernel, by decide +kernel, by decide⟩
def yX5_sharesAreTold : MethodName := ⟨RX5, "sharesAreTold", "(LAloneIsAQuantity$Numbers;)Z"⟩
def tX5_sharesAreTold : List (Nat × Instr) := [(0, .iconst 0), (1, .istore_n 2), (2, .iload_n 2), (3, .aload_n 0), (4, .getfield 34), (7, .invokevirtual 54), (10, .if_icmp .ge 32), (13, .aload_n 0), (14, .getfield 34), (17, .iload_n 2), (18, .invokevirtual 47), (21, .bipush 99), (23, .invokestatic 58), (26, .aload_n 1), (27, .iload_n 2), (28, .invokevirtual 108), (31, .if_icmp .eq 5), (34, .iconst 0), (35, .ireturn), (36, .iinc 2 1), (39, .goto (-37)), (42, .iconst 1), (43, .ireturn)]
def mX5_sharesAreTold : aM := (yX5_sharesAreTold, prog_7_method_21_code, tX5_sharesAreTold, 3, (some .boolean), flX5, ksX5)
theorem okX5_sharesAreTold : aOK mX5_sharesAreTold := ⟨by decide +kernel, flokX5, ksokX5, by decide⟩
theorem caX5_sharesAreTold : aCal mX5_sharesAreTold 1 := ⟨aBW_at 859 (by decide +kernel) (by decide +kernel), iniX5, ⟨by decide +kernel, by decide +kernel⟩, by decide +kernel, by decide +kernel, by decide⟩
def yX5_firstSharesByLot : MethodName := ⟨RX5, "firstSharesByLot", "(II)I"⟩
def tX5_firstSharesByLot : List (Nat × Instr) := [(0, .aload_n 0), (1, .getfield 34), (4, .aload_n 0), (5, .getfield 30), (8, .invokevirtual 37), (11, .aload_n 0), (12, .getfield 12), (15, .iload_n 2), (16, .invokevirtual 132), (19, .iconst 0), (20, .istore_n 3), (21, .iconst 0), (22, .istore 4), (24, .iload 4), (26, .iload_n 1), (27, .if_icmp .ge 24), (30, .aload_n 0), (31, .invokevirtual 135), (34, .iload_n 3), (35, .aload_n 0), (36, .getfield 34), (39, .iconst 0), (40, .invokevirtual 47), (43, .iadd), (44, .istore_n 3), (45, .iinc 4 1), (48, .goto (-24)), (51, .iload_n 3), (52, .ireturn)]
def mX5_firstSharesByLot : aM := (yX5_firstSharesByLot, prog_7_method_22_code, tX5_firstSharesByLot, 5, (some .int), flX5, ksX5)
theorem okX5_firstSharesByLot : aOK mX5_firstSharesByLot := ⟨by decide +kernel, flokX5, ksokX5, by decide⟩
theorem caX5_firstSharesByLot : aCal mX5_firstSharesByLot 2 := ⟨aBW_at 893 (by decide +kernel) (by decide +kernel), iniX5, ⟨by decide +kernel, by decide +kernel⟩, by decide +kernel, by decide +kernel, by decide⟩
def yX5_contentByLot : MethodName := ⟨RX5, "contentByLot", "(II)I"⟩
def tX5_contentByLot : List (Nat × Instr) := [(0, .aload_n 0), (1, .getfield 34), (4, .aload_n 0), (5, .getfield 30), (8, .invokevirtual 37), (11, .aload_n 0), (12, .getfield 12), (15, .iload_n 2), (16, .invokevirtual 132), (19, .iconst 0), (20, .istore_n 3), (21, .iconst 0), (22, .istore 4), (24, .iload 4), (26, .iload_n 1), (27, .if_icmp .ge 26), (30, .aload_n 0), (31, .invokevirtual 135), (34, .iload_n 3), (35, .aload_n 0), (36, .getfield 34), (39, .invokevirtual 114), (42, .invokestatic 117), (45, .iadd), (46, .istore_n 3), (47, .iinc 4 1), (50, .goto (-26)), (53, .iload_n 3), (54, .ireturn)]
def mX5_contentByLot : aM := (yX5_contentByLot, prog_7_method_23_code, tX5_contentByLot, 5, (some .int), flX5, ksX5)
theorem okX5_contentByLot : aOK mX5_contentByLot := ⟨by decide +kernel, flokX5, ksokX5, by decide⟩
theorem caX5_contentByLot : aCal mX5_contentByLot 2 := ⟨aBW_at 912 (by decide +kernel) (by decide +kernel), iniX5, ⟨by decide +kernel, by decide +kernel⟩, by decide +kernel, by decide +kernel, by decide⟩
def yX5_placeAllByLot : MethodName := ⟨RX5, "placeAllByLot", "()V"⟩
def tX5_placeAllByLot : List (Nat × Instr) := [(0, .iconst 0), (1, .istore_n 1), (2, .iload_n 1), (3, .aload_n 0), (4, .getfield 34), (7, .invokevirtual 54), (10, .if_icmp .ge 26), (13, .aload_n 0), (14, .getfield 34), (17, .iload_n 1), (18, .aload_n 0), (19, .getfield 12), (22, .bipush 36), (24, .invokevirtual 138), (27, .invokevirtual 43), (30, .iinc 1 1), (33, .goto (-31)), (36, .return_)]
def mX5_placeAllByLot : aM := (yX5_placeAllByLot, prog_7_method_24_code, tX5_placeAllByLot, 2, none, flX5, ksX5)
theorem okX5_placeAllByLot : aOK mX5_placeAllByLot := ⟨by decide +kernel, flokX5, ksokX5, by decide⟩
theorem caX5_placeAllByLot : aCal mX5_placeAllByLot 0 := ⟨aBW_at 901 (by decide +kernel) (by decide +kernel), iniX5, ⟨by decide +kernel, by decide +kernel⟩, by decide +kernel, by decide +kernel, by decide⟩
def yX6_init : MethodName := ⟨RX6, "<init>", "()V"⟩
def tX6_init : List (Nat × Instr) := [(0, .aload_n 0), (1, .invokespecial 3), (4, .aload_n 0), (5, .new 9), (8, .dup), (9, .bipush 96), (11, .invokespecial 11), (14, .putfield 14), (17, .aload_n 0), (18, .iconst 0), (19, .putfield 20), (22, .return_)]
def mX6_init : aM := (yX6_init, prog_8_method_1_code, tX6_init, 1, none, flX6, ksX6)
theorem okX6_init : aOK mX6_init := ⟨by decide +kernel, flokX6, ksokX6, by decide⟩
theorem caX6_init : aCal mX6_init 0 := ⟨aBW_at 225 (by decide +kernel) (by decide +kernel), iniX6, ⟨by decide +kernel, by decide +kernel⟩, by decide +kernel, by decide +kernel, by decide⟩
def yX6_length : MethodName := ⟨RX6, "length", "()I"⟩
def tX6_length : List (Nat × Instr) := [(0, .aload_n 0), (1, .getfield 20), (4, .ireturn)]
def mX6_length : aM := (yX6_length, prog_8_method_2_code, tX6_length, 1, (some .int), flX6, ksX6)
theorem okX6_length : aOK mX6_length := ⟨by decide +kernel, flokX6, ksokX6, by decide⟩
theorem caX6_length : aCal mX6_length 0 := ⟨aBW_at 944 (by decide +kernel) (by decide +kernel), iniX6, ⟨by decide +kernel, by decide +kernel⟩, by decide +kernel, by decide +kernel, by decide⟩
def yX6_hasRoom : MethodName := ⟨RX6, "hasRoom", "()Z"⟩
def tX6_hasRoom : List (Nat × Instr) := [(0, .aload_n 0), (1, .getfield 20), (4, .bipush 96), (6, .if_icmp .ge 7), (9, .iconst 1), (10, .goto 4), (13, .iconst 0), (14, .ireturn)]
def mX6_hasRoom : aM := (yX6_hasRoom, prog_8_method_3_code, tX6_hasRoom, 1, (some .boolean), flX6, ksX6)
theorem okX6_hasRoom : aOK mX6_hasRoom := ⟨by decide +kernel, flokX6, ksokX6, by decide⟩
theorem caX6_hasRoom : aCal mX6_hasRoom 0 := ⟨aBW_at 291 (by decide +kernel) (by decide +kernel), iniX6, ⟨by decide +kernel, by decide +kernel⟩, by decide +kernel, by decide +kernel, by decide⟩
def yX6_append : MethodName := ⟨RX6, "append", "(I)I"⟩
def tX6_append : List (Nat × Instr) := [(0, .aload_n 0), (1, .getfield 14), (4, .aload_n 0), (5, .getfield 20), (8, .iload_n 1), (9, .invokevirtual 24), (12, .aload_n 0), (13, .dup), (14, .getfield 20), (17, .iconst 1), (18, .iadd), (19, .putfield 20), (22, .aload_n 0), (23, .getfield 20), (26, .ireturn)]
def mX6_append : aM := (yX6_append, prog_8_method_4_code, tX6_append, 2, (some .int), flX6, ksX6)
theorem okX6_append : aOK mX6_append := ⟨by decide +kernel, flokX6, ksokX6, by decide⟩
theorem caX6_append : aCal mX6_append 1 := ⟨aBW_at 295 (by decide +kernel) (by decide +kernel), iniX6, ⟨by decide +kernel, by decide +kernel⟩, by decide +kernel, by decide +kernel, by decide⟩
def yX6_drop : MethodName := ⟨RX6, "drop", "()V"⟩
def tX6_drop : List (Nat × Instr) := [(0, .aload_n 0), (1, .iconst 0), (2, .putfield 20), (5, .return_)]
def mX6_drop : aM := (yX6_drop, prog_8_method_5_code, tX6_drop, 1, none, flX6, ksX6)
theorem okX6_drop : aOK mX6_drop := ⟨by decide +kernel, flokX6, ksokX6, by decide⟩
theorem caX6_drop : aCal mX6_drop 0 := ⟨aBW_at 487 (by decide +kernel) (by decide +kernel), iniX6, ⟨by decide +kernel, by decide +kernel⟩, by decide +kernel, by decide +kernel, by decide⟩
def yX6_tellTo : MethodName := ⟨RX6, "tellTo", "(LAloneIsAQuantity$Moor;)I"⟩
def tX6_tellTo : List (Nat × Instr) := [(0, .aload_n 0), (1, .invokevirtual 28), (4, .istore_n 2), (5, .iload_n 2), (6, .ifCond .lt 9), (9, .sipush (-1000)), (12, .iload_n 2), (13, .isub), (14, .ireturn), (15, .iconst 0), (16, .istore_n 3), (17, .iconst 0), (18, .istore 4), (20, .iload 4), (22, .aload_n 0), (23, .getfield 20), (26, .if_icmp .ge 44), (29, .aload_n 0), (30, .aload_n 1), (31, .iload 4), (33, .invokevirtual 32), (36, .ifCond .ne 10), (39, .sipush (-2000)), (42, .iload 4), (44, .isub), (45, .ireturn), (46, .iinc 3 1), (49, .iload 4), (51, .iconst 1), (52, .aload_n 0), (53, .iload 4), (55, .invokevirtual 36), (58, .invokevirtual 40), (61, .invokestatic 44), (64, .iadd), (65, .istore 4), (67, .goto (-47)), (70, .iload_n 3), (71, .ireturn)]
def mX6_tellTo : aM := (yX6_tellTo, prog_8_method_6_code, tX6_tellTo, 5, (some .int), flX6, ksX6)
theorem okX6_tellTo : aOK mX6_tellTo := ⟨by decide +kernel, flokX6, ksokX6, by decide⟩
theorem caX6_tellTo : aCal mX6_tellTo 1 := ⟨aBW_at 313 (by decide +kernel) (by decide +kernel), iniX6, ⟨by decide +kernel, by decide +kernel⟩, by decide +kernel, by decide +kernel, by decide⟩
def yX6_firstWrongLetter : MethodName := ⟨RX6, "firstWrongLette\x72", "()I"⟩
def tX6_firstWrongLetter : List (Nat × Instr) := [(0, .iconst 0), (1, .istore_n 1), (2, .iload_n 1), (3, .aload_n 0), (4, .getfield 20), (7, .if_icmp .ge 80), (10, .aload_n 0), (11, .iload_n 1), (12, .invokevirtual 36), (15, .astore_n 2), (16, .aload_n 2), (17, .invokevirtual 50), (20, .ifCond .eq 5), (23, .iload_n 1), (24, .ireturn), (25, .iconst 1), (26, .istore_n 3), (27, .iload_n 3), (28, .aload_n 2), (29, .invokevirtual 40), (32, .if_icmp .ge 45), (35, .iload_n 1), (36, .iload_n 3), (37, .iadd), (38, .aload_n 0), (39, .getfield 20), (42, .if_icmp .ge 25), (45, .aload_n 0), (46, .aload_n 0), (47, .getfield 14), (50, .iload_n 1), (51, .iload_n 3), (52, .iadd), (53, .invokevirtual 54), (56, .aload_n 2), (57, .iload_n 3), (58, .invokevirtual 58), (61, .invokevirtual 62), (64, .ifCond .ne 7), (67, .iload_n 1), (68, .iload_n 3), (69, .iadd), (70, .ireturn), (71, .iinc 3 1), (74, .goto (-47)), (77, .iload_n 1), (78, .aload_n 2), (79, .invokevirtual 40), (82, .iadd), (83, .istore_n 1), (84, .goto (-82)), (87, .aload_n 0), (88, .getfield 20), (91, .ifCond .ne 7), (94, .iconst 0), (95, .goto 4), (98, .iconst (-1)), (99, .ireturn)]
def mX6_firstWrongLetter : aM := (yX6_firstWrongLetter, prog_8_method_7_code, tX6_firstWrongLetter, 4, (some .int), flX6, ksX6)
theorem okX6_firstWrongLetter : aOK mX6_firstWrongLetter := ⟨by decide +kernel, flokX6, ksokX6, by decide⟩
theorem caX6_firstWrongLetter : aCal mX6_firstWrongLetter 0 := ⟨aBW_at 317 (by decide +kernel) (by decide +kernel), iniX6, ⟨by decide +kernel, by decide +kernel⟩, by decide +kernel, by decide +kernel, by decide⟩
def yX6_formAt : MethodName := ⟨RX6, "formAt", "(I)Ljava/lang/String;"⟩
def tX6_formAt : List (Nat × Instr) := [(0, .aload_n 0), (1, .getfield 14), (4, .iload_n 1), (5, .invokevirtual 54), (8, .tableswitch 110 97 115 #[95, 110, 110, 107, 110, 110, 110, 110, 110, 110, 101, 98, 110, 110, 110, 92, 110, 110, 104]), (100, .ldc 66), (102, .areturn), (103, .ldc 68), (105, .areturn), (106, .ldc 70), (108, .areturn), (109, .ldc 72), (111, .areturn), (112, .ldc 74), (114, .areturn), (115, .ldc 76), (117, .areturn), (118, .ldc 78), (120, .areturn)]
def mX6_formAt : aM := (yX6_formAt, prog_8_method_8_code, tX6_formAt, 2, (some (.object "java/lang/String")), flX6, ksX6)
theorem okX6_formAt : aOK mX6_formAt := ⟨by decide +kernel, flokX6, ksokX6, by decide⟩
theorem caX6_formAt : aCal mX6_formAt 1 := ⟨aBW_at 321 (by decide +kernel) (by decide +kernel), iniX6, ⟨by decide +kernel, by decide +kernel⟩, by decide +kernel, by decide +kernel, by decide⟩
def yX6_fits : MethodName := ⟨RX6, "fits", "(II)Z"⟩
def tX6_fits : List (Nat × Instr) := [(0, .iload_n 2), (1, .lookupswitch 59 #[(48, 27), (63, 45)]), (28, .iload_n 1), (29, .bipush 48), (31, .if_icmp .lt 13), (34, .iload_n 1), (35, .bipush 57), (37, .if_icmp .gt 7), (40, .iconst 1), (41, .goto 4), (44, .iconst 0), (45, .ireturn), (46, .aload_n 0), (47, .iload_n 1), (48, .invokevirtual 80), (51, .ifCond .lt 7), (54, .iconst 1), (55, .goto 4), (58, .iconst 0), (59, .ireturn), (60, .iload_n 1), (61, .iload_n 2), (62, .if_icmp .ne 7), (65, .iconst 1), (66, .goto 4), (69, .iconst 0), (70, .ireturn)]
def mX6_fits : aM := (yX6_fits, prog_8_method_9_code, tX6_fits, 3, (some .boolean), flX6, ksX6)
theorem okX6_fits : aOK mX6_fits := ⟨by decide +kernel, flokX6, ksokX6, by decide⟩
theorem caX6_fits : aCal mX6_fits 2 := ⟨aBW_at 385 (by decide +kernel) (by decide +kernel), iniX6, ⟨by decide +kernel, by decide +kernel⟩, by decide +kernel, by decide +kernel, by decide⟩
def yX6_kindOf : MethodName := ⟨RX6, "kindOf", "(I)I"⟩
def tX6_kindOf : List (Nat × Instr) := [(0, .iconst 0), (1, .istore_n 2), (2, .iload_n 2), (3, .ldc 83), (5, .invokevirtual 40), (8, .if_icmp .ge 21), (11, .ldc 83), (13, .iload_n 2), (14, .invokevirtual 58), (17, .iload_n 1), (18, .if_icmp .ne 5), (21, .iload_n 2), (22, .ireturn), (23, .iinc 2 1), (26, .goto (-24)), (29, .iconst (-1)), (30, .ireturn)]
def mX6_kindOf : aM := (yX6_kindOf, prog_8_method_10_code, tX6_kindOf, 3, (some .int), flX6, ksX6)
theorem okX6_kindOf : aOK mX6_kindOf := ⟨by decide +kernel, flokX6, ksokX6, by decide⟩
theorem caX6_kindOf : aCal mX6_kindOf 1 := ⟨aBW_at 389 (by decide +kernel) (by decide +kernel), iniX6, ⟨by decide +kernel, by decide +kernel⟩, by decide +kernel, by decide +kernel, by decide⟩
def yX6_number : MethodName := ⟨RX6, "numbe\x72", "(II)I"⟩
def tX6_number : List (Nat × Instr) := [(0, .iconst 0), (1, .istore_n 3), (2, .iconst 0), (3, .istore 4), (5, .iload 4), (7, .iload_n 2), (8, .if_icmp .ge 29), (11, .bipush 10), (13, .iload_n 3), (14, .imul), (15, .aload_n 0), (16, .getfield 14), (19, .iload_n 1), (20, .iload 4), (22, .iadd), (23, .invokevirtual 54), (26, .iadd), (27, .bipush 48), (29, .isub), (30, .istore_n 3), (31, .iinc 4 1), (34, .goto (-29)), (37, .iload_n 3), (38, .ireturn)]
def mX6_number : aM := (yX6_number, prog_8_method_11_code, tX6_number, 5, (some .int), flX6, ksX6)
theorem okX6_number : aOK mX6_number := ⟨by decide +kernel, flokX6, ksokX6, by decide⟩
theorem caX6_number : aCal mX6_number 2 := ⟨aBW_at 398 (by decide +kernel) (by decide +kernel), iniX6, ⟨by decide +kernel, by decide +kernel⟩, by decide +kernel, by decide +kernel, by decide⟩
def yX6_sayTo : MethodName := ⟨RX6, "sayTo", "(LAloneIsAQuantity$Moor;I)Z"⟩
def tX6_sayTo : List (Nat × Instr) := [(0, .aload_n 0), (1, .iload_n 2), (2, .iconst 1), (3, .iadd), (4, .iconst 1), (5, .invokevirtual 85), (8, .istore_n 3), (9, .aload_n 0), (10, .getfield 14), (13, .iload_n 2), (14, .invokevirtual 54), (17, .lookupswitch 237 #[(97, 122), (107, 198), (108, 159), (112, 51), (115, 223)]), (68, .aload_n 0), (69, .aload_n 0), (70, .getfield 14), (73, .iload_n 2), (74, .iconst 1), (75, .iadd), (76, .invokevirtual 54), (79, .invokevirtual 80), (82, .istore 4), (84, .aload_n 0), (85, .iload_n 2), (86, .iconst 3), (87, .iadd), (88, .iconst 2), (89, .invokevirtual 85), (92, .istore 5), (94, .iload 5), (96, .invokestatic 88), (99, .ifCond .eq 12), (102, .aload_n 1), (103, .invokevirtual 92), (106, .bipush 6), (108, .if_icmp .lt 5), (111, .iconst 0), (112, .ireturn), (113, .aload_n 1), (114, .iload 4), (116, .aload_n 0), (117, .iload_n 2), (118, .iconst 2), (119, .iadd), (120, .iconst 1), (121, .invokevirtual 85), (124, .iload 5), (126, .aload_n 0), (127, .iload_n 2), (128, .iconst 5), (129, .iadd), (130, .iconst 2), (131, .invokevirtual 85), (134, .invokevirtual 97), (137, .iconst 1), (138, .ireturn), (139, .aload_n 0), (140, .iload_n 2), (141, .iconst 2), (142, .iadd), (143, .iconst 2), (144, .invokevirtual 85), (147, .istore 6), (149, .aload_n 1), (150, .iload_n 3), (151, .invokevirtual 101), (154, .ifCond .eq 11), (157, .iload 6), (159, .invokestatic 88), (162, .ifCond .ne 5), (165, .iconst 0), (166, .ireturn), (167, .aload_n 1), (168, .iload_n 3), (169, .iload 6), (171, .invokevirtual 104), (174, .iconst 1), (175, .ireturn), (176, .aload_n 0), (177, .iload_n 2), (178, .iconst 2), (179, .iadd), (180, .iconst 1), (181, .invokevirtual 85), (184, .istore 7), (186, .aload_n 1), (187, .iload_n 3), (188, .iload 7), (190, .invokevirtual 107), (193, .ifCond .ne 5), (196, .iconst 0), (197, .ireturn), (198, .aload_n 1), (199, .iload_n 3), (200, .iload 7), (202, .aload_n 0), (203, .iload_n 2), (204, .iconst 3), (205, .iadd), (206, .iconst 2), (207, .invokevirtual 85), (210, .invokevirtual 110), (213, .iconst 1), (214, .ireturn), (215, .aload_n 1), (216, .iload_n 3), (217, .invokevirtual 101), (220, .ifCond .ne 5), (223, .iconst 0), (224, .ireturn), (225, .aload_n 1), (226, .iload_n 3), (227, .aload_n 0), (228, .iload_n 2), (229, .iconst 2), (230, .iadd), (231, .iconst 4), (232, .invokevirtual 85), (235, .invokevirtual 114), (238, .iconst 1), (239, .ireturn), (240, .aload_n 1), (241, .aload_n 0), (242, .iload_n 2), (243, .iconst 1), (244, .iadd), (245, .iconst 3), (246, .invokevirtual 85), (249, .invokevirtual 117), (252, .iconst 1), (253, .ireturn), (254, .aload_n 0), (255, .iload_n 2), (256, .iconst 1), (257, .iadd), (258, .iconst 2), (259, .invokevirtual 85), (262, .istore 8), (264, .iload 8), (266, .iconst 1), (267, .if_icmp .lt 23), (270, .iload 8), (272, .bipush 60), (274, .if_icmp .gt 16), (277, .aload_n 1), (278, .invokevirtual 120), (281, .iload 8), (283, .iadd), (284, .sipush 999), (287, .if_icmp .le 5), (290, .iconst 0), (291, .ireturn), (292, .aload_n 1), (293, .iload 8), (295, .invokevirtual 123), (298, .pop), (299, .iconst 1), (300, .ireturn)]
def mX6_sayTo : aM := (yX6_sayTo, prog_8_method_12_code, tX6_sayTo, 9, (some .boolean), flX6, ksX6)
theorem okX6_sayTo : aOK mX6_sayTo := ⟨by decide +kernel, flokX6, ksokX6, by decide⟩
theorem caX6_sayTo : aCal mX6_sayTo 2 := ⟨aBW_at 394 (by decide +kernel) (by decide +kernel), iniX6, ⟨by decide +kernel, by decide +kernel⟩, by decide +kernel, by decide +kernel, by decide⟩
def yX7_init : MethodName := ⟨RX7, "<init>", "()V"⟩
def tX7_init : List (Nat × Instr) := [(0, .aload_n 0), (1, .invokespecial 3), (4, .aload_n 0), (5, .new 9), (8, .dup), (9, .invokespecial 11), (12, .putfield 12), (15, .aload_n 0), (16, .new 9), (19, .dup), (20, .invokespecial 11), (23, .putfield 16), (26, .aload_n 0), (27, .new 19), (30, .dup), (31, .aload_n 0), (32, .getfield 12), (35, .aload_n 0), (36, .getfield 16), (39, .invokespecial 21), (42, .putfield 24), (45, .aload_n 0), (46, .new 28), (49, .dup), (50, .aload_n 0), (51, .getfield 12), (54, .aload_n 0), (55, .getfield 16), (58, .invokespecial 30), (61, .putfield 31), (64, .aload_n 0), (65, .new 35), (68, .dup), (69, .aload_n 0), (70, .getfield 12), (73, .invokespecial 37), (76, .putfield 40), (79, .aload_n 0), (80, .new 44), (83, .dup), (84, .invokespecial 46), (87, .putfield 47), (90, .aload_n 0), (91, .new 9), (94, .dup), (95, .invokespecial 11), (98, .putfield 51), (101, .aload_n 0), (102, .iconst 0), (103, .putfield 54), (106, .aload_n 0), (107, .new 58), (110, .dup), (111, .bipush 12), (113, .invokespecial 60), (116, .putfield 63), (119, .aload_n 0), (120, .iconst 0), (121, .putfield 67), (124, .aload_n 0), (125, .new 58), (128, .dup), (129, .bipush 7), (131, .invokespecial 60), (134, .putfield 71), (137, .return_)]
def mX7_init : aM := (yX7_init, prog_1_method_1_code, tX7_init, 1, none, flX7, ksX7)
theorem okX7_init : aOK mX7_init := ⟨by decide +kernel, flokX7, ksokX7, by decide⟩
theorem caX7_init : aCal mX7_init 0 := ⟨aBW_at 89 (by decide +kernel) (by decide +kernel), iniX7, ⟨by decide +kernel, by decide +kernel⟩, by decide +kernel, by decide +kernel, by decide⟩
def yX7_letter : MethodName := ⟨RX7, "lette\x72", "(I)I"⟩
def tX7_letter : List (Nat × Instr) := [(0, .iload_n 1), (1, .ifCond .ge 10), (4, .aload_n 0), (5, .bipush (-4)), (7, .invokevirtual 74), (10, .ireturn), (11, .iload_n 1), (12, .sipush 255), (15, .if_icmp .gt 13), (18, .aload_n 0), (19, .getfield 47), (22, .invokevirtual 78), (25, .ifCond .ne 10), (28, .aload_n 0), (29, .bipush (-6)), (31, .invokevirtual 74), (34, .ireturn), (35, .aload_n 0), (36, .getfield 47), (39, .iload_n 1), (40, .invokevirtual 82), (43, .ireturn)]
def mX7_letter : aM := (yX7_letter, prog_1_method_2_code, tX7_letter, 2, (some .int), flX7, ksX7)
theorem okX7_letter : aOK mX7_letter := ⟨by decide +kernel, flokX7, ksokX7, by decide⟩
theorem caX7_letter : aCal mX7_letter 1 := ⟨aBW_at 275 (by decide +kernel) (by decide +kernel), iniX7, ⟨by decide +kernel, by decide +kernel⟩, by decide +kernel, by decide +kernel, by decide⟩
def yX7_moor : MethodName := ⟨RX7, "moo\x72", "()I"⟩
def tX7_moor : List (Nat × Instr) := [(0, .aload_n 0), (1, .getfield 16), (4, .aload_n 0), (5, .getfield 12), (8, .invokevirtual 85), (11, .aload_n 0), (12, .getfield 47), (15, .aload_n 0), (16, .getfield 16), (19, .invokevirtual 88), (22, .istore_n 1), (23, .iload_n 1), (24, .ifCond .lt 14), (27, .aload_n 0), (28, .getfield 12), (31, .aload_n 0), (32, .getfield 16), (35, .invokevirtual 85), (38, .aload_n 0), (39, .getfield 47), (42, .invokevirtual 92), (45, .iload_n 1), (46, .ireturn)]
def mX7_moor : aM := (yX7_moor, prog_1_method_3_code, tX7_moor, 2, (some .int), flX7, ksX7)
theorem okX7_moor : aOK mX7_moor := ⟨by decide +kernel, flokX7, ksokX7, by decide⟩
theorem caX7_moor : aCal mX7_moor 0 := ⟨aBW_at 300 (by decide +kernel) (by decide +kernel), iniX7, ⟨by decide +kernel, by decide +kernel⟩, by decide +kernel, by decide +kernel, by decide⟩
def yX7_person : MethodName := ⟨RX7, "person", "(II)I"⟩
def tX7_person : List (Nat × Instr) := [(0, .aload_n 0), (1, .getfield 12), (4, .iload_n 1), (5, .invokevirtual 95), (8, .ifCond .ne 9), (11, .aload_n 0), (12, .iconst (-1)), (13, .invokevirtual 74), (16, .ireturn), (17, .iload_n 2), (18, .tableswitch 105 0 6 #[42, 51, 60, 69, 78, 87, 96]), (60, .aload_n 0), (61, .getfield 12), (64, .iload_n 1), (65, .invokevirtual 99), (68, .ireturn), (69, .aload_n 0), (70, .getfield 12), (73, .iload_n 1), (74, .invokevirtual 102), (77, .ireturn), (78, .aload_n 0), (79, .getfield 12), (82, .iload_n 1), (83, .invokevirtual 105), (86, .ireturn), (87, .aload_n 0), (88, .getfield 12), (91, .iload_n 1), (92, .invokevirtual 108), (95, .ireturn), (96, .aload_n 0), (97, .getfield 12), (100, .iload_n 1), (101, .invokevirtual 111), (104, .ireturn), (105, .aload_n 0), (106, .getfield 12), (109, .iload_n 1), (110, .invokevirtual 114), (113, .ireturn), (114, .aload_n 0), (115, .getfield 12), (118, .iload_n 1), (119, .invokevirtual 117), (122, .ireturn), (123, .aload_n 0), (124, .bipush (-2)), (126, .invokevirtual 74), (129, .ireturn)]
def mX7_person : aM := (yX7_person, prog_1_method_4_code, tX7_person, 3, (some .int), flX7, ksX7)
theorem okX7_person : aOK mX7_person := ⟨by decide +kernel, flokX7, ksokX7, by decide⟩
theorem caX7_person : aCal mX7_person 2 := ⟨aBW_at 492 (by decide +kernel) (by decide +kernel), iniX7, ⟨by decide +kernel, by decide +kernel⟩, by decide +kernel, by decide +kernel, by decide⟩
def yX7_owns : MethodName := ⟨RX7, "owns", "(I)I"⟩
def tX7_owns : List (Nat × Instr) := [(0, .aload_n 0), (1, .getfield 12), (4, .iload_n 1), (5, .invokevirtual 95), (8, .ifCond .ne 9), (11, .aload_n 0), (12, .iconst (-1)), (13, .invokevirtual 120), (16, .ireturn), (17, .aload_n 0), (18, .getfield 12), (21, .iload_n 1), (22, .invokevirtual 123), (25, .ireturn)]
def mX7_owns : aM := (yX7_owns, prog_1_method_5_code, tX7_owns, 2, (some .int), flX7, ksX7)
theorem okX7_owns : aOK mX7_owns := ⟨by decide +kernel, flokX7, ksokX7, by decide⟩
theorem caX7_owns : aCal mX7_owns 1 := ⟨aBW_at 525 (by decide +kernel) (by decide +kernel), iniX7, ⟨by decide +kernel, by decide +kernel⟩, by decide +kernel, by decide +kernel, by decide⟩
def yX7_loan : MethodName := ⟨RX7, "loan", "(II)I"⟩
def tX7_loan : List (Nat × Instr) := [(0, .aload_n 0), (1, .getfield 12), (4, .iload_n 1), (5, .iload_n 2), (6, .invokevirtual 126), (9, .ifCond .ne 9), (12, .aload_n 0), (13, .iconst (-1)), (14, .invokevirtual 74), (17, .ireturn), (18, .aload_n 0), (19, .getfield 12), (22, .iload_n 1), (23, .iload_n 2), (24, .invokevirtual 130), (27, .ireturn)]
def mX7_loan : aM := (yX7_loan, prog_1_method_6_code, tX7_loan, 3, (some .int), flX7, ksX7)
theorem okX7_loan : aOK mX7_loan := ⟨by decide +kernel, flokX7, ksokX7, by decide⟩
theorem caX7_loan : aCal mX7_loan 2 := ⟨aBW_at 535 (by decide +kernel) (by decide +kernel), iniX7, ⟨by decide +kernel, by decide +kernel⟩, by decide +kernel, by decide +kernel, by decide⟩
def yX7_go : MethodName := ⟨RX7, "go", "(II)I"⟩
def tX7_go : List (Nat × Instr) := [(0, .aload_n 0), (1, .getfield 12), (4, .iload_n 1), (5, .invokevirtual 95), (8, .ifCond .eq 10), (11, .iload_n 2), (12, .invokestatic 134), (15, .ifCond .ne 9), (18, .aload_n 0), (19, .iconst (-1)), (20, .invokevirtual 74), (23, .ireturn), (24, .aload_n 0), (25, .getfield 12), (28, .iload_n 1), (29, .invokevirtual 105), (32, .istore_n 3), (33, .aload_n 0), (34, .getfield 12), (37, .iload_n 1), (38, .iload_n 2), (39, .invokevirtual 137), (42, .iload_n 3), (43, .ireturn)]
def mX7_go : aM := (yX7_go, prog_1_method_7_code, tX7_go, 4, (some .int), flX7, ksX7)
theorem okX7_go : aOK mX7_go := ⟨by decide +kernel, flokX7, ksokX7, by decide⟩
theorem caX7_go : aCal mX7_go 2 := ⟨aBW_at 541 (by decide +kernel) (by decide +kernel), iniX7, ⟨by decide +kernel, by decide +kernel⟩, by decide +kernel, by decide +kernel, by decide⟩
def yX7_lend : MethodName := ⟨RX7, "lend", "(III)I"⟩
def tX7_lend : List (Nat × Instr) := [(0, .aload_n 0), (1, .getfield 12), (4, .iload_n 1), (5, .iload_n 2), (6, .invokevirtual 126), (9, .ifCond .ne 9), (12, .aload_n 0), (13, .iconst (-1)), (14, .invokevirtual 74), (17, .ireturn), (18, .iload_n 3), (19, .ifCond .ge 10), (22, .aload_n 0), (23, .bipush (-4)), (25, .invokevirtual 74), (28, .ireturn), (29, .iload_n 3), (30, .bipush 99), (32, .if_icmp .le 10), (35, .aload_n 0), (36, .bipush (-6)), (38, .invokevirtual 74), (41, .ireturn), (42, .aload_n 0), (43, .getfield 12), (46, .iload_n 1), (47, .iload_n 2), (48, .invokevirtual 130), (51, .istore 4), (53, .aload_n 0), (54, .getfield 12), (57, .iload_n 1), (58, .iload_n 2), (59, .iload_n 3), (60, .invokevirtual 141), (63, .iload 4), (65, .ireturn)]
def mX7_lend : aM := (yX7_lend, prog_1_method_8_code, tX7_lend, 5, (some .int), flX7, ksX7)
theorem okX7_lend : aOK mX7_lend := ⟨by decide +kernel, flokX7, ksokX7, by decide⟩
theorem caX7_lend : aCal mX7_lend 3 := ⟨aBW_at 547 (by decide +kernel) (by decide +kernel), iniX7, ⟨by decide +kernel, by decide +kernel⟩, by decide +kernel, by decide +kernel, by decide⟩
def yX7_keep : MethodName := ⟨RX7, "keep", "(II)I"⟩
def tX7_keep : List (Nat × Instr) := [(0, .aload_n 0), (1, .getfield 12), (4, .iload_n 1), (5, .invokevirtual 95), (8, .ifCond .ne 9), (11, .aload_n 0), (12, .iconst (-1)), (13, .invokevirtual 74), (16, .ireturn), (17, .iload_n 2), (18, .ifCond .ge 10), (21, .aload_n 0), (22, .bipush (-4)), (24, .invokevirtual 74), (27, .ireturn), (28, .iload_n 2), (29, .sipush 9999), (32, .if_icmp .le 10), (35, .aload_n 0), (36, .bipush (-6)), (38, .invokevirtual 74), (41, .ireturn), (42, .aload_n 0), (43, .getfield 12), (46, .iload_n 1), (47, .invokevirtual 111), (50, .istore_n 3), (51, .aload_n 0), (52, .getfield 12), (55, .iload_n 1), (56, .iload_n 2), (57, .invokevirtual 145), (60, .iload_n 3), (61, .ireturn)]
def mX7_keep : aM := (yX7_keep, prog_1_method_9_code, tX7_keep, 4, (some .int), flX7, ksX7)
theorem okX7_keep : aOK mX7_keep := ⟨by decide +kernel, flokX7, ksokX7, by decide⟩
theorem caX7_keep : aCal mX7_keep 2 := ⟨aBW_at 552 (by decide +kernel) (by decide +kernel), iniX7, ⟨by decide +kernel, by decide +kernel⟩, by decide +kernel, by decide +kernel, by decide⟩
def yX7_need : MethodName := ⟨RX7, "need", "(II)I"⟩
def tX7_need : List (Nat × Instr) := [(0, .aload_n 0), (1, .getfield 12), (4, .iload_n 1), (5, .invokevirtual 95), (8, .ifCond .ne 9), (11, .aload_n 0), (12, .iconst (-1)), (13, .invokevirtual 74), (16, .ireturn), (17, .iload_n 2), (18, .ifCond .ge 10), (21, .aload_n 0), (22, .bipush (-4)), (24, .invokevirtual 74), (27, .ireturn), (28, .iload_n 2), (29, .bipush 99), (31, .if_icmp .le 10), (34, .aload_n 0), (35, .bipush (-6)), (37, .invokevirtual 74), (40, .ireturn), (41, .aload_n 0), (42, .getfield 12), (45, .iload_n 1), (46, .invokevirtual 108), (49, .istore_n 3), (50, .aload_n 0), (51, .getfield 12), (54, .iload_n 1), (55, .iload_n 2), (56, .invokevirtual 148), (59, .iload_n 3), (60, .ireturn)]
def mX7_need : aM := (yX7_need, prog_1_method_10_code, tX7_need, 4, (some .int), flX7, ksX7)
theorem okX7_need : aOK mX7_need := ⟨by decide +kernel, flokX7, ksokX7, by decide⟩
theorem caX7_need : aCal mX7_need 2 := ⟨aBW_at 557 (by decide +kernel) (by decide +kernel), iniX7, ⟨by decide +kernel, by decide +kernel⟩, by decide +kernel, by decide +kernel, by decide⟩
def yX7_sum : MethodName := ⟨RX7, "sum", "(I)I"⟩
def tX7_sum : List (Nat × Instr) := [(0, .iload_n 1), (1, .ifCond .ge 10), (4, .aload_n 0), (5, .bipush (-4)), (7, .invokevirtual 74), (10, .ireturn), (11, .iload_n 1), (12, .sipush 999), (15, .if_icmp .le 10), (18, .aload_n 0), (19, .bipush (-6)), (21, .invokevirtual 74), (24, .ireturn), (25, .aload_n 0), (26, .getfield 12), (29, .invokevirtual 151), (32, .istore_n 2), (33, .aload_n 0), (34, .getfield 12), (37, .iload_n 1), (38, .invokevirtual 155), (41, .iload_n 2), (42, .ireturn)]
def mX7_sum : aM := (yX7_sum, prog_1_method_11_code, tX7_sum, 3, (some .int), flX7, ksX7)
theorem okX7_sum : aOK mX7_sum := ⟨by decide +kernel, flokX7, ksokX7, by decide⟩
theorem caX7_sum : aCal mX7_sum 1 := ⟨aBW_at 565 (by decide +kernel) (by decide +kernel), iniX7, ⟨by decide +kernel, by decide +kernel⟩, by decide +kernel, by decide +kernel, by decide⟩
def yX7_days : MethodName := ⟨RX7, "days", "(I)I"⟩
def tX7_days : List (Nat × Instr) := [(0, .iload_n 1), (1, .iconst 1), (2, .if_icmp .ge 10), (5, .aload_n 0), (6, .bipush (-4)), (8, .invokevirtual 74), (11, .ireturn), (12, .iload_n 1), (13, .bipush 60), (15, .if_icmp .gt 18), (18, .aload_n 0), (19, .getfield 12), (22, .invokevirtual 158), (25, .iload_n 1), (26, .iadd), (27, .sipush 999), (30, .if_icmp .le 10), (33, .aload_n 0), (34, .bipush (-6)), (36, .invokevirtual 74), (39, .ireturn), (40, .aload_n 0), (41, .getfield 12), (44, .iload_n 1), (45, .invokevirtual 161), (48, .invokestatic 164), (51, .ireturn)]
def mX7_days : aM := (yX7_days, prog_1_method_12_code, tX7_days, 2, (some .int), flX7, ksX7)
theorem okX7_days : aOK mX7_days := ⟨by decide +kernel, flokX7, ksokX7, by decide⟩
theorem caX7_days : aCal mX7_days 1 := ⟨aBW_at 574 (by decide +kernel) (by decide +kernel), iniX7, ⟨by decide +kernel, by decide +kernel⟩, by decide +kernel, by decide +kernel, by decide⟩
def yX7_behind : MethodName := ⟨RX7, "behind", "(III)I"⟩
def tX7_behind : List (Nat × Instr) := [(0, .aload_n 0), (1, .getfield 12), (4, .iload_n 1), (5, .invokevirtual 95), (8, .ifCond .ne 9), (11, .aload_n 0), (12, .iconst (-1)), (13, .invokevirtual 74), (16, .ireturn), (17, .iload_n 2), (18, .ifCond .ge 10), (21, .aload_n 0), (22, .bipush (-4)), (24, .invokevirtual 74), (27, .ireturn), (28, .iload_n 2), (29, .bipush 99), (31, .if_icmp .le 10), (34, .aload_n 0), (35, .bipush (-6)), (37, .invokevirtual 74), (40, .ireturn), (41, .iload_n 3), (42, .ifCond .lt 8), (45, .iload_n 3), (46, .iconst 1), (47, .if_icmp .le 10), (50, .aload_n 0), (51, .bipush (-2)), (53, .invokevirtual 74), (56, .ireturn), (57, .iload_n 3), (58, .ifCond .ne 15), (61, .aload_n 0), (62, .getfield 24), (65, .iload_n 1), (66, .iload_n 2), (67, .invokevirtual 169), (70, .goto 12), (73, .aload_n 0), (74, .getfield 24), (77, .iload_n 1), (78, .iload_n 2), (79, .invokevirtual 172), (82, .ireturn)]
def mX7_behind : aM := (yX7_behind, prog_1_method_13_code, tX7_behind, 4, (some .int), flX7, ksX7)
theorem okX7_behind : aOK mX7_behind := ⟨by decide +kernel, flokX7, ksokX7, by decide⟩
theorem caX7_behind : aCal mX7_behind 3 := ⟨aBW_at 586 (by decide +kernel) (by decide +kernel), iniX7, ⟨by decide +kernel, by decide +kernel⟩, by decide +kernel, by decide +kernel, by decide⟩
def yX7_firstShort : MethodName := ⟨RX7, "firstShort", "(I)I"⟩
def tX7_firstShort : List (Nat × Instr) := [(0, .iload_n 1), (1, .ifCond .lt 8), (4, .iload_n 1), (5, .iconst 1), (6, .if_icmp .le 10), (9, .aload_n 0), (10, .bipush (-2)), (12, .invokevirtual 74), (15, .ireturn), (16, .iload_n 1), (17, .ifCond .ne 13), (20, .aload_n 0), (21, .getfield 24), (24, .invokevirtual 175), (27, .goto 10), (30, .aload_n 0), (31, .getfield 24), (34, .invokevirtual 178), (37, .ireturn)]
def mX7_firstShort : aM := (yX7_firstShort, prog_1_method_14_code, tX7_firstShort, 2, (some .int), flX7, ksX7)
theorem okX7_firstShort : aOK mX7_firstShort := ⟨by decide +kernel, flokX7, ksokX7, by decide⟩
theorem caX7_firstShort : aCal mX7_firstShort 1 := ⟨aBW_at 601 (by decide +kernel) (by decide +kernel), iniX7, ⟨by decide +kernel, by decide +kernel⟩, by decide +kernel, by decide +kernel, by decide⟩
def yX7_lasts : MethodName := ⟨RX7, "lasts", "(I)I"⟩
def tX7_lasts : List (Nat × Instr) := [(0, .aload_n 0), (1, .getfield 12), (4, .iload_n 1), (5, .invokevirtual 95), (8, .ifCond .ne 9), (11, .aload_n 0), (12, .iconst (-1)), (13, .invokevirtual 74), (16, .ireturn), (17, .aload_n 0), (18, .getfield 24), (21, .iload_n 1), (22, .invokevirtual 181), (25, .ireturn)]
def mX7_lasts : aM := (yX7_lasts, prog_1_method_15_code, tX7_lasts, 2, (some .int), flX7, ksX7)
theorem okX7_lasts : aOK mX7_lasts := ⟨by decide +kernel, flokX7, ksokX7, by decide⟩
theorem caX7_lasts : aCal mX7_lasts 1 := ⟨aBW_at 614 (by decide +kernel) (by decide +kernel), iniX7, ⟨by decide +kernel, by decide +kernel⟩, by decide +kernel, by decide +kernel, by decide⟩
def yX7_bestCell : MethodName := ⟨RX7, "bestCell", "(II)I"⟩
def tX7_bestCell : List (Nat × Instr) := [(0, .aload_n 0), (1, .getfield 12), (4, .iload_n 1), (5, .invokevirtual 95), (8, .ifCond .ne 9), (11, .aload_n 0), (12, .iconst (-1)), (13, .invokevirtual 74), (16, .ireturn), (17, .iload_n 2), (18, .tableswitch 61 0 2 #[26, 35, 52]), (44, .aload_n 0), (45, .getfield 31), (48, .iload_n 1), (49, .invokevirtual 184), (52, .ireturn), (53, .aload_n 0), (54, .getfield 31), (57, .iload_n 1), (58, .aload_n 0), (59, .getfield 31), (62, .iload_n 1), (63, .invokevirtual 184), (66, .invokevirtual 187), (69, .ireturn), (70, .aload_n 0), (71, .getfield 31), (74, .iload_n 1), (75, .invokevirtual 190), (78, .ireturn), (79, .aload_n 0), (80, .bipush (-2)), (82, .invokevirtual 74), (85, .ireturn)]
def mX7_bestCell : aM := (yX7_bestCell, prog_1_method_16_code, tX7_bestCell, 3, (some .int), flX7, ksX7)
theorem okX7_bestCell : aOK mX7_bestCell := ⟨by decide +kernel, flokX7, ksokX7, by decide⟩
theorem caX7_bestCell : aCal mX7_bestCell 2 := ⟨aBW_at 622 (by decide +kernel) (by decide +kernel), iniX7, ⟨by decide +kernel, by decide +kernel⟩, by decide +kernel, by decide +kernel, by decide⟩
def yX7_takes : MethodName := ⟨RX7, "takes", "(II)I"⟩
def tX7_takes : List (Nat × Instr) := [(0, .aload_n 0), (1, .getfield 12), (4, .iload_n 1), (5, .iload_n 2), (6, .invokevirtual 126), (9, .ifCond .ne 9), (12, .aload_n 0), (13, .iconst (-1)), (14, .invokevirtual 120), (17, .ireturn), (18, .aload_n 0), (19, .getfield 31), (22, .iload_n 1), (23, .iload_n 2), (24, .invokevirtual 193), (27, .ireturn)]
def mX7_takes : aM := (yX7_takes, prog_1_method_17_code, tX7_takes, 3, (some .int), flX7, ksX7)
theorem okX7_takes : aOK mX7_takes := ⟨by decide +kernel, flokX7, ksokX7, by decide⟩
theorem caX7_takes : aCal mX7_takes 2 := ⟨aBW_at 647 (by decide +kernel) (by decide +kernel), iniX7, ⟨by decide +kernel, by decide +kernel⟩, by decide +kernel, by decide +kernel, by decide⟩
def yX7_worst : MethodName := ⟨RX7, "worst", "(I)I"⟩
def tX7_worst : List (Nat × Instr) := [(0, .aload_n 0), (1, .getfield 12), (4, .iload_n 1), (5, .invokevirtual 95), (8, .ifCond .ne 9), (11, .aload_n 0), (12, .iconst (-1)), (13, .invokevirtual 74), (16, .ireturn), (17, .aload_n 0), (18, .getfield 31), (21, .iload_n 1), (22, .invokevirtual 196), (25, .ireturn)]
def mX7_worst : aM := (yX7_worst, prog_1_method_18_code, tX7_worst, 2, (some .int), flX7, ksX7)
theorem okX7_worst : aOK mX7_worst := ⟨by decide +kernel, flokX7, ksokX7, by decide⟩
theorem caX7_worst : aCal mX7_worst 1 := ⟨aBW_at 663 (by decide +kernel) (by decide +kernel), iniX7, ⟨by decide +kernel, by decide +kernel⟩, by decide +kernel, by decide +kernel, by decide⟩
def yX7_newcomer : MethodName := ⟨RX7, "newcome\x72", "(II)I"⟩
def tX7_newcomer : List (Nat × Instr) := [(0, .iload_n 1), (1, .invokestatic 134), (4, .ifCond .ne 9), (7, .aload_n 0), (8, .iconst (-1)), (9, .invokevirtual 120), (12, .ireturn), (13, .iload_n 2), (14, .ifCond .lt 8), (17, .iload_n 2), (18, .iconst 1), (19, .if_icmp .le 10), (22, .aload_n 0), (23, .bipush (-2)), (25, .invokevirtual 120), (28, .ireturn), (29, .aload_n 0), (30, .getfield 12), (33, .invokevirtual 199), (36, .bipush 6), (38, .if_icmp .lt 6), (41, .bipush (-9)), (43, .ireturn), (44, .aload_n 0), (45, .getfield 31), (48, .iload_n 1), (49, .invokevirtual 202), (52, .istore_n 3), (53, .iload_n 2), (54, .ifCond .ne 15), (57, .aload_n 0), (58, .getfield 12), (61, .invokevirtual 151), (64, .iload_n 3), (65, .isub), (66, .goto 12), (69, .aload_n 0), (70, .getfield 12), (73, .invokevirtual 205), (76, .iload_n 3), (77, .isub), (78, .ireturn)]
def mX7_newcomer : aM := (yX7_newcomer, prog_1_method_19_code, tX7_newcomer, 4, (some .int), flX7, ksX7)
theorem okX7_newcomer : aOK mX7_newcomer := ⟨by decide +kernel, flokX7, ksokX7, by decide⟩
theorem caX7_newcomer : aCal mX7_newcomer 2 := ⟨aBW_at 672 (by decide +kernel) (by decide +kernel), iniX7, ⟨by decide +kernel, by decide +kernel⟩, by decide +kernel, by decide +kernel, by decide⟩
def yX7_leaves : MethodName := ⟨RX7, "leaves", "(I)I"⟩
def tX7_leaves : List (Nat × Instr) := [(0, .iload_n 1), (1, .ifCond .lt 8), (4, .iload_n 1), (5, .iconst 1), (6, .if_icmp .le 10), (9, .aload_n 0), (10, .bipush (-2)), (12, .invokevirtual 74), (15, .ireturn), (16, .aload_n 0), (17, .getfield 31), (20, .invokevirtual 208), (23, .istore_n 2), (24, .iload_n 1), (25, .ifCond .eq 9), (28, .iload_n 2), (29, .bipush (-9)), (31, .if_icmp .ne 7), (34, .iload_n 2), (35, .goto 11), (38, .aload_n 0), (39, .getfield 31), (42, .iload_n 2), (43, .invokevirtual 211), (46, .ireturn)]
def mX7_leaves : aM := (yX7_leaves, prog_1_method_20_code, tX7_leaves, 3, (some .int), flX7, ksX7)
theorem okX7_leaves : aOK mX7_leaves := ⟨by decide +kernel, flokX7, ksokX7, by decide⟩
theorem caX7_leaves : aCal mX7_leaves 1 := ⟨aBW_at 687 (by decide +kernel) (by decide +kernel), iniX7, ⟨by decide +kernel, by decide +kernel⟩, by decide +kernel, by decide +kernel, by decide⟩
def yX7_enough : MethodName := ⟨RX7, "enough", "()I"⟩
def tX7_enough : List (Nat × Instr) := [(0, .aload_n 0), (1, .getfield 12), (4, .invokevirtual 214), (7, .ireturn)]
def mX7_enough : aM := (yX7_enough, prog_1_method_21_code, tX7_enough, 1, (some .int), flX7, ksX7)
theorem okX7_enough : aOK mX7_enough := ⟨by decide +kernel, flokX7, ksokX7, by decide⟩
theorem caX7_enough : aCal mX7_enough 0 := ⟨aBW_at 701 (by decide +kernel) (by decide +kernel), iniX7, ⟨by decide +kernel, by decide +kernel⟩, by decide +kernel, by decide +kernel, by decide⟩
def yX7_help : MethodName := ⟨RX7, "help", "(II)I"⟩
def tX7_help : List (Nat × Instr) := [(0, .iload_n 1), (1, .ifCond .ge 10), (4, .aload_n 0), (5, .bipush (-4)), (7, .invokevirtual 74), (10, .ireturn), (11, .iload_n 1), (12, .bipush 10), (14, .if_icmp .le 10), (17, .aload_n 0), (18, .bipush (-6)), (20, .invokevirtual 74), (23, .ireturn), (24, .iload_n 2), (25, .ifCond .lt 8), (28, .iload_n 2), (29, .iconst 1), (30, .if_icmp .le 10), (33, .aload_n 0), (34, .bipush (-2)), (36, .invokevirtual 74), (39, .ireturn), (40, .aload_n 0), (41, .getfield 40), (44, .iload_n 1), (45, .invokevirtual 217), (48, .istore_n 3), (49, .iload_n 2), (50, .ifCond .ne 5), (53, .iload_n 3), (54, .ireturn), (55, .iload_n 3), (56, .aload_n 0), (57, .getfield 40), (60, .invokevirtual 220), (63, .if_icmp .ne 7), (66, .iconst 1), (67, .goto 4), (70, .iconst 0), (71, .ireturn)]
def mX7_help : aM := (yX7_help, prog_1_method_22_code, tX7_help, 4, (some .int), flX7, ksX7)
theorem okX7_help : aOK mX7_help := ⟨by decide +kernel, flokX7, ksokX7, by decide⟩
theorem caX7_help : aCal mX7_help 2 := ⟨aBW_at 709 (by decide +kernel) (by decide +kernel), iniX7, ⟨by decide +kernel, by decide +kernel⟩, by decide +kernel, by decide +kernel, by decide⟩
def yX7_net : MethodName := ⟨RX7, "net", "(I)I"⟩
def tX7_net : List (Nat × Instr) := [(0, .aload_n 0), (1, .getfield 12), (4, .iload_n 1), (5, .invokevirtual 95), (8, .ifCond .ne 9), (11, .aload_n 0), (12, .iconst (-1)), (13, .invokevirtual 120), (16, .ireturn), (17, .aload_n 0), (18, .getfield 12), (21, .iload_n 1), (22, .invokevirtual 223), (25, .ireturn)]
def mX7_net : aM := (yX7_net, prog_1_method_23_code, tX7_net, 2, (some .int), flX7, ksX7)
theorem okX7_net : aOK mX7_net := ⟨by decide +kernel, flokX7, ksokX7, by decide⟩
theorem caX7_net : aCal mX7_net 1 := ⟨aBW_at 741 (by decide +kernel) (by decide +kernel), iniX7, ⟨by decide +kernel, by decide +kernel⟩, by decide +kernel, by decide +kernel, by decide⟩
def yX7_loans : MethodName := ⟨RX7, "loans", "(I)I"⟩
def tX7_loans : List (Nat × Instr) := [(0, .iload_n 1), (1, .ifCond .lt 8), (4, .iload_n 1), (5, .iconst 1), (6, .if_icmp .le 10), (9, .aload_n 0), (10, .bipush (-2)), (12, .invokevirtual 74), (15, .ireturn), (16, .iload_n 1), (17, .ifCond .ne 13), (20, .aload_n 0), (21, .getfield 12), (24, .invokevirtual 226), (27, .goto 10), (30, .aload_n 0), (31, .getfield 40), (34, .invokevirtual 229), (37, .ireturn)]
def mX7_loans : aM := (yX7_loans, prog_1_method_24_code, tX7_loans, 2, (some .int), flX7, ksX7)
theorem okX7_loans : aOK mX7_loans := ⟨by decide +kernel, flokX7, ksokX7, by decide⟩
theorem caX7_loans : aCal mX7_loans 1 := ⟨aBW_at 749 (by decide +kernel) (by decide +kernel), iniX7, ⟨by decide +kernel, by decide +kernel⟩, by decide +kernel, by decide +kernel, by decide⟩
def yX7_survey : MethodName := ⟨RX7, "survey", "(I)I"⟩
def tX7_survey : List (Nat × Instr) := [(0, .iload_n 1), (1, .invokestatic 134), (4, .ifCond .ne 9), (7, .aload_n 0), (8, .iconst (-1)), (9, .invokevirtual 74), (12, .ireturn), (13, .aload_n 0), (14, .getfield 31), (17, .iload_n 1), (18, .invokevirtual 202), (21, .ireturn)]
def mX7_survey : aM := (yX7_survey, prog_1_method_25_code, tX7_survey, 2, (some .int), flX7, ksX7)
theorem okX7_survey : aOK mX7_survey := ⟨by decide +kernel, flokX7, ksokX7, by decide⟩
theorem caX7_survey : aCal mX7_survey 1 := ⟨aBW_at 762 (by decide +kernel) (by decide +kernel), iniX7, ⟨by decide +kernel, by decide +kernel⟩, by decide +kernel, by decide +kernel, by decide⟩
def yX7_bestSurvey : MethodName := ⟨RX7, "bestSurvey", "()I"⟩
def tX7_bestSurvey : List (Nat × Instr) := [(0, .aload_n 0), (1, .getfield 31), (4, .invokevirtual 232), (7, .ireturn)]
def mX7_bestSurvey : aM := (yX7_bestSurvey, prog_1_method_26_code, tX7_bestSurvey, 1, (some .int), flX7, ksX7)
theorem okX7_bestSurvey : aOK mX7_bestSurvey := ⟨by decide +kernel, flokX7, ksokX7, by decide⟩
theorem caX7_bestSurvey : aCal mX7_bestSurvey 0 := ⟨aBW_at 766 (by decide +kernel) (by decide +kernel), iniX7, ⟨by decide +kernel, by decide +kernel⟩, by decide +kernel, by decide +kernel, by decide⟩
def yX7_quarrel : MethodName := ⟨RX7, "quarrel", "(IIII)I"⟩
def tX7_quarrel : List (Nat × Instr) := [(0, .aload_n 0), (1, .getfield 12), (4, .iload_n 1), (5, .iload_n 2), (6, .invokevirtual 126), (9, .ifCond .ne 9), (12, .aload_n 0), (13, .iconst (-1)), (14, .invokevirtual 120), (17, .ireturn), (18, .iload_n 3), (19, .iconst 1), (20, .if_icmp .ge 10), (23, .aload_n 0), (24, .bipush (-4)), (26, .invokevirtual 120), (29, .ireturn), (30, .iload_n 3), (31, .bipush 10), (33, .if_icmp .le 10), (36, .aload_n 0), (37, .bipush (-6)), (39, .invokevirtual 120), (42, .ireturn), (43, .iload 4), (45, .ifCond .lt 9), (48, .iload 4), (50, .iconst 1), (51, .if_icmp .le 10), (54, .aload_n 0), (55, .bipush (-2)), (57, .invokevirtual 120), (60, .ireturn), (61, .aload_n 0), (62, .getfield 31), (65, .iload_n 1), (66, .iload_n 2), (67, .iload_n 3), (68, .invokevirtual 235), (71, .istore 5), (73, .iload 4), (75, .ifCond .eq 10), (78, .iload 5), (80, .bipush (-9)), (82, .if_icmp .ne 6), (85, .iload 5), (87, .ireturn), (88, .aload_n 0), (89, .getfield 31), (92, .iload_n 1), (93, .iload 5), (95, .invokevirtual 187), (98, .aload_n 0), (99, .getfield 12), (102, .iload_n 1), (103, .invokevirtual 117), (106, .isub), (107, .ireturn)]
def mX7_quarrel : aM := (yX7_quarrel, prog_1_method_27_code, tX7_quarrel, 6, (some .int), flX7, ksX7)
theorem okX7_quarrel : aOK mX7_quarrel := ⟨by decide +kernel, flokX7, ksokX7, by decide⟩
theorem caX7_quarrel : aCal mX7_quarrel 4 := ⟨aBW_at 775 (by decide +kernel) (by decide +kernel), iniX7, ⟨by decide +kernel, by decide +kernel⟩, by decide +kernel, by decide +kernel, by decide⟩
def yX7_two : MethodName := ⟨RX7, "two", "(II)I"⟩
def tX7_two : List (Nat × Instr) := [(0, .aload_n 0), (1, .getfield 12), (4, .iload_n 1), (5, .iload_n 2), (6, .invokevirtual 126), (9, .ifCond .ne 9), (12, .aload_n 0), (13, .iconst (-1)), (14, .invokevirtual 74), (17, .ireturn), (18, .aload_n 0), (19, .getfield 31), (22, .iload_n 1), (23, .iload_n 2), (24, .invokevirtual 239), (27, .ireturn)]
def mX7_two : aM := (yX7_two, prog_1_method_28_code, tX7_two, 3, (some .int), flX7, ksX7)
theorem okX7_two : aOK mX7_two := ⟨by decide +kernel, flokX7, ksokX7, by decide⟩
theorem caX7_two : aCal mX7_two 2 := ⟨aBW_at 785 (by decide +kernel) (by decide +kernel), iniX7, ⟨by decide +kernel, by decide +kernel⟩, by decide +kernel, by decide +kernel, by decide⟩
def yX7_crowd : MethodName := ⟨RX7, "crowd", "(I)I"⟩
def tX7_crowd : List (Nat × Instr) := [(0, .iload_n 1), (1, .tableswitch 51 0 2 #[27, 35, 43]), (28, .aload_n 0), (29, .getfield 12), (32, .invokevirtual 242), (35, .ireturn), (36, .aload_n 0), (37, .getfield 12), (40, .invokevirtual 245), (43, .ireturn), (44, .aload_n 0), (45, .getfield 12), (48, .invokevirtual 248), (51, .ireturn), (52, .aload_n 0), (53, .bipush (-2)), (55, .invokevirtual 74), (58, .ireturn)]
def mX7_crowd : aM := (yX7_crowd, prog_1_method_29_code, tX7_crowd, 2, (some .int), flX7, ksX7)
theorem okX7_crowd : aOK mX7_crowd := ⟨by decide +kernel, flokX7, ksokX7, by decide⟩
theorem caX7_crowd : aCal mX7_crowd 1 := ⟨aBW_at 807 (by decide +kernel) (by decide +kernel), iniX7, ⟨by decide +kernel, by decide +kernel⟩, by decide +kernel, by decide +kernel, by decide⟩
def yX7_raise : MethodName := ⟨RX7, "raise", "()I"⟩
def tX7_raise : List (Nat × Instr) := [(0, .aload_n 0), (1, .getfield 31), (4, .invokevirtual 251), (7, .ireturn)]
def mX7_raise : aM := (yX7_raise, prog_1_method_30_code, tX7_raise, 1, (some .int), flX7, ksX7)
theorem okX7_raise : aOK mX7_raise := ⟨by decide +kernel, flokX7, ksokX7, by decide⟩
theorem caX7_raise : aCal mX7_raise 0 := ⟨aBW_at 825 (by decide +kernel) (by decide +kernel), iniX7, ⟨by decide +kernel, by decide +kernel⟩, by decide +kernel, by decide +kernel, by decide⟩
def yX7_easter : MethodName := ⟨RX7, "easte\x72", "(III)I"⟩
def tX7_easter : List (Nat × Instr) := [(0, .aload_n 0), (1, .getfield 12), (4, .iload_n 1), (5, .iload_n 2), (6, .invokevirtual 126), (9, .ifCond .ne 9), (12, .aload_n 0), (13, .iconst (-1)), (14, .invokevirtual 74), (17, .ireturn), (18, .iload_n 3), (19, .ifCond .ge 10), (22, .aload_n 0), (23, .bipush (-4)), (25, .invokevirtual 74), (28, .ireturn), (29, .iload_n 3), (30, .bipush 99), (32, .if_icmp .le 10), (35, .aload_n 0), (36, .bipush (-6)), (38, .invokevirtual 74), (41, .ireturn), (42, .aload_n 0), (43, .getfield 24), (46, .iload_n 1), (47, .iload_n 2), (48, .iload_n 3), (49, .invokevirtual 254), (52, .ireturn)]
def mX7_easter : aM := (yX7_easter, prog_1_method_31_code, tX7_easter, 4, (some .int), flX7, ksX7)
theorem okX7_easter : aOK mX7_easter := ⟨by decide +kernel, flokX7, ksokX7, by decide⟩
theorem caX7_easter : aCal mX7_easter 3 := ⟨aBW_at 836 (by decide +kernel) (by decide +kernel), iniX7, ⟨by decide +kernel, by decide +kernel⟩, by decide +kernel, by decide +kernel, by decide⟩
def yX7_whatIs : MethodName := ⟨RX7, "whatIs", "(II)I"⟩
def tX7_whatIs : List (Nat × Instr) := [(0, .aload_n 0), (1, .getfield 12), (4, .iload_n 1), (5, .invokevirtual 95), (8, .ifCond .ne 9), (11, .aload_n 0), (12, .iconst (-1)), (13, .invokevirtual 74), (16, .ireturn), (17, .iload_n 2), (18, .ifCond .lt 8), (21, .iload_n 2), (22, .iconst 1), (23, .if_icmp .le 10), (26, .aload_n 0), (27, .bipush (-2)), (29, .invokevirtual 74), (32, .ireturn), (33, .aload_n 0), (34, .getfield 67), (37, .aload_n 0), (38, .getfield 12), (41, .invokevirtual 199), (44, .if_icmp .eq 10), (47, .aload_n 0), (48, .bipush (-3)), (50, .invokevirtual 74), (53, .ireturn), (54, .iload_n 2), (55, .ifCond .ne 18), (58, .aload_n 0), (59, .getfield 31), (62, .iload_n 1), (63, .aload_n 0), (64, .getfield 63), (67, .invokevirtual 257), (70, .goto 15), (73, .aload_n 0), (74, .getfield 31), (77, .iload_n 1), (78, .aload_n 0), (79, .getfield 63), (82, .invokevirtual 261), (85, .ireturn)]
def mX7_whatIs : aM := (yX7_whatIs, prog_1_method_32_code, tX7_whatIs, 3, (some .int), flX7, ksX7)
theorem okX7_whatIs : aOK mX7_whatIs := ⟨by decide +kernel, flokX7, ksokX7, by decide⟩
theorem caX7_whatIs : aCal mX7_whatIs 2 := ⟨aBW_at 847 (by decide +kernel) (by decide +kernel), iniX7, ⟨by decide +kernel, by decide +kernel⟩, by decide +kernel, by decide +kernel, by decide⟩
def yX7_row : MethodName := ⟨RX7, "row", "(I)I"⟩
def tX7_row : List (Nat × Instr) := [(0, .iload_n 1), (1, .ifCond .ge 10), (4, .aload_n 0), (5, .bipush (-4)), (7, .invokevirtual 74), (10, .ireturn), (11, .iload_n 1), (12, .bipush 99), (14, .if_icmp .gt 12), (17, .aload_n 0), (18, .getfield 67), (21, .bipush 12), (23, .if_icmp .lt 10), (26, .aload_n 0), (27, .bipush (-6)), (29, .invokevirtual 74), (32, .ireturn), (33, .aload_n 0), (34, .getfield 63), (37, .aload_n 0), (38, .getfield 67), (41, .iload_n 1), (42, .invokevirtual 264), (45, .aload_n 0), (46, .dup), (47, .getfield 67), (50, .iconst 1), (51, .iadd), (52, .putfield 67), (55, .aload_n 0), (56, .getfield 67), (59, .ireturn)]
def mX7_row : aM := (yX7_row, prog_1_method_33_code, tX7_row, 2, (some .int), flX7, ksX7)
theorem okX7_row : aOK mX7_row := ⟨by decide +kernel, flokX7, ksokX7, by decide⟩
theorem caX7_row : aCal mX7_row 1 := ⟨aBW_at 871 (by decide +kernel) (by decide +kernel), iniX7, ⟨by decide +kernel, by decide +kernel⟩, by decide +kernel, by decide +kernel, by decide⟩
def yX7_judge : MethodName := ⟨RX7, "judge", "(I)I"⟩
def tX7_judge : List (Nat × Instr) := [(0, .aload_n 0), (1, .getfield 12), (4, .iload_n 1), (5, .invokevirtual 95), (8, .ifCond .ne 9), (11, .aload_n 0), (12, .iconst (-1)), (13, .invokevirtual 74), (16, .ireturn), (17, .aload_n 0), (18, .getfield 24), (21, .iload_n 1), (22, .aload_n 0), (23, .getfield 63), (26, .aload_n 0), (27, .getfield 67), (30, .invokevirtual 267), (33, .istore_n 2), (34, .aload_n 0), (35, .iconst 0), (36, .putfield 67), (39, .iload_n 2), (40, .ireturn)]
def mX7_judge : aM := (yX7_judge, prog_1_method_34_code, tX7_judge, 3, (some .int), flX7, ksX7)
theorem okX7_judge : aOK mX7_judge := ⟨by decide +kernel, flokX7, ksokX7, by decide⟩
theorem caX7_judge : aCal mX7_judge 1 := ⟨aBW_at 875 (by decide +kernel) (by decide +kernel), iniX7, ⟨by decide +kernel, by decide +kernel⟩, by decide +kernel, by decide +kernel, by decide⟩
def yX7_clear : MethodName := ⟨RX7, "clea\x72", "()I"⟩
def tX7_clear : List (Nat × Instr) := [(0, .aload_n 0), (1, .getfield 67), (4, .istore_n 1), (5, .aload_n 0), (6, .iconst 0), (7, .putfield 67), (10, .iload_n 1), (11, .ireturn)]
def mX7_clear : aM := (yX7_clear, prog_1_method_35_code, tX7_clear, 2, (some .int), flX7, ksX7)
theorem okX7_clear : aOK mX7_clear := ⟨by decide +kernel, flokX7, ksokX7, by decide⟩
theorem caX7_clear : aCal mX7_clear 0 := ⟨aBW_at 885 (by decide +kernel) (by decide +kernel), iniX7, ⟨by decide +kernel, by decide +kernel⟩, by decide +kernel, by decide +kernel, by decide⟩
def yX7_lots : MethodName := ⟨RX7, "lots", "(III)I"⟩
def tX7_lots : List (Nat × Instr) := [(0, .iload_n 1), (1, .iconst 1), (2, .if_icmp .ge 10), (5, .aload_n 0), (6, .bipush (-4)), (8, .invokevirtual 74), (11, .ireturn), (12, .iload_n 1), (13, .bipush 20), (15, .if_icmp .le 10), (18, .aload_n 0), (19, .bipush (-6)), (21, .invokevirtual 74), (24, .ireturn), (25, .iload_n 3), (26, .ifCond .lt 8), (29, .iload_n 3), (30, .iconst 1), (31, .if_icmp .le 10), (34, .aload_n 0), (35, .bipush (-2)), (37, .invokevirtual 74), (40, .ireturn), (41, .aload_n 0), (42, .getfield 12), (45, .invokevirtual 199), (48, .iconst 1), (49, .if_icmp .ge 10), (52, .aload_n 0), (53, .bipush (-3)), (55, .invokevirtual 74), (58, .ireturn), (59, .iload_n 3), (60, .ifCond .ne 15), (63, .aload_n 0), (64, .getfield 31), (67, .iload_n 1), (68, .iload_n 2), (69, .invokevirtual 271), (72, .goto 12), (75, .aload_n 0), (76, .getfield 31), (79, .iload_n 1), (80, .iload_n 2), (81, .invokevirtual 274), (84, .ireturn)]
def mX7_lots : aM := (yX7_lots, prog_1_method_36_code, tX7_lots, 4, (some .int), flX7, ksX7)
theorem okX7_lots : aOK mX7_lots := ⟨by decide +kernel, flokX7, ksokX7, by decide⟩
theorem caX7_lots : aCal mX7_lots 3 := ⟨aBW_at 889 (by decide +kernel) (by decide +kernel), iniX7, ⟨by decide +kernel, by decide +kernel⟩, by decide +kernel, by decide +kernel, by decide⟩
def yX7_image : MethodName := ⟨RX7, "image", "()I"⟩
def tX7_image : List (Nat × Instr) := [(0, .aload_n 0), (1, .getfield 51), (4, .aload_n 0), (5, .getfield 12), (8, .invokevirtual 85), (11, .aload_n 0), (12, .iconst 1), (13, .putfield 54), (16, .aload_n 0), (17, .getfield 12), (20, .invokevirtual 158), (23, .ireturn)]
def mX7_image : aM := (yX7_image, prog_1_method_37_code, tX7_image, 1, (some .int), flX7, ksX7)
theorem okX7_image : aOK mX7_image := ⟨by decide +kernel, flokX7, ksokX7, by decide⟩
theorem caX7_image : aCal mX7_image 0 := ⟨aBW_at 916 (by decide +kernel) (by decide +kernel), iniX7, ⟨by decide +kernel, by decide +kernel⟩, by decide +kernel, by decide +kernel, by decide⟩
def yX7_on : MethodName := ⟨RX7, "on", "()I"⟩
def tX7_on : List (Nat × Instr) := [(0, .aload_n 0), (1, .getfield 54), (4, .ifCond .ne 10), (7, .aload_n 0), (8, .bipush (-3)), (10, .invokevirtual 74), (13, .ireturn), (14, .aload_n 0), (15, .getfield 12), (18, .aload_n 0), (19, .getfield 51), (22, .invokevirtual 85), (25, .aload_n 0), (26, .getfield 12), (29, .invokevirtual 158), (32, .ireturn)]
def mX7_on : aM := (yX7_on, prog_1_method_38_code, tX7_on, 1, (some .int), flX7, ksX7)
theorem okX7_on : aOK mX7_on := ⟨by decide +kernel, flokX7, ksokX7, by decide⟩
theorem caX7_on : aCal mX7_on 0 := ⟨aBW_at 920 (by decide +kernel) (by decide +kernel), iniX7, ⟨by decide +kernel, by decide +kernel⟩, by decide +kernel, by decide +kernel, by decide⟩
def yX7_count : MethodName := ⟨RX7, "count", "(I)I"⟩
def tX7_count : List (Nat × Instr) := [(0, .iload_n 1), (1, .tableswitch 108 0 7 #[47, 55, 63, 71, 79, 87, 95, 100]), (48, .aload_n 0), (49, .getfield 12), (52, .invokevirtual 199), (55, .ireturn), (56, .aload_n 0), (57, .getfield 12), (60, .invokevirtual 158), (63, .ireturn), (64, .aload_n 0), (65, .getfield 12), (68, .invokevirtual 151), (71, .ireturn), (72, .aload_n 0), (73, .getfield 12), (76, .invokevirtual 277), (79, .ireturn), (80, .aload_n 0), (81, .getfield 12), (84, .invokevirtual 280), (87, .ireturn), (88, .aload_n 0), (89, .getfield 12), (92, .invokevirtual 283), (95, .ireturn), (96, .aload_n 0), (97, .getfield 67), (100, .ireturn), (101, .aload_n 0), (102, .getfield 47), (105, .invokevirtual 286), (108, .ireturn), (109, .iload_n 1), (110, .bipush 11), (112, .if_icmp .lt 23), (115, .iload_n 1), (116, .bipush 16), (118, .if_icmp .gt 17), (121, .aload_n 0), (122, .getfield 71), (125, .iload_n 1), (126, .bipush 10), (128, .isub), (129, .invokevirtual 289), (132, .goto 5), (135, .bipush (-9)), (137, .ireturn)]
def mX7_count : aM := (yX7_count, prog_1_method_39_code, tX7_count, 2, (some .int), flX7, ksX7)
theorem okX7_count : aOK mX7_count := ⟨by decide +kernel, flokX7, ksokX7, by decide⟩
theorem caX7_count : aCal mX7_count 1 := ⟨aBW_at 924 (by decide +kernel) (by decide +kernel), iniX7, ⟨by decide +kernel, by decide +kernel⟩, by decide +kernel, by decide +kernel, by decide⟩
def yX7_refuse : MethodName := ⟨RX7, "refuse", "(I)I"⟩
def tX7_refuse : List (Nat × Instr) := [(0, .aload_n 0), (1, .getfield 71), (4, .iload_n 1), (5, .ineg), (6, .aload_n 0), (7, .getfield 71), (10, .iload_n 1), (11, .ineg), (12, .invokevirtual 289), (15, .iconst 1), (16, .iadd), (17, .invokevirtual 264), (20, .iload_n 1), (21, .ireturn)]
def mX7_refuse : aM := (yX7_refuse, prog_1_method_40_code, tX7_refuse, 2, (some .int), flX7, ksX7)
theorem okX7_refuse : aOK mX7_refuse := ⟨by decide +kernel, flokX7, ksokX7, by decide⟩
theorem caX7_refuse : aCal mX7_refuse 1 := ⟨aBW_at 279 (by decide +kernel) (by decide +kernel), iniX7, ⟨by decide +kernel, by decide +kernel⟩, by decide +kernel, by decide +kernel, by decide⟩
def yX7_refuseFar : MethodName := ⟨RX7, "refuseFa\x72", "(I)I"⟩
def tX7_refuseFar : List (Nat × Instr) := [(0, .ldc_w 292), (3, .aload_n 0), (4, .iload_n 1), (5, .invokevirtual 74), (8, .isub), (9, .ireturn)]
def mX7_refuseFar : aM := (yX7_refuseFar, prog_1_method_41_code, tX7_refuseFar, 2, (some .int), flX7, ksX7)
theorem okX7_refuseFar : aOK mX7_refuseFar := ⟨by decide +kernel, flokX7, ksokX7, by decide⟩
theorem caX7_refuseFar : aCal mX7_refuseFar 1 := ⟨aBW_at 529 (by decide +kernel) (by decide +kernel), iniX7, ⟨by decide +kernel, by decide +kernel⟩, by decide +kernel, by decide +kernel, by decide⟩
def yX7_isCell : MethodName := ⟨RX7, "isCell", "(I)Z"⟩
def tX7_isCell : List (Nat × Instr) := [(0, .iload_n 0), (1, .ifCond .lt 13), (4, .iload_n 0), (5, .bipush 36), (7, .if_icmp .ge 7), (10, .iconst 1), (11, .goto 4), (14, .iconst 0), (15, .ireturn)]
def mX7_isCell : aM := (yX7_isCell, prog_1_method_42_code, tX7_isCell, 1, (some .boolean), flX7, ksX7)
theorem okX7_isCell : aOK mX7_isCell := ⟨by decide +kernel, flokX7, ksokX7, by decide⟩
theorem caX7_isCell : aCal mX7_isCell 1 := ⟨aBW_at 401 (by decide +kernel) (by decide +kernel), iniX7, ⟨by decide +kernel, by decide +kernel⟩, by decide +kernel, by decide +kernel, by decide⟩
def yX7_steps : MethodName := ⟨RX7, "steps", "(II)I"⟩
def tX7_steps : List (Nat × Instr) := [(0, .iload_n 0), (1, .bipush 6), (3, .idiv), (4, .iload_n 1), (5, .bipush 6), (7, .idiv), (8, .isub), (9, .invokestatic 293), (12, .iload_n 0), (13, .bipush 6), (15, .irem), (16, .iload_n 1), (17, .bipush 6), (19, .irem), (20, .isub), (21, .invokestatic 293), (24, .iadd), (25, .ireturn)]
def mX7_steps : aM := (yX7_steps, prog_1_method_43_code, tX7_steps, 2, (some .int), flX7, ksX7)
theorem okX7_steps : aOK mX7_steps := ⟨by decide +kernel, flokX7, ksokX7, by decide⟩
theorem caX7_steps : aCal mX7_steps 2 := ⟨aBW_at 434 (by decide +kernel) (by decide +kernel), iniX7, ⟨by decide +kernel, by decide +kernel⟩, by decide +kernel, by decide +kernel, by decide⟩
def yX8_init : MethodName := ⟨RX8, "<init>", "()V"⟩
def tX8_init : List (Nat × Instr) := [(0, .aload_n 0), (1, .invokespecial 1), (4, .aload_n 0), (5, .bipush 7), (7, .newarray .int), (9, .putfield 7), (12, .aload_n 0), (13, .bipush 7), (15, .newarray .int), (17, .putfield 13), (20, .aload_n 0), (21, .bipush 7), (23, .newarray .int), (25, .putfield 16), (28, .aload_n 0), (29, .bipush 7), (31, .newarray .int), (33, .putfield 19), (36, .aload_n 0), (37, .bipush 7), (39, .newarray .int), (41, .putfield 22), (44, .aload_n 0), (45, .bipush 7), (47, .newarray .int), (49, .putfield 25), (52, .aload_n 0), (53, .bipush 49), (55, .newarray .int), (57, .putfield 28), (60, .aload_n 0), (61, .bipush 96), (63, .newarray .int), (65, .putfield 31), (68, .aload_n 0), (69, .bipush 48), (71, .newarray .int), (73, .putfield 34), (76, .aload_n 0), (77, .bipush 48), (79, .newarray .int), (81, .putfield 37), (84, .aload_n 0), (85, .sipush 192), (88, .newarray .int), (90, .putfield 40), (93, .aload_n 0), (94, .sipush 270), (97, .newarray .int), (99, .putfield 43), (102, .aload_n 0), (103, .bipush 7), (105, .newarray .int), (107, .putfield 46), (110, .aload_n 0), (111, .bipush 7), (113, .newarray .int), (115, .putfield 49), (118, .aload_n 0), (119, .bipush 7), (121, .newarray .int), (123, .putfield 52), (126, .aload_n 0), (127, .bipush 64), (129, .newarray .int), (131, .putfield 55), (134, .aload_n 0), (135, .bipush 25), (137, .newarray .int), (139, .putfield 58), (142, .aload_n 0), (143, .bipush 25), (145, .newarray .int), (147, .putfield 61), (150, .aload_n 0), (151, .bipush 12), (153, .newarray .int), (155, .putfield 64), (158, .aload_n 0), (159, .sipush 360), (162, .putfield 67), (165, .return_)]
def mX8_init : aM := (yX8_init, prog_10_method_1_code, tX8_init, 1, none, flX8, ksX8)
theorem okX8_init : aOK mX8_init := ⟨by decide +kernel, flokX8, ksokX8, by decide⟩
theorem caX8_init : aCal mX8_init 0 := ⟨aBW_at 949 (by decide +kernel) (by decide +kernel), iniX8, ⟨by decide +kernel, by decide +kernel⟩, by decide +kernel, by decide +kernel, by decide⟩
def yX8_no : MethodName := ⟨RX8, "no", "(I)I"⟩
def tX8_no : List (Nat × Instr) := [(0, .aload_n 0), (1, .getfield 7), (4, .iload_n 1), (5, .ineg), (6, .dup2), (7, .iaload), (8, .iconst 1), (9, .iadd), (10, .iastore), (11, .iload_n 1), (12, .ireturn)]
def mX8_no : aM := (yX8_no, prog_10_method_2_code, tX8_no, 2, (some .int), flX8, ksX8)
theorem okX8_no : aOK mX8_no := ⟨by decide +kernel, flokX8, ksokX8, by decide⟩
theorem caX8_no : aCal mX8_no 1 := ⟨aBW_at 1055 (by decide +kernel) (by decide +kernel), iniX8, ⟨by decide +kernel, by decide +kernel⟩, by decide +kernel, by decide +kernel, by decide⟩
def yX8_lower : MethodName := ⟨RX8, "lowe\x72", "(I)I"⟩
def tX8_lower : List (Nat × Instr) := [(0, .aload_n 0), (1, .getfield 7), (4, .iload_n 1), (5, .ineg), (6, .dup2), (7, .iaload), (8, .iconst 1), (9, .iadd), (10, .iastore), (11, .ldc 71), (13, .iload_n 1), (14, .isub), (15, .ireturn)]
def mX8_lower : aM := (yX8_lower, prog_10_method_3_code, tX8_lower, 2, (some .int), flX8, ksX8)
theorem okX8_lower : aOK mX8_lower := ⟨by decide +kernel, flokX8, ksokX8, by decide⟩
theorem caX8_lower : aCal mX8_lower 1 := ⟨aBW_at 1192 (by decide +kernel) (by decide +kernel), iniX8, ⟨by decide +kernel, by decide +kernel⟩, by decide +kernel, by decide +kernel, by decide⟩
def yX8_isIn : MethodName := ⟨RX8, "isIn", "(III)Z"⟩
def tX8_isIn : List (Nat × Instr) := [(0, .iload_n 0), (1, .iload_n 1), (2, .if_icmp .lt 12), (5, .iload_n 0), (6, .iload_n 2), (7, .if_icmp .gt 7), (10, .iconst 1), (11, .goto 4), (14, .iconst 0), (15, .ireturn)]
def mX8_isIn : aM := (yX8_isIn, prog_10_method_4_code, tX8_isIn, 3, (some .boolean), flX8, ksX8)
theorem okX8_isIn : aOK mX8_isIn := ⟨by decide +kernel, flokX8, ksokX8, by decide⟩
theorem caX8_isIn : aCal mX8_isIn 3 := ⟨aBW_at 1085 (by decide +kernel) (by decide +kernel), iniX8, ⟨by decide +kernel, by decide +kernel⟩, by decide +kernel, by decide +kernel, by decide⟩
def yX8_bound : MethodName := ⟨RX8, "bound", "(III)I"⟩
def tX8_bound : List (Nat × Instr) := [(0, .iload_n 0), (1, .iload_n 1), (2, .if_icmp .ge 8), (5, .bipush (-4)), (7, .goto 14), (10, .iload_n 0), (11, .iload_n 2), (12, .if_icmp .le 8), (15, .bipush (-6)), (17, .goto 4), (20, .iconst 0), (21, .ireturn)]
def mX8_bound : aM := (yX8_bound, prog_10_method_5_code, tX8_bound, 3, (some .int), flX8, ksX8)
theorem okX8_bound : aOK mX8_bound := ⟨by decide +kernel, flokX8, ksokX8, by decide⟩
theorem caX8_bound : aCal mX8_bound 3 := ⟨aBW_at 1051 (by decide +kernel) (by decide +kernel), iniX8, ⟨by decide +kernel, by decide +kernel⟩, by decide +kernel, by decide +kernel, by decide⟩
def yX8_has : MethodName := ⟨RX8, "has", "(II)Z"⟩
def tX8_has : List (Nat × Instr) := [(0, .iload_n 0), (1, .iload_n 1), (2, .ishr), (3, .iconst 1), (4, .iand), (5, .iconst 1), (6, .if_icmp .ne 7), (9, .iconst 1), (10, .goto 4), (13, .iconst 0), (14, .ireturn)]
def mX8_has : aM := (yX8_has, prog_10_method_6_code, tX8_has, 2, (some .boolean), flX8, ksX8)
theorem okX8_has : aOK mX8_has := ⟨by decide +kernel, flokX8, ksokX8, by decide⟩
theorem caX8_has : aCal mX8_has 2 := ⟨aBW_at 1143 (by decide +kernel) (by decide +kernel), iniX8, ⟨by decide +kernel, by decide +kernel⟩, by decide +kernel, by decide +kernel, by decide⟩
def yX8_isOne : MethodName := ⟨RX8, "isOne", "(I)Z"⟩
def tX8_isOne : List (Nat × Instr) := [(0, .iload_n 1), (1, .ifCond .lt 15), (4, .iload_n 1), (5, .aload_n 0), (6, .getfield 72), (9, .if_icmp .ge 7), (12, .iconst 1), (13, .goto 4), (16, .iconst 0), (17, .ireturn)]
def mX8_isOne : aM := (yX8_isOne, prog_10_method_7_code, tX8_isOne, 2, (some .boolean), flX8, ksX8)
theorem okX8_isOne : aOK mX8_isOne := ⟨by decide +kernel, flokX8, ksokX8, by decide⟩
theorem caX8_isOne : aCal mX8_isOne 1 := ⟨aBW_at 1116 (by decide +kernel) (by decide +kernel), iniX8, ⟨by decide +kernel, by decide +kernel⟩, by decide +kernel, by decide +kernel, by decide⟩
def yX8_areTwo : MethodName := ⟨RX8, "areTwo", "(II)Z"⟩
def tX8_areTwo : List (Nat × Instr) := [(0, .aload_n 0), (1, .iload_n 1), (2, .invokevirtual 75), (5, .ifCond .eq 20), (8, .aload_n 0), (9, .iload_n 2), (10, .invokevirtual 75), (13, .ifCond .eq 12), (16, .iload_n 1), (17, .iload_n 2), (18, .if_icmp .eq 7), (21, .iconst 1), (22, .goto 4), (25, .iconst 0), (26, .ireturn)]
def mX8_areTwo : aM := (yX8_areTwo, prog_10_method_8_code, tX8_areTwo, 3, (some .boolean), flX8, ksX8)
theorem okX8_areTwo : aOK mX8_areTwo := ⟨by decide +kernel, flokX8, ksokX8, by decide⟩
theorem caX8_areTwo : aCal mX8_areTwo 2 := ⟨aBW_at 1120 (by decide +kernel) (by decide +kernel), iniX8, ⟨by decide +kernel, by decide +kernel⟩, by decide +kernel, by decide +kernel, by decide⟩
def yX8_isCell : MethodName := ⟨RX8, "isCell", "(I)Z"⟩
def tX8_isCell : List (Nat × Instr) := [(0, .iload_n 0), (1, .ifCond .lt 13), (4, .iload_n 0), (5, .bipush 36), (7, .if_icmp .ge 7), (10, .iconst 1), (11, .goto 4), (14, .iconst 0), (15, .ireturn)]
def mX8_isCell : aM := (yX8_isCell, prog_10_method_9_code, tX8_isCell, 1, (some .boolean), flX8, ksX8)
theorem okX8_isCell : aOK mX8_isCell := ⟨by decide +kernel, flokX8, ksokX8, by decide⟩
theorem caX8_isCell : aCal mX8_isCell 1 := ⟨aBW_at 1108 (by decide +kernel) (by decide +kernel), iniX8, ⟨by decide +kernel, by decide +kernel⟩, by decide +kernel, by decide +kernel, by decide⟩
def yX8_letter : MethodName := ⟨RX8, "lette\x72", "(I)I"⟩
def tX8_letter : List (Nat × Instr) := [(0, .iload_n 1), (1, .iconst 0), (2, .sipush 255), (5, .invokestatic 79), (8, .istore_n 2), (9, .iload_n 2), (10, .ifCond .ne 15), (13, .aload_n 0), (14, .getfield 83), (17, .bipush 96), (19, .if_icmp .ne 6), (22, .bipush (-6)), (24, .istore_n 2), (25, .iload_n 2), (26, .ifCond .eq 9), (29, .aload_n 0), (30, .iload_n 2), (31, .invokevirtual 86), (34, .ireturn), (35, .aload_n 0), (36, .getfield 31), (39, .aload_n 0), (40, .getfield 83), (43, .iload_n 1), (44, .iastore), (45, .aload_n 0), (46, .dup), (47, .getfield 83), (50, .iconst 1), (51, .iadd), (52, .putfield 83), (55, .aload_n 0), (56, .getfield 83), (59, .ireturn)]
def mX8_letter : aM := (yX8_letter, prog_10_method_10_code, tX8_letter, 3, (some .int), flX8, ksX8)
theorem okX8_letter : aOK mX8_letter := ⟨by decide +kernel, flokX8, ksokX8, by decide⟩
theorem caX8_letter : aCal mX8_letter 1 := ⟨aBW_at 1048 (by decide +kernel) (by decide +kernel), iniX8, ⟨by decide +kernel, by decide +kernel⟩, by decide +kernel, by decide +kernel, by decide⟩
def yX8_next : MethodName := ⟨RX8, "next", "()I"⟩
def tX8_next : List (Nat × Instr) := [(0, .aload_n 0), (1, .getfield 90), (4, .aload_n 0), (5, .getfield 83), (8, .if_icmp .ge 15), (11, .aload_n 0), (12, .getfield 31), (15, .aload_n 0), (16, .getfield 90), (19, .iaload), (20, .goto 4), (23, .iconst (-1)), (24, .ireturn)]
def mX8_next : aM := (yX8_next, prog_10_method_11_code, tX8_next, 1, (some .int), flX8, ksX8)
theorem okX8_next : aOK mX8_next := ⟨by decide +kernel, flokX8, ksokX8, by decide⟩
theorem caX8_next : aCal mX8_next 0 := ⟨aBW_at 1067 (by decide +kernel) (by decide +kernel), iniX8, ⟨by decide +kernel, by decide +kernel⟩, by decide +kernel, by decide +kernel, by decide⟩
def yX8_readsDigits : MethodName := ⟨RX8, "readsDigits", "(II)Z"⟩
def tX8_readsDigits : List (Nat × Instr) := [(0, .iconst 0), (1, .istore_n 3), (2, .iconst 0), (3, .istore 4), (5, .iload 4), (7, .iload_n 2), (8, .if_icmp .ge 48), (11, .aload_n 0), (12, .invokevirtual 93), (15, .bipush 48), (17, .bipush 57), (19, .invokestatic 97), (22, .ifCond .ne 5), (25, .iconst 0), (26, .ireturn), (27, .bipush 10), (29, .iload_n 3), (30, .imul), (31, .aload_n 0), (32, .invokevirtual 93), (35, .iadd), (36, .bipush 48), (38, .isub), (39, .istore_n 3), (40, .aload_n 0), (41, .dup), (42, .getfield 90), (45, .iconst 1), (46, .iadd), (47, .putfield 90), (50, .iinc 4 1), (53, .goto (-48)), (56, .aload_n 0), (57, .getfield 40), (60, .iload_n 1), (61, .iload_n 3), (62, .iastore), (63, .iconst 1), (64, .ireturn)]
def mX8_readsDigits : aM := (yX8_readsDigits, prog_10_method_12_code, tX8_readsDigits, 5, (some .boolean), flX8, ksX8)
theorem okX8_readsDigits : aOK mX8_readsDigits := ⟨by decide +kernel, flokX8, ksokX8, by decide⟩
theorem caX8_readsDigits : aCal mX8_readsDigits 2 := ⟨aBW_at 1082 (by decide +kernel) (by decide +kernel), iniX8, ⟨by decide +kernel, by decide +kernel⟩, by decide +kernel, by decide +kernel, by decide⟩
def yX8_kindOf : MethodName := ⟨RX8, "kindOf", "(I)I"⟩
def tX8_kindOf : List (Nat × Instr) := [(0, .iload_n 0), (1, .bipush 112), (3, .if_icmp .ne 7), (6, .iconst 0), (7, .goto 54), (10, .iload_n 0), (11, .bipush 115), (13, .if_icmp .ne 7), (16, .iconst 1), (17, .goto 44), (20, .iload_n 0), (21, .bipush 119), (23, .if_icmp .ne 7), (26, .iconst 2), (27, .goto 34), (30, .iload_n 0), (31, .bipush 99), (33, .if_icmp .ne 7), (36, .iconst 3), (37, .goto 24), (40, .iload_n 0), (41, .bipush 111), (43, .if_icmp .ne 7), (46, .iconst 4), (47, .goto 14), (50, .iload_n 0), (51, .bipush 110), (53, .if_icmp .ne 7), (56, .iconst 5), (57, .goto 4), (60, .iconst (-1)), (61, .ireturn)]
def mX8_kindOf : aM := (yX8_kindOf, prog_10_method_13_code, tX8_kindOf, 1, (some .int), flX8, ksX8)
theorem okX8_kindOf : aOK mX8_kindOf := ⟨by decide +kernel, flokX8, ksokX8, by decide⟩
theorem caX8_kindOf : aCal mX8_kindOf 1 := ⟨aBW_at 1078 (by decide +kernel) (by decide +kernel), iniX8, ⟨by decide +kernel, by decide +kernel⟩, by decide +kernel, by decide +kernel, by decide⟩
def yX8_readsKind : MethodName := ⟨RX8, "readsKind", "(I)Z"⟩
def tX8_readsKind : List (Nat × Instr) := [(0, .aload_n 0), (1, .getfield 40), (4, .iload_n 1), (5, .aload_n 0), (6, .invokevirtual 93), (9, .invokestatic 101), (12, .iastore), (13, .aload_n 0), (14, .getfield 40), (17, .iload_n 1), (18, .iaload), (19, .ifCond .ge 5), (22, .iconst 0), (23, .ireturn), (24, .aload_n 0), (25, .dup), (26, .getfield 90), (29, .iconst 1), (30, .iadd), (31, .putfield 90), (34, .iconst 1), (35, .ireturn)]
def mX8_readsKind : aM := (yX8_readsKind, prog_10_method_14_code, tX8_readsKind, 2, (some .boolean), flX8, ksX8)
theorem okX8_readsKind : aOK mX8_readsKind := ⟨by decide +kernel, flokX8, ksokX8, by decide⟩
theorem caX8_readsKind : aCal mX8_readsKind 1 := ⟨aBW_at 1075 (by decide +kernel) (by decide +kernel), iniX8, ⟨by decide +kernel, by decide +kernel⟩, by decide +kernel, by decide +kernel, by decide⟩
def yX8_readsAll : MethodName := ⟨RX8, "readsAll", "(II)Z"⟩
def tX8_readsAll : List (Nat × Instr) := [(0, .iload_n 1), (1, .lookupswitch 194 #[(97, 98), (107, 161), (108, 124), (112, 51), (115, 187)]), (52, .aload_n 0), (53, .iload_n 2), (54, .invokevirtual 104), (57, .ifCond .eq 40), (60, .aload_n 0), (61, .iload_n 2), (62, .iconst 1), (63, .iadd), (64, .iconst 1), (65, .invokevirtual 107), (68, .ifCond .eq 29), (71, .aload_n 0), (72, .iload_n 2), (73, .iconst 2), (74, .iadd), (75, .iconst 2), (76, .invokevirtual 107), (79, .ifCond .eq 18), (82, .aload_n 0), (83, .iload_n 2), (84, .iconst 3), (85, .iadd), (86, .iconst 2), (87, .invokevirtual 107), (90, .ifCond .eq 7), (93, .iconst 1), (94, .goto 4), (97, .iconst 0), (98, .ireturn), (99, .aload_n 0), (100, .iload_n 2), (101, .iconst 1), (102, .invokevirtual 107), (105, .ifCond .eq 18), (108, .aload_n 0), (109, .iload_n 2), (110, .iconst 1), (111, .iadd), (112, .iconst 2), (113, .invokevirtual 107), (116, .ifCond .eq 7), (119, .iconst 1), (120, .goto 4), (123, .iconst 0), (124, .ireturn), (125, .aload_n 0), (126, .iload_n 2), (127, .iconst 1), (128, .invokevirtual 107), (131, .ifCond .eq 29), (134, .aload_n 0), (135, .iload_n 2), (136, .iconst 1), (137, .iadd), (138, .iconst 1), (139, .invokevirtual 107), (142, .ifCond .eq 18), (145, .aload_n 0), (146, .iload_n 2), (147, .iconst 2), (148, .iadd), (149, .iconst 2), (150, .invokevirtual 107), (153, .ifCond .eq 7), (156, .iconst 1), (157, .goto 4), (160, .iconst 0), (161, .ireturn), (162, .aload_n 0), (163, .iload_n 2), (164, .iconst 1), (165, .invokevirtual 107), (168, .ifCond .eq 18), (171, .aload_n 0), (172, .iload_n 2), (173, .iconst 1), (174, .iadd), (175, .iconst 4), (176, .invokevirtual 107), (179, .ifCond .eq 7), (182, .iconst 1), (183, .goto 4), (186, .iconst 0), (187, .ireturn), (188, .aload_n 0), (189, .iload_n 2), (190, .iconst 3), (191, .invokevirtual 107), (194, .ireturn), (195, .aload_n 0), (196, .iload_n 2), (197, .iconst 2), (198, .invokevirtual 107), (201, .ireturn)]
def mX8_readsAll : aM := (yX8_readsAll, prog_10_method_15_code, tX8_readsAll, 3, (some .boolean), flX8, ksX8)
theorem okX8_readsAll : aOK mX8_readsAll := ⟨by decide +kernel, flokX8, ksokX8, by decide⟩
theorem caX8_readsAll : aCal mX8_readsAll 2 := ⟨aBW_at 1071 (by decide +kernel) (by decide +kernel), iniX8, ⟨by decide +kernel, by decide +kernel⟩, by decide +kernel, by decide +kernel, by decide⟩
def yX8_statement : MethodName := ⟨RX8, "statement", "()Z"⟩
def tX8_statement : List (Nat × Instr) := [(0, .aload_n 0), (1, .invokevirtual 93), (4, .istore_n 1), (5, .iload_n 1), (6, .bipush 112), (8, .if_icmp .eq 35), (11, .iload_n 1), (12, .bipush 97), (14, .if_icmp .eq 29), (17, .iload_n 1), (18, .bipush 108), (20, .if_icmp .eq 23), (23, .iload_n 1), (24, .bipush 107), (26, .if_icmp .eq 17), (29, .iload_n 1), (30, .bipush 115), (32, .if_icmp .eq 11), (35, .iload_n 1), (36, .bipush 100), (38, .if_icmp .eq 5), (41, .iconst 0), (42, .ireturn), (43, .aload_n 0), (44, .getfield 34), (47, .aload_n 0), (48, .getfield 111), (51, .iload_n 1), (52, .iastore), (53, .aload_n 0), (54, .getfield 37), (57, .aload_n 0), (58, .getfield 111), (61, .aload_n 0), (62, .getfield 90), (65, .iastore), (66, .aload_n 0), (67, .dup), (68, .getfield 90), (71, .iconst 1), (72, .iadd), (73, .putfield 90), (76, .aload_n 0), (77, .iload_n 1), (78, .iconst 4), (79, .aload_n 0), (80, .getfield 111), (83, .imul), (84, .invokevirtual 114), (87, .ifCond .eq 12), (90, .aload_n 0), (91, .invokevirtual 93), (94, .bipush 59), (96, .if_icmp .eq 5), (99, .iconst 0), (100, .ireturn), (101, .aload_n 0), (102, .dup), (103, .getfield 90), (106, .iconst 1), (107, .iadd), (108, .putfield 90), (111, .iconst 1), (112, .ireturn)]
def mX8_statement : aM := (yX8_statement, prog_10_method_16_code, tX8_statement, 2, (some .boolean), flX8, ksX8)
theorem okX8_statement : aOK mX8_statement := ⟨by decide +kernel, flokX8, ksokX8, by decide⟩
theorem caX8_statement : aCal mX8_statement 0 := ⟨aBW_at 1063 (by decide +kernel) (by decide +kernel), iniX8, ⟨by decide +kernel, by decide +kernel⟩, by decide +kernel, by decide +kernel, by decide⟩
def yX8_comesOne : MethodName := ⟨RX8, "comesOne", "(I)Z"⟩
def tX8_comesOne : List (Nat × Instr) := [(0, .aload_n 0), (1, .getfield 40), (4, .iload_n 1), (5, .iconst 2), (6, .iadd), (7, .iaload), (8, .invokestatic 117), (11, .ifCond .eq 12), (14, .aload_n 0), (15, .getfield 72), (18, .bipush 6), (20, .if_icmp .ne 5), (23, .iconst 0), (24, .ireturn), (25, .aload_n 0), (26, .aload_n 0), (27, .getfield 40), (30, .iload_n 1), (31, .iaload), (32, .aload_n 0), (33, .getfield 40), (36, .iload_n 1), (37, .iconst 1), (38, .iadd), (39, .iaload), (40, .aload_n 0), (41, .getfield 40), (44, .iload_n 1), (45, .iconst 2), (46, .iadd), (47, .iaload), (48, .aload_n 0), (49, .getfield 40), (52, .iload_n 1), (53, .iconst 3), (54, .iadd), (55, .iaload), (56, .invokevirtual 120), (59, .iconst 1), (60, .ireturn)]
def mX8_comesOne : aM := (yX8_comesOne, prog_10_method_17_code, tX8_comesOne, 2, (some .boolean), flX8, ksX8)
theorem okX8_comesOne : aOK mX8_comesOne := ⟨by decide +kernel, flokX8, ksokX8, by decide⟩
theorem caX8_comesOne : aCal mX8_comesOne 1 := ⟨aBW_at 1105 (by decide +kernel) (by decide +kernel), iniX8, ⟨by decide +kernel, by decide +kernel⟩, by decide +kernel, by decide +kernel, by decide⟩
def yX8_comesDays : MethodName := ⟨RX8, "comesDays", "(I)Z"⟩
def tX8_comesDays : List (Nat × Instr) := [(0, .iload_n 1), (1, .iconst 1), (2, .bipush 60), (4, .invokestatic 97), (7, .ifCond .eq 15), (10, .aload_n 0), (11, .getfield 124), (14, .iload_n 1), (15, .iadd), (16, .sipush 999), (19, .if_icmp .le 5), (22, .iconst 0), (23, .ireturn), (24, .iconst 0), (25, .istore_n 2), (26, .iload_n 2), (27, .iload_n 1), (28, .if_icmp .ge 17), (31, .aload_n 0), (32, .bipush (-9)), (34, .bipush (-9)), (36, .invokevirtual 127), (39, .iinc 2 1), (42, .goto (-16)), (45, .iconst 1), (46, .ireturn)]
def mX8_comesDays : aM := (yX8_comesDays, prog_10_method_18_code, tX8_comesDays, 3, (some .boolean), flX8, ksX8)
theorem okX8_comesDays : aOK mX8_comesDays := ⟨by decide +kernel, flokX8, ksokX8, by decide⟩
theorem caX8_comesDays : aCal mX8_comesDays 1 := ⟨aBW_at 1124 (by decide +kernel) (by decide +kernel), iniX8, ⟨by decide +kernel, by decide +kernel⟩, by decide +kernel, by decide +kernel, by decide⟩
def yX8_comes : MethodName := ⟨RX8, "comes", "(I)Z"⟩
def tX8_comes : List (Nat × Instr) := [(0, .iconst 4), (1, .iload_n 1), (2, .imul), (3, .istore_n 2), (4, .aload_n 0), (5, .getfield 34), (8, .iload_n 1), (9, .iaload), (10, .lookupswitch 210 #[(97, 56), (107, 162), (108, 106), (112, 50), (115, 198)]), (60, .aload_n 0), (61, .iload_n 2), (62, .invokevirtual 131), (65, .ireturn), (66, .aload_n 0), (67, .aload_n 0), (68, .getfield 40), (71, .iload_n 2), (72, .iaload), (73, .invokevirtual 75), (76, .ifCond .eq 17), (79, .aload_n 0), (80, .getfield 40), (83, .iload_n 2), (84, .iconst 1), (85, .iadd), (86, .iaload), (87, .invokestatic 117), (90, .ifCond .ne 5), (93, .iconst 0), (94, .ireturn), (95, .aload_n 0), (96, .getfield 19), (99, .aload_n 0), (100, .getfield 40), (103, .iload_n 2), (104, .iaload), (105, .aload_n 0), (106, .getfield 40), (109, .iload_n 2), (110, .iconst 1), (111, .iadd), (112, .iaload), (113, .iastore), (114, .iconst 1), (115, .ireturn), (116, .aload_n 0), (117, .aload_n 0), (118, .getfield 40), (121, .iload_n 2), (122, .iaload), (123, .aload_n 0), (124, .getfield 40), (127, .iload_n 2), (128, .iconst 1), (129, .iadd), (130, .iaload), (131, .invokevirtual 134), (134, .ifCond .ne 5), (137, .iconst 0), (138, .ireturn), (139, .aload_n 0), (140, .getfield 28), (143, .bipush 7), (145, .aload_n 0), (146, .getfield 40), (149, .iload_n 2), (150, .iaload), (151, .imul), (152, .aload_n 0), (153, .getfield 40), (156, .iload_n 2), (157, .iconst 1), (158, .iadd), (159, .iaload), (160, .iadd), (161, .aload_n 0), (162, .getfield 40), (165, .iload_n 2), (166, .iconst 2), (167, .iadd), (168, .iaload), (169, .iastore), (170, .iconst 1), (171, .ireturn), (172, .aload_n 0), (173, .aload_n 0), (174, .getfield 40), (177, .iload_n 2), (178, .iaload), (179, .invokevirtual 75), (182, .ifCond .ne 5), (185, .iconst 0), (186, .ireturn), (187, .aload_n 0), (188, .getfield 25), (191, .aload_n 0), (192, .getfield 40), (195, .iload_n 2), (196, .iaload), (197, .aload_n 0), (198, .getfield 40), (201, .iload_n 2), (202, .iconst 1), (203, .iadd), (204, .iaload), (205, .iastore), (206, .iconst 1), (207, .ireturn), (208, .aload_n 0), (209, .aload_n 0), (210, .getfield 40), (213, .iload_n 2), (214, .iaload), (215, .putfield 67), (218, .iconst 1), (219, .ireturn), (220, .aload_n 0), (221, .aload_n 0), (222, .getfield 40), (225, .iload_n 2), (226, .iaload), (227, .invokevirtual 137), (230, .ireturn)]
def mX8_comes : aM := (yX8_comes, prog_10_method_19_code, tX8_comes, 3, (some .boolean), flX8, ksX8)
theorem okX8_comes : aOK mX8_comes := ⟨by decide +kernel, flokX8, ksokX8, by decide⟩
theorem caX8_comes : aCal mX8_comes 1 := ⟨aBW_at 1101 (by decide +kernel) (by decide +kernel), iniX8, ⟨by decide +kernel, by decide +kernel⟩, by decide +kernel, by decide +kernel, by decide⟩
def yX8_moor : MethodName := ⟨RX8, "moo\x72", "()I"⟩
def tX8_moor : List (Nat × Instr) := [(0, .aload_n 0), (1, .iconst 0), (2, .putfield 90), (5, .aload_n 0), (6, .iconst 0), (7, .putfield 111), (10, .iconst 1), (11, .istore_n 1), (12, .iload_n 1), (13, .ifCond .eq 47), (16, .aload_n 0), (17, .getfield 90), (20, .aload_n 0), (21, .getfield 83), (24, .if_icmp .lt 10), (27, .aload_n 0), (28, .getfield 111), (31, .ifCond .ne 29), (34, .aload_n 0), (35, .invokevirtual 140), (38, .istore_n 1), (39, .aload_n 0), (40, .dup), (41, .getfield 111), (44, .iload_n 1), (45, .ifCond .eq 7), (48, .iconst 1), (49, .goto 4), (52, .iconst 0), (53, .iadd), (54, .putfield 111), (57, .goto (-45)), (60, .aload_n 0), (61, .iconst 0), (62, .putfield 83), (65, .iload_n 1), (66, .ifCond .ne 12), (69, .sipush (-1000)), (72, .aload_n 0), (73, .getfield 90), (76, .isub), (77, .ireturn), (78, .aload_n 0), (79, .iconst 1), (80, .iconst 1), (81, .invokevirtual 144), (84, .iconst 0), (85, .istore_n 2), (86, .iload_n 2), (87, .aload_n 0), (88, .getfield 111), (91, .if_icmp .ge 37), (94, .aload_n 0), (95, .iload_n 2), (96, .invokevirtual 148), (99, .ifCond .eq 6), (102, .goto 20), (105, .aload_n 0), (106, .iconst 1), (107, .iconst 0), (108, .invokevirtual 144), (111, .sipush (-2000)), (114, .aload_n 0), (115, .getfield 37), (118, .iload_n 2), (119, .iaload), (120, .isub), (121, .ireturn), (122, .iinc 2 1), (125, .goto (-39)), (128, .aload_n 0), (129, .getfield 111), (132, .ireturn)]
def mX8_moor : aM := (yX8_moor, prog_10_method_20_code, tX8_moor, 3, (some .int), flX8, ksX8)
theorem okX8_moor : aOK mX8_moor := ⟨by decide +kernel, flokX8, ksokX8, by decide⟩
theorem caX8_moor : aCal mX8_moor 0 := ⟨aBW_at 1059 (by decide +kernel) (by decide +kernel), iniX8, ⟨by decide +kernel, by decide +kernel⟩, by decide +kernel, by decide +kernel, by decide⟩
def yX8_passes : MethodName := ⟨RX8, "passes", "([I)V"⟩
def tX8_passes : List (Nat × Instr) := [(0, .iconst 0), (1, .istore_n 2), (2, .iload_n 2), (3, .aload_n 1), (4, .arraylength), (5, .if_icmp .ge 53), (8, .aload_n 0), (9, .getfield 151), (12, .ifCond .eq 18), (15, .aload_n 0), (16, .getfield 43), (19, .aload_n 0), (20, .getfield 155), (23, .aload_n 1), (24, .iload_n 2), (25, .iaload), (26, .iastore), (27, .goto 15), (30, .aload_n 1), (31, .iload_n 2), (32, .aload_n 0), (33, .getfield 43), (36, .aload_n 0), (37, .getfield 155), (40, .iaload), (41, .iastore), (42, .aload_n 0), (43, .dup), (44, .getfield 155), (47, .iconst 1), (48, .iadd), (49, .putfield 155), (52, .iinc 2 1), (55, .goto (-53)), (58, .return_)]
def mX8_passes : aM := (yX8_passes, prog_10_method_21_code, tX8_passes, 3, none, flX8, ksX8)
theorem okX8_passes : aOK mX8_passes := ⟨by decide +kernel, flokX8, ksokX8, by decide⟩
theorem caX8_passes : aCal mX8_passes 1 := ⟨aBW_at 1093 (by decide +kernel) (by decide +kernel), iniX8, ⟨by decide +kernel, by decide +kernel⟩, by decide +kernel, by decide +kernel, by decide⟩
def yX8_passOne : MethodName := ⟨RX8, "passOne", "(I)I"⟩
def tX8_passOne : List (Nat × Instr) := [(0, .aload_n 0), (1, .getfield 151), (4, .ifCond .eq 7), (7, .iload_n 1), (8, .goto 12), (11, .aload_n 0), (12, .getfield 43), (15, .aload_n 0), (16, .getfield 155), (19, .iaload), (20, .istore_n 2), (21, .aload_n 0), (22, .getfield 151), (25, .ifCond .eq 13), (28, .aload_n 0), (29, .getfield 43), (32, .aload_n 0), (33, .getfield 155), (36, .iload_n 1), (37, .iastore), (38, .aload_n 0), (39, .dup), (40, .getfield 155), (43, .iconst 1), (44, .iadd), (45, .putfield 155), (48, .iload_n 2), (49, .ireturn)]
def mX8_passOne : aM := (yX8_passOne, prog_10_method_22_code, tX8_passOne, 3, (some .int), flX8, ksX8)
theorem okX8_passOne : aOK mX8_passOne := ⟨by decide +kernel, flokX8, ksokX8, by decide⟩
theorem caX8_passOne : aCal mX8_passOne 1 := ⟨aBW_at 1097 (by decide +kernel) (by decide +kernel), iniX8, ⟨by decide +kernel, by decide +kernel⟩, by decide +kernel, by decide +kernel, by decide⟩
def yX8_passesAll : MethodName := ⟨RX8, "passesAll", "(IZ)V"⟩
def tX8_passesAll : List (Nat × Instr) := [(0, .aload_n 0), (1, .bipush 90), (3, .iload_n 1), (4, .imul), (5, .putfield 155), (8, .aload_n 0), (9, .iload_n 2), (10, .putfield 151), (13, .aload_n 0), (14, .aload_n 0), (15, .getfield 13), (18, .invokevirtual 158), (21, .aload_n 0), (22, .aload_n 0), (23, .getfield 16), (26, .invokevirtual 158), (29, .aload_n 0), (30, .aload_n 0), (31, .getfield 19), (34, .invokevirtual 158), (37, .aload_n 0), (38, .aload_n 0), (39, .getfield 22), (42, .invokevirtual 158), (45, .aload_n 0), (46, .aload_n 0), (47, .getfield 25), (50, .invokevirtual 158), (53, .aload_n 0), (54, .aload_n 0), (55, .getfield 28), (58, .invokevirtual 158), (61, .aload_n 0), (62, .aload_n 0), (63, .aload_n 0), (64, .getfield 72), (67, .invokevirtual 162), (70, .putfield 72), (73, .aload_n 0), (74, .aload_n 0), (75, .aload_n 0), (76, .getfield 67), (79, .invokevirtual 162), (82, .putfield 67), (85, .aload_n 0), (86, .aload_n 0), (87, .aload_n 0), (88, .getfield 124), (91, .invokevirtual 162), (94, .putfield 124), (97, .return_)]
def mX8_passesAll : aM := (yX8_passesAll, prog_10_method_23_code, tX8_passesAll, 3, none, flX8, ksX8)
theorem okX8_passesAll : aOK mX8_passesAll := ⟨by decide +kernel, flokX8, ksokX8, by decide⟩
theorem caX8_passesAll : aCal mX8_passesAll 2 := ⟨aBW_at 1089 (by decide +kernel) (by decide +kernel), iniX8, ⟨by decide +kernel, by decide +kernel⟩, by decide +kernel, by decide +kernel, by decide⟩
def yX8_thinks : MethodName := ⟨RX8, "thinks", "()V"⟩
def tX8_thinks : List (Nat × Instr) := [(0, .aload_n 0), (1, .iconst 2), (2, .iconst 1), (3, .invokevirtual 144), (6, .return_)]
def mX8_thinks : aM := (yX8_thinks, prog_10_method_24_code, tX8_thinks, 1, none, flX8, ksX8)
theorem okX8_thinks : aOK mX8_thinks := ⟨by decide +kernel, flokX8, ksokX8, by decide⟩
theorem caX8_thinks : aCal mX8_thinks 0 := ⟨aBW_at 1229 (by decide +kernel) (by decide +kernel), iniX8, ⟨by decide +kernel, by decide +kernel⟩, by decide +kernel, by decide +kernel, by decide⟩
def yX8_forgets : MethodName := ⟨RX8, "forgets", "()V"⟩
def tX8_forgets : List (Nat × Instr) := [(0, .aload_n 0), (1, .iconst 2), (2, .iconst 0), (3, .invokevirtual 144), (6, .return_)]
def mX8_forgets : aM := (yX8_forgets, prog_10_method_25_code, tX8_forgets, 1, none, flX8, ksX8)
theorem okX8_forgets : aOK mX8_forgets := ⟨by decide +kernel, flokX8, ksokX8, by decide⟩
theorem caX8_forgets : aCal mX8_forgets 0 := ⟨aBW_at 1237 (by decide +kernel) (by decide +kernel), iniX8, ⟨by decide +kernel, by decide +kernel⟩, by decide +kernel, by decide +kernel, by decide⟩
def yX8_image : MethodName := ⟨RX8, "image", "()I"⟩
def tX8_image : List (Nat × Instr) := [(0, .aload_n 0), (1, .iconst 1), (2, .putfield 165), (5, .aload_n 0), (6, .iconst 0), (7, .iconst 1), (8, .invokevirtual 144), (11, .aload_n 0), (12, .getfield 124), (15, .ireturn)]
def mX8_image : aM := (yX8_image, prog_10_method_26_code, tX8_image, 1, (some .int), flX8, ksX8)
theorem okX8_image : aOK mX8_image := ⟨by decide +kernel, flokX8, ksokX8, by decide⟩
theorem caX8_image : aCal mX8_image 0 := ⟨aBW_at 1176 (by decide +kernel) (by decide +kernel), iniX8, ⟨by decide +kernel, by decide +kernel⟩, by decide +kernel, by decide +kernel, by decide⟩
def yX8_on : MethodName := ⟨RX8, "on", "()I"⟩
def tX8_on : List (Nat × Instr) := [(0, .aload_n 0), (1, .getfield 165), (4, .ifCond .ne 10), (7, .aload_n 0), (8, .bipush (-3)), (10, .invokevirtual 86), (13, .ireturn), (14, .aload_n 0), (15, .iconst 0), (16, .iconst 0), (17, .invokevirtual 144), (20, .aload_n 0), (21, .getfield 124), (24, .ireturn)]
def mX8_on : aM := (yX8_on, prog_10_method_27_code, tX8_on, 1, (some .int), flX8, ksX8)
theorem okX8_on : aOK mX8_on := ⟨by decide +kernel, flokX8, ksokX8, by decide⟩
theorem caX8_on : aCal mX8_on 0 := ⟨aBW_at 1180 (by decide +kernel) (by decide +kernel), iniX8, ⟨by decide +kernel, by decide +kernel⟩, by decide +kernel, by decide +kernel, by decide⟩
def yX8_adds : MethodName := ⟨RX8, "adds", "(IIII)V"⟩
def tX8_adds : List (Nat × Instr) := [(0, .aload_n 0), (1, .getfield 13), (4, .aload_n 0), (5, .getfield 72), (8, .iload_n 1), (9, .iastore), (10, .aload_n 0), (11, .getfield 16), (14, .aload_n 0), (15, .getfield 72), (18, .iload_n 2), (19, .iastore), (20, .aload_n 0), (21, .getfield 19), (24, .aload_n 0), (25, .getfield 72), (28, .iload_n 3), (29, .iastore), (30, .aload_n 0), (31, .getfield 22), (34, .aload_n 0), (35, .getfield 72), (38, .iload 4), (40, .iastore), (41, .aload_n 0), (42, .getfield 25), (45, .aload_n 0), (46, .getfield 72), (49, .iconst 0), (50, .iastore), (51, .iconst 0), (52, .istore 5), (54, .iload 5), (56, .bipush 7), (58, .if_icmp .ge 41), (61, .aload_n 0), (62, .getfield 28), (65, .bipush 7), (67, .aload_n 0), (68, .getfield 72), (71, .imul), (72, .iload 5), (74, .iadd), (75, .iconst 0), (76, .iastore), (77, .aload_n 0), (78, .getfield 28), (81, .bipush 7), (83, .iload 5), (85, .imul), (86, .aload_n 0), (87, .getfield 72), (90, .iadd), (91, .iconst 0), (92, .iastore), (93, .iinc 5 1), (96, .goto (-42)), (99, .aload_n 0), (100, .dup), (101, .getfield 72), (104, .iconst 1), (105, .iadd), (106, .putfield 72), (109, .return_)]
def mX8_adds : aM := (yX8_adds, prog_10_method_28_code, tX8_adds, 6, none, flX8, ksX8)
theorem okX8_adds : aOK mX8_adds := ⟨by decide +kernel, flokX8, ksokX8, by decide⟩
theorem caX8_adds : aCal mX8_adds 4 := ⟨aBW_at 1112 (by decide +kernel) (by decide +kernel), iniX8, ⟨by decide +kernel, by decide +kernel⟩, by decide +kernel, by decide +kernel, by decide⟩
def yX8_far : MethodName := ⟨RX8, "fa\x72", "(II)I"⟩
def tX8_far : List (Nat × Instr) := [(0, .iload_n 0), (1, .iload_n 1), (2, .if_icmp .le 9), (5, .iload_n 0), (6, .iload_n 1), (7, .isub), (8, .goto 6), (11, .iload_n 1), (12, .iload_n 0), (13, .isub), (14, .ireturn)]
def mX8_far : aM := (yX8_far, prog_10_method_29_code, tX8_far, 2, (some .int), flX8, ksX8)
theorem okX8_far : aOK mX8_far := ⟨by decide +kernel, flokX8, ksokX8, by decide⟩
theorem caX8_far : aCal mX8_far 2 := ⟨aBW_at 1157 (by decide +kernel) (by decide +kernel), iniX8, ⟨by decide +kernel, by decide +kernel⟩, by decide +kernel, by decide +kernel, by decide⟩
def yX8_steps : MethodName := ⟨RX8, "steps", "(II)I"⟩
def tX8_steps : List (Nat × Instr) := [(0, .iload_n 0), (1, .bipush 6), (3, .idiv), (4, .iload_n 1), (5, .bipush 6), (7, .idiv), (8, .invokestatic 168), (11, .iload_n 0), (12, .bipush 6), (14, .irem), (15, .iload_n 1), (16, .bipush 6), (18, .irem), (19, .invokestatic 168), (22, .iadd), (23, .ireturn)]
def mX8_steps : aM := (yX8_steps, prog_10_method_30_code, tX8_steps, 2, (some .int), flX8, ksX8)
theorem okX8_steps : aOK mX8_steps := ⟨by decide +kernel, flokX8, ksokX8, by decide⟩
theorem caX8_steps : aCal mX8_steps 2 := ⟨aBW_at 1154 (by decide +kernel) (by decide +kernel), iniX8, ⟨by decide +kernel, by decide +kernel⟩, by decide +kernel, by decide +kernel, by decide⟩
def yX8_isThere : MethodName := ⟨RX8, "isThere", "(I)Z"⟩
def tX8_isThere : List (Nat × Instr) := [(0, .iload_n 1), (1, .aload_n 0), (2, .getfield 72), (5, .if_icmp .ge 18), (8, .aload_n 0), (9, .getfield 172), (12, .iload_n 1), (13, .invokestatic 175), (16, .ifCond .ne 7), (19, .iconst 1), (20, .goto 4), (23, .iconst 0), (24, .ireturn)]
def mX8_isThere : aM := (yX8_isThere, prog_10_method_31_code, tX8_isThere, 2, (some .boolean), flX8, ksX8)
theorem okX8_isThere : aOK mX8_isThere := ⟨by decide +kernel, flokX8, ksokX8, by decide⟩
theorem caX8_isThere : aCal mX8_isThere 1 := ⟨aBW_at 1140 (by decide +kernel) (by decide +kernel), iniX8, ⟨by decide +kernel, by decide +kernel⟩, by decide +kernel, by decide +kernel, by decide⟩
def yX8_atLeast : MethodName := ⟨RX8, "atLeast", "(II)I"⟩
def tX8_atLeast : List (Nat × Instr) := [(0, .iload_n 0), (1, .iload_n 1), (2, .if_icmp .ge 7), (5, .iload_n 1), (6, .goto 4), (9, .iload_n 0), (10, .ireturn)]
def mX8_atLeast : aM := (yX8_atLeast, prog_10_method_32_code, tX8_atLeast, 2, (some .int), flX8, ksX8)
theorem okX8_atLeast : aOK mX8_atLeast := ⟨by decide +kernel, flokX8, ksokX8, by decide⟩
theorem caX8_atLeast : aCal mX8_atLeast 2 := ⟨aBW_at 1160 (by decide +kernel) (by decide +kernel), iniX8, ⟨by decide +kernel, by decide +kernel⟩, by decide +kernel, by decide +kernel, by decide⟩
def yX8_stepsOf : MethodName := ⟨RX8, "stepsOf", "(I)I"⟩
def tX8_stepsOf : List (Nat × Instr) := [(0, .iconst 0), (1, .istore_n 2), (2, .iconst 0), (3, .istore_n 3), (4, .iload_n 3), (5, .aload_n 0), (6, .getfield 72), (9, .if_icmp .ge 39), (12, .iload_n 2), (13, .aload_n 0), (14, .iload_n 3), (15, .invokevirtual 178), (18, .ifCond .eq 21), (21, .aload_n 0), (22, .getfield 19), (25, .iload_n 1), (26, .iaload), (27, .aload_n 0), (28, .getfield 19), (31, .iload_n 3), (32, .iaload), (33, .invokestatic 181), (36, .goto 4), (39, .iconst 0), (40, .iadd), (41, .istore_n 2), (42, .iinc 3 1), (45, .goto (-41)), (48, .iload_n 2), (49, .iconst 1), (50, .invokestatic 184), (53, .ireturn)]
def mX8_stepsOf : aM := (yX8_stepsOf, prog_10_method_33_code, tX8_stepsOf, 4, (some .int), flX8, ksX8)
theorem okX8_stepsOf : aOK mX8_stepsOf := ⟨by decide +kernel, flokX8, ksokX8, by decide⟩
theorem caX8_stepsOf : aCal mX8_stepsOf 1 := ⟨aBW_at 1151 (by decide +kernel) (by decide +kernel), iniX8, ⟨by decide +kernel, by decide +kernel⟩, by decide +kernel, by decide +kernel, by decide⟩
def yX8_isLonely : MethodName := ⟨RX8, "isLonely", "(I)Z"⟩
def tX8_isLonely : List (Nat × Instr) := [(0, .iconst 0), (1, .istore_n 2), (2, .iload_n 2), (3, .aload_n 0), (4, .getfield 72), (7, .if_icmp .ge 43), (10, .iload_n 2), (11, .iload_n 1), (12, .if_icmp .eq 32), (15, .aload_n 0), (16, .iload_n 2), (17, .invokevirtual 178), (20, .ifCond .eq 24), (23, .aload_n 0), (24, .getfield 19), (27, .iload_n 1), (28, .iaload), (29, .aload_n 0), (30, .getfield 19), (33, .iload_n 2), (34, .iaload), (35, .invokestatic 181), (38, .iconst 3), (39, .if_icmp .ge 5), (42, .iconst 0), (43, .ireturn), (44, .iinc 2 1), (47, .goto (-45)), (50, .iconst 1), (51, .ireturn)]
def mX8_isLonely : aM := (yX8_isLonely, prog_10_method_34_code, tX8_isLonely, 3, (some .boolean), flX8, ksX8)
theorem okX8_isLonely : aOK mX8_isLonely := ⟨by decide +kernel, flokX8, ksokX8, by decide⟩
theorem caX8_isLonely : aCal mX8_isLonely 1 := ⟨aBW_at 1164 (by decide +kernel) (by decide +kernel), iniX8, ⟨by decide +kernel, by decide +kernel⟩, by decide +kernel, by decide +kernel, by decide⟩
def yX8_weightOf : MethodName := ⟨RX8, "weightOf", "(I)I"⟩
def tX8_weightOf : List (Nat × Instr) := [(0, .aload_n 0), (1, .iload_n 1), (2, .invokevirtual 187), (5, .istore_n 2), (6, .aload_n 0), (7, .getfield 13), (10, .iload_n 1), (11, .iaload), (12, .tableswitch 82 0 4 #[36, 38, 47, 51, 59]), (48, .iload_n 2), (49, .ireturn), (50, .iload_n 2), (51, .aload_n 0), (52, .getfield 16), (55, .iload_n 1), (56, .iaload), (57, .iadd), (58, .ireturn), (59, .iconst 2), (60, .iload_n 2), (61, .imul), (62, .ireturn), (63, .iload_n 2), (64, .iconst 2), (65, .idiv), (66, .iconst 1), (67, .invokestatic 184), (70, .ireturn), (71, .iload_n 2), (72, .aload_n 0), (73, .getfield 16), (76, .iload_n 1), (77, .iaload), (78, .iadd), (79, .aload_n 0), (80, .iload_n 1), (81, .invokevirtual 190), (84, .ifCond .eq 7), (87, .iconst 5), (88, .goto 4), (91, .iconst 0), (92, .iadd), (93, .ireturn), (94, .iload_n 2), (95, .iconst 2), (96, .idiv), (97, .iconst 1), (98, .invokestatic 184), (101, .aload_n 0), (102, .getfield 16), (105, .iload_n 1), (106, .iaload), (107, .isub), (108, .iconst 1), (109, .invokestatic 184), (112, .ireturn)]
def mX8_weightOf : aM := (yX8_weightOf, prog_10_method_35_code, tX8_weightOf, 3, (some .int), flX8, ksX8)
theorem okX8_weightOf : aOK mX8_weightOf := ⟨by decide +kernel, flokX8, ksokX8, by decide⟩
theorem caX8_weightOf : aCal mX8_weightOf 1 := ⟨aBW_at 1147 (by decide +kernel) (by decide +kernel), iniX8, ⟨by decide +kernel, by decide +kernel⟩, by decide +kernel, by decide +kernel, by decide⟩
def yX8_allWeights : MethodName := ⟨RX8, "allWeights", "()I"⟩
def tX8_allWeights : List (Nat × Instr) := [(0, .iconst 0), (1, .istore_n 1), (2, .iconst 0), (3, .istore_n 2), (4, .iload_n 2), (5, .aload_n 0), (6, .getfield 72), (9, .if_icmp .ge 29), (12, .iload_n 1), (13, .aload_n 0), (14, .iload_n 2), (15, .invokevirtual 178), (18, .ifCond .eq 11), (21, .aload_n 0), (22, .iload_n 2), (23, .invokevirtual 193), (26, .goto 4), (29, .iconst 0), (30, .iadd), (31, .istore_n 1), (32, .iinc 2 1), (35, .goto (-31)), (38, .iload_n 1), (39, .ireturn)]
def mX8_allWeights : aM := (yX8_allWeights, prog_10_method_36_code, tX8_allWeights, 3, (some .int), flX8, ksX8)
theorem okX8_allWeights : aOK mX8_allWeights := ⟨by decide +kernel, flokX8, ksokX8, by decide⟩
theorem caX8_allWeights : aCal mX8_allWeights 0 := ⟨aBW_at 1136 (by decide +kernel) (by decide +kernel), iniX8, ⟨by decide +kernel, by decide +kernel⟩, by decide +kernel, by decide +kernel, by decide⟩
def yX8_findShares : MethodName := ⟨RX8, "findShares", "()V"⟩
def tX8_findShares : List (Nat × Instr) := [(0, .aload_n 0), (1, .invokevirtual 196), (4, .istore_n 1), (5, .aload_n 0), (6, .getfield 67), (9, .istore_n 2), (10, .iconst 0), (11, .istore_n 3), (12, .iload_n 3), (13, .aload_n 0), (14, .getfield 72), (17, .if_icmp .ge 48), (20, .aload_n 0), (21, .getfield 46), (24, .iload_n 3), (25, .aload_n 0), (26, .iload_n 3), (27, .invokevirtual 178), (30, .ifCond .eq 18), (33, .aload_n 0), (34, .getfield 67), (37, .aload_n 0), (38, .iload_n 3), (39, .invokevirtual 193), (42, .imul), (43, .iload_n 1), (44, .idiv), (45, .goto 4), (48, .iconst 0), (49, .iastore), (50, .iload_n 2), (51, .aload_n 0), (52, .getfield 46), (55, .iload_n 3), (56, .iaload), (57, .isub), (58, .istore_n 2), (59, .iinc 3 1), (62, .goto (-50)), (65, .iconst 0), (66, .istore_n 3), (67, .iload_n 3), (68, .aload_n 0), (69, .getfield 72), (72, .if_icmp .ge 37), (75, .iload_n 2), (76, .ifCond .le 33), (79, .aload_n 0), (80, .iload_n 3), (81, .invokevirtual 178), (84, .ifCond .ne 6), (87, .goto 16), (90, .aload_n 0), (91, .getfield 46), (94, .iload_n 3), (95, .dup2), (96, .iaload), (97, .iconst 1), (98, .iadd), (99, .iastore), (100, .iinc 2 (-1)), (103, .iinc 3 1), (106, .goto (-39)), (109, .return_)]
def mX8_findShares : aM := (yX8_findShares, prog_10_method_37_code, tX8_findShares, 4, none, flX8, ksX8)
theorem okX8_findShares : aOK mX8_findShares := ⟨by decide +kernel, flokX8, ksokX8, by decide⟩
theorem caX8_findShares : aCal mX8_findShares 0 := ⟨aBW_at 1132 (by decide +kernel) (by decide +kernel), iniX8, ⟨by decide +kernel, by decide +kernel⟩, by decide +kernel, by decide +kernel, by decide⟩
def yX8_netOf : MethodName := ⟨RX8, "netOf", "(I)I"⟩
def tX8_netOf : List (Nat × Instr) := [(0, .iconst 0), (1, .istore_n 2), (2, .iconst 0), (3, .istore_n 3), (4, .iload_n 3), (5, .aload_n 0), (6, .getfield 72), (9, .if_icmp .ge 47), (12, .iload_n 2), (13, .aload_n 0), (14, .iload_n 3), (15, .invokevirtual 178), (18, .ifCond .eq 29), (21, .aload_n 0), (22, .getfield 28), (25, .bipush 7), (27, .iload_n 1), (28, .imul), (29, .iload_n 3), (30, .iadd), (31, .iaload), (32, .aload_n 0), (33, .getfield 28), (36, .bipush 7), (38, .iload_n 3), (39, .imul), (40, .iload_n 1), (41, .iadd), (42, .iaload), (43, .isub), (44, .goto 4), (47, .iconst 0), (48, .iadd), (49, .istore_n 2), (50, .iinc 3 1), (53, .goto (-49)), (56, .iload_n 2), (57, .ireturn)]
def mX8_netOf : aM := (yX8_netOf, prog_10_method_38_code, tX8_netOf, 4, (some .int), flX8, ksX8)
theorem okX8_netOf : aOK mX8_netOf := ⟨by decide +kernel, flokX8, ksokX8, by decide⟩
theorem caX8_netOf : aCal mX8_netOf 1 := ⟨aBW_at 1172 (by decide +kernel) (by decide +kernel), iniX8, ⟨by decide +kernel, by decide +kernel⟩, by decide +kernel, by decide +kernel, by decide⟩
def yX8_hasNow : MethodName := ⟨RX8, "hasNow", "(I)I"⟩
def tX8_hasNow : List (Nat × Instr) := [(0, .aload_n 0), (1, .getfield 46), (4, .iload_n 1), (5, .iaload), (6, .aload_n 0), (7, .iload_n 1), (8, .invokevirtual 199), (11, .isub), (12, .ireturn)]
def mX8_hasNow : aM := (yX8_hasNow, prog_10_method_39_code, tX8_hasNow, 2, (some .int), flX8, ksX8)
theorem okX8_hasNow : aOK mX8_hasNow := ⟨by decide +kernel, flokX8, ksokX8, by decide⟩
theorem caX8_hasNow : aCal mX8_hasNow 1 := ⟨aBW_at 1168 (by decide +kernel) (by decide +kernel), iniX8, ⟨by decide +kernel, by decide +kernel⟩, by decide +kernel, by decide +kernel, by decide⟩
def yX8_goesDay : MethodName := ⟨RX8, "goesDay", "(II)V"⟩
def tX8_goesDay : List (Nat × Instr) := [(0, .aload_n 0), (1, .dup), (2, .getfield 124), (5, .iconst 1), (6, .iadd), (7, .putfield 124), (10, .iload_n 1), (11, .ifCond .lt 18), (14, .aload_n 0), (15, .getfield 124), (18, .bipush 7), (20, .irem), (21, .iconst 1), (22, .if_icmp .ne 7), (25, .iconst 1), (26, .goto 4), (29, .iconst 0), (30, .istore_n 3), (31, .iload_n 3), (32, .ifCond .eq 12), (35, .aload_n 0), (36, .getfield 19), (39, .iload_n 2), (40, .iaload), (41, .goto 4), (44, .iconst 0), (45, .istore 4), (47, .iload_n 3), (48, .ifCond .eq 15), (51, .aload_n 0), (52, .getfield 19), (55, .iload_n 2), (56, .aload_n 0), (57, .getfield 19), (60, .iload_n 1), (61, .iaload), (62, .iastore), (63, .aload_n 0), (64, .invokevirtual 202), (67, .iload_n 3), (68, .ifCond .eq 11), (71, .aload_n 0), (72, .getfield 19), (75, .iload_n 2), (76, .iload 4), (78, .iastore), (79, .aload_n 0), (80, .iconst 0), (81, .putfield 205), (84, .iconst 0), (85, .istore 5), (87, .iload 5), (89, .aload_n 0), (90, .getfield 72), (93, .if_icmp .ge 104), (96, .aload_n 0), (97, .getfield 25), (100, .iload 5), (102, .iaload), (103, .aload_n 0), (104, .iload 5), (106, .invokevirtual 208), (109, .iadd), (110, .aload_n 0), (111, .getfield 22), (114, .iload 5), (116, .iaload), (117, .isub), (118, .istore 6), (120, .aload_n 0), (121, .getfield 49), (124, .iload 5), (126, .dup2), (127, .iaload), (128, .iload 6), (130, .ifCond .ge 7), (133, .iconst 1), (134, .goto 4), (137, .iconst 0), (138, .iadd), (139, .iastore), (140, .aload_n 0), (141, .dup), (142, .getfield 205), (145, .iload 6), (147, .ifCond .ge 7), (150, .iconst 1), (151, .goto 4), (154, .iconst 0), (155, .iadd), (156, .putfield 205), (159, .aload_n 0), (160, .getfield 25), (163, .iload 5), (165, .iload 6), (167, .ifCond .ge 7), (170, .iconst 0), (171, .goto 19), (174, .iload 6), (176, .sipush 9999), (179, .if_icmp .le 9), (182, .sipush 9999), (185, .goto 5), (188, .iload 6), (190, .iastore), (191, .iinc 5 1), (194, .goto (-107)), (197, .return_)]
def mX8_goesDay : aM := (yX8_goesDay, prog_10_method_40_code, tX8_goesDay, 7, none, flX8, ksX8)
theorem okX8_goesDay : aOK mX8_goesDay := ⟨by decide +kernel, flokX8, ksokX8, by decide⟩
theorem caX8_goesDay : aCal mX8_goesDay 2 := ⟨aBW_at 1128 (by decide +kernel) (by decide +kernel), iniX8, ⟨by decide +kernel, by decide +kernel⟩, by decide +kernel, by decide +kernel, by decide⟩
def yX8_person : MethodName := ⟨RX8, "person", "(II)I"⟩
def tX8_person : List (Nat × Instr) := [(0, .aload_n 0), (1, .iload_n 1), (2, .invokevirtual 75), (5, .ifCond .ne 9), (8, .aload_n 0), (9, .iconst (-1)), (10, .invokevirtual 86), (13, .ireturn), (14, .iload_n 2), (15, .tableswitch 93 0 6 #[41, 48, 55, 62, 69, 76, 82]), (56, .aload_n 0), (57, .getfield 13), (60, .iload_n 1), (61, .iaload), (62, .ireturn), (63, .aload_n 0), (64, .getfield 16), (67, .iload_n 1), (68, .iaload), (69, .ireturn), (70, .aload_n 0), (71, .getfield 19), (74, .iload_n 1), (75, .iaload), (76, .ireturn), (77, .aload_n 0), (78, .getfield 22), (81, .iload_n 1), (82, .iaload), (83, .ireturn), (84, .aload_n 0), (85, .getfield 25), (88, .iload_n 1), (89, .iaload), (90, .ireturn), (91, .aload_n 0), (92, .iload_n 1), (93, .invokevirtual 193), (96, .ireturn), (97, .aload_n 0), (98, .invokevirtual 202), (101, .aload_n 0), (102, .getfield 46), (105, .iload_n 1), (106, .iaload), (107, .ireturn), (108, .aload_n 0), (109, .bipush (-2)), (111, .invokevirtual 86), (114, .ireturn)]
def mX8_person : aM := (yX8_person, prog_10_method_41_code, tX8_person, 3, (some .int), flX8, ksX8)
theorem okX8_person : aOK mX8_person := ⟨by decide +kernel, flokX8, ksokX8, by decide⟩
theorem caX8_person : aCal mX8_person 2 := ⟨aBW_at 1184 (by decide +kernel) (by decide +kernel), iniX8, ⟨by decide +kernel, by decide +kernel⟩, by decide +kernel, by decide +kernel, by decide⟩
def yX8_owns : MethodName := ⟨RX8, "owns", "(I)I"⟩
def tX8_owns : List (Nat × Instr) := [(0, .aload_n 0), (1, .iload_n 1), (2, .invokevirtual 75), (5, .ifCond .ne 9), (8, .aload_n 0), (9, .iconst (-1)), (10, .invokevirtual 211), (13, .ireturn), (14, .aload_n 0), (15, .invokevirtual 202), (18, .aload_n 0), (19, .iload_n 1), (20, .invokevirtual 208), (23, .ireturn)]
def mX8_owns : aM := (yX8_owns, prog_10_method_42_code, tX8_owns, 2, (some .int), flX8, ksX8)
theorem okX8_owns : aOK mX8_owns := ⟨by decide +kernel, flokX8, ksokX8, by decide⟩
theorem caX8_owns : aCal mX8_owns 1 := ⟨aBW_at 1188 (by decide +kernel) (by decide +kernel), iniX8, ⟨by decide +kernel, by decide +kernel⟩, by decide +kernel, by decide +kernel, by decide⟩
def yX8_loan : MethodName := ⟨RX8, "loan", "(II)I"⟩
def tX8_loan : List (Nat × Instr) := [(0, .aload_n 0), (1, .iload_n 1), (2, .iload_n 2), (3, .invokevirtual 134), (6, .ifCond .eq 17), (9, .aload_n 0), (10, .getfield 28), (13, .bipush 7), (15, .iload_n 1), (16, .imul), (17, .iload_n 2), (18, .iadd), (19, .iaload), (20, .goto 8), (23, .aload_n 0), (24, .iconst (-1)), (25, .invokevirtual 86), (28, .ireturn)]
def mX8_loan : aM := (yX8_loan, prog_10_method_43_code, tX8_loan, 3, (some .int), flX8, ksX8)
theorem okX8_loan : aOK mX8_loan := ⟨by decide +kernel, flokX8, ksokX8, by decide⟩
theorem caX8_loan : aCal mX8_loan 2 := ⟨aBW_at 1197 (by decide +kernel) (by decide +kernel), iniX8, ⟨by decide +kernel, by decide +kernel⟩, by decide +kernel, by decide +kernel, by decide⟩
def yX8_go : MethodName := ⟨RX8, "go", "(II)I"⟩
def tX8_go : List (Nat × Instr) := [(0, .aload_n 0), (1, .iload_n 1), (2, .invokevirtual 75), (5, .ifCond .eq 10), (8, .iload_n 2), (9, .invokestatic 117), (12, .ifCond .ne 9), (15, .aload_n 0), (16, .iconst (-1)), (17, .invokevirtual 86), (20, .ireturn), (21, .aload_n 0), (22, .getfield 19), (25, .iload_n 1), (26, .iaload), (27, .istore_n 3), (28, .aload_n 0), (29, .getfield 19), (32, .iload_n 1), (33, .iload_n 2), (34, .iastore), (35, .iload_n 3), (36, .ireturn)]
def mX8_go : aM := (yX8_go, prog_10_method_44_code, tX8_go, 4, (some .int), flX8, ksX8)
theorem okX8_go : aOK mX8_go := ⟨by decide +kernel, flokX8, ksokX8, by decide⟩
theorem caX8_go : aCal mX8_go 2 := ⟨aBW_at 1201 (by decide +kernel) (by decide +kernel), iniX8, ⟨by decide +kernel, by decide +kernel⟩, by decide +kernel, by decide +kernel, by decide⟩
def yX8_lend : MethodName := ⟨RX8, "lend", "(III)I"⟩
def tX8_lend : List (Nat × Instr) := [(0, .aload_n 0), (1, .iload_n 1), (2, .iload_n 2), (3, .invokevirtual 134), (6, .ifCond .ne 7), (9, .iconst (-1)), (10, .goto 10), (13, .iload_n 3), (14, .iconst 0), (15, .bipush 99), (17, .invokestatic 79), (20, .istore 4), (22, .iload 4), (24, .ifCond .eq 10), (27, .aload_n 0), (28, .iload 4), (30, .invokevirtual 86), (33, .ireturn), (34, .aload_n 0), (35, .getfield 28), (38, .bipush 7), (40, .iload_n 1), (41, .imul), (42, .iload_n 2), (43, .iadd), (44, .iaload), (45, .istore 5), (47, .aload_n 0), (48, .getfield 28), (51, .bipush 7), (53, .iload_n 1), (54, .imul), (55, .iload_n 2), (56, .iadd), (57, .iload_n 3), (58, .iastore), (59, .iload 5), (61, .ireturn)]
def mX8_lend : aM := (yX8_lend, prog_10_method_45_code, tX8_lend, 6, (some .int), flX8, ksX8)
theorem okX8_lend : aOK mX8_lend := ⟨by decide +kernel, flokX8, ksokX8, by decide⟩
theorem caX8_lend : aCal mX8_lend 3 := ⟨aBW_at 1205 (by decide +kernel) (by decide +kernel), iniX8, ⟨by decide +kernel, by decide +kernel⟩, by decide +kernel, by decide +kernel, by decide⟩
def yX8_keep : MethodName := ⟨RX8, "keep", "(II)I"⟩
def tX8_keep : List (Nat × Instr) := [(0, .aload_n 0), (1, .iload_n 1), (2, .invokevirtual 75), (5, .ifCond .ne 7), (8, .iconst (-1)), (9, .goto 11), (12, .iload_n 2), (13, .iconst 0), (14, .sipush 9999), (17, .invokestatic 79), (20, .istore_n 3), (21, .iload_n 3), (22, .ifCond .eq 9), (25, .aload_n 0), (26, .iload_n 3), (27, .invokevirtual 86), (30, .ireturn), (31, .aload_n 0), (32, .getfield 25), (35, .iload_n 1), (36, .iaload), (37, .istore 4), (39, .aload_n 0), (40, .getfield 25), (43, .iload_n 1), (44, .iload_n 2), (45, .iastore), (46, .iload 4), (48, .ireturn)]
def mX8_keep : aM := (yX8_keep, prog_10_method_46_code, tX8_keep, 5, (some .int), flX8, ksX8)
theorem okX8_keep : aOK mX8_keep := ⟨by decide +kernel, flokX8, ksokX8, by decide⟩
theorem caX8_keep : aCal mX8_keep 2 := ⟨aBW_at 1209 (by decide +kernel) (by decide +kernel), iniX8, ⟨by decide +kernel, by decide +kernel⟩, by decide +kernel, by decide +kernel, by decide⟩
def yX8_need : MethodName := ⟨RX8, "need", "(II)I"⟩
def tX8_need : List (Nat × Instr) := [(0, .aload_n 0), (1, .iload_n 1), (2, .invokevirtual 75), (5, .ifCond .ne 7), (8, .iconst (-1)), (9, .goto 10), (12, .iload_n 2), (13, .iconst 0), (14, .bipush 99), (16, .invokestatic 79), (19, .istore_n 3), (20, .iload_n 3), (21, .ifCond .eq 9), (24, .aload_n 0), (25, .iload_n 3), (26, .invokevirtual 86), (29, .ireturn), (30, .aload_n 0), (31, .getfield 22), (34, .iload_n 1), (35, .iaload), (36, .istore 4), (38, .aload_n 0), (39, .getfield 22), (42, .iload_n 1), (43, .iload_n 2), (44, .iastore), (45, .iload 4), (47, .ireturn)]
def mX8_need : aM := (yX8_need, prog_10_method_47_code, tX8_need, 5, (some .int), flX8, ksX8)
theorem okX8_need : aOK mX8_need := ⟨by decide +kernel, flokX8, ksokX8, by decide⟩
theorem caX8_need : aCal mX8_need 2 := ⟨aBW_at 1213 (by decide +kernel) (by decide +kernel), iniX8, ⟨by decide +kernel, by decide +kernel⟩, by decide +kernel, by decide +kernel, by decide⟩
def yX8_sum : MethodName := ⟨RX8, "sum", "(I)I"⟩
def tX8_sum : List (Nat × Instr) := [(0, .iload_n 1), (1, .iconst 0), (2, .sipush 999), (5, .invokestatic 79), (8, .istore_n 2), (9, .iload_n 2), (10, .ifCond .eq 9), (13, .aload_n 0), (14, .iload_n 2), (15, .invokevirtual 86), (18, .ireturn), (19, .aload_n 0), (20, .getfield 67), (23, .istore_n 3), (24, .aload_n 0), (25, .iload_n 1), (26, .putfield 67), (29, .iload_n 3), (30, .ireturn)]
def mX8_sum : aM := (yX8_sum, prog_10_method_48_code, tX8_sum, 4, (some .int), flX8, ksX8)
theorem okX8_sum : aOK mX8_sum := ⟨by decide +kernel, flokX8, ksokX8, by decide⟩
theorem caX8_sum : aCal mX8_sum 1 := ⟨aBW_at 1217 (by decide +kernel) (by decide +kernel), iniX8, ⟨by decide +kernel, by decide +kernel⟩, by decide +kernel, by decide +kernel, by decide⟩
def yX8_days : MethodName := ⟨RX8, "days", "(I)I"⟩
def tX8_days : List (Nat × Instr) := [(0, .iload_n 1), (1, .iconst 1), (2, .bipush 60), (4, .invokestatic 79), (7, .istore_n 2), (8, .iload_n 2), (9, .ifCond .ne 18), (12, .aload_n 0), (13, .getfield 124), (16, .iload_n 1), (17, .iadd), (18, .sipush 999), (21, .if_icmp .le 6), (24, .bipush (-6)), (26, .istore_n 2), (27, .iload_n 2), (28, .ifCond .eq 9), (31, .aload_n 0), (32, .iload_n 2), (33, .invokevirtual 86), (36, .ireturn), (37, .iconst 0), (38, .istore_n 3), (39, .iload_n 3), (40, .iload_n 1), (41, .if_icmp .ge 17), (44, .aload_n 0), (45, .bipush (-9)), (47, .bipush (-9)), (49, .invokevirtual 127), (52, .iinc 3 1), (55, .goto (-16)), (58, .aload_n 0), (59, .getfield 205), (62, .ireturn)]
def mX8_days : aM := (yX8_days, prog_10_method_49_code, tX8_days, 4, (some .int), flX8, ksX8)
theorem okX8_days : aOK mX8_days := ⟨by decide +kernel, flokX8, ksokX8, by decide⟩
theorem caX8_days : aCal mX8_days 1 := ⟨aBW_at 1221 (by decide +kernel) (by decide +kernel), iniX8, ⟨by decide +kernel, by decide +kernel⟩, by decide +kernel, by decide +kernel, by decide⟩
def yX8_noShorts : MethodName := ⟨RX8, "noShorts", "()V"⟩
def tX8_noShorts : List (Nat × Instr) := [(0, .iconst 0), (1, .istore_n 1), (2, .iload_n 1), (3, .bipush 7), (5, .if_icmp .ge 16), (8, .aload_n 0), (9, .getfield 49), (12, .iload_n 1), (13, .iconst 0), (14, .iastore), (15, .iinc 1 1), (18, .goto (-16)), (21, .return_)]
def mX8_noShorts : aM := (yX8_noShorts, prog_10_method_50_code, tX8_noShorts, 2, none, flX8, ksX8)
theorem okX8_noShorts : aOK mX8_noShorts := ⟨by decide +kernel, flokX8, ksokX8, by decide⟩
theorem caX8_noShorts : aCal mX8_noShorts 0 := ⟨aBW_at 1233 (by decide +kernel) (by decide +kernel), iniX8, ⟨by decide +kernel, by decide +kernel⟩, by decide +kernel, by decide +kernel, by decide⟩
def yX8_behind : MethodName := ⟨RX8, "behind", "(III)I"⟩
def tX8_behind : List (Nat × Instr) := [(0, .aload_n 0), (1, .iload_n 1), (2, .invokevirtual 75), (5, .ifCond .ne 7), (8, .iconst (-1)), (9, .goto 10), (12, .iload_n 2), (13, .iconst 0), (14, .bipush 99), (16, .invokestatic 79), (19, .istore 4), (21, .iload 4), (23, .ifCond .ne 16), (26, .iload_n 3), (27, .iconst 0), (28, .iconst 1), (29, .invokestatic 97), (32, .ifCond .ne 7), (35, .bipush (-2)), (37, .istore 4), (39, .iload 4), (41, .ifCond .eq 10), (44, .aload_n 0), (45, .iload 4), (47, .invokevirtual 86), (50, .ireturn), (51, .aload_n 0), (52, .invokevirtual 214), (55, .aload_n 0), (56, .invokevirtual 217), (59, .iconst 0), (60, .istore 5), (62, .iload 5), (64, .iload_n 2), (65, .if_icmp .ge 17), (68, .aload_n 0), (69, .bipush (-9)), (71, .bipush (-9)), (73, .invokevirtual 127), (76, .iinc 5 1), (79, .goto (-17)), (82, .iload_n 3), (83, .ifCond .ne 12), (86, .aload_n 0), (87, .getfield 25), (90, .iload_n 1), (91, .iaload), (92, .goto 9), (95, .aload_n 0), (96, .getfield 49), (99, .iload_n 1), (100, .iaload), (101, .istore 5), (103, .aload_n 0), (104, .invokevirtual 220), (107, .iload 5), (109, .ireturn)]
def mX8_behind : aM := (yX8_behind, prog_10_method_51_code, tX8_behind, 6, (some .int), flX8, ksX8)
theorem okX8_behind : aOK mX8_behind := ⟨by decide +kernel, flokX8, ksokX8, by decide⟩
theorem caX8_behind : aCal mX8_behind 3 := ⟨aBW_at 1225 (by decide +kernel) (by decide +kernel), iniX8, ⟨by decide +kernel, by decide +kernel⟩, by decide +kernel, by decide +kernel, by decide⟩
def yX8_shortOn : MethodName := ⟨RX8, "shortOn", "(I)I"⟩
def tX8_shortOn : List (Nat × Instr) := [(0, .aload_n 0), (1, .invokevirtual 214), (4, .aload_n 0), (5, .invokevirtual 217), (8, .bipush (-9)), (10, .istore_n 2), (11, .iconst 1), (12, .istore_n 3), (13, .iload_n 3), (14, .bipush 99), (16, .if_icmp .gt 37), (19, .iload_n 2), (20, .ifCond .ge 33), (23, .aload_n 0), (24, .bipush (-9)), (26, .bipush (-9)), (28, .invokevirtual 127), (31, .aload_n 0), (32, .getfield 49), (35, .iload_n 1), (36, .iaload), (37, .ifCond .le 7), (40, .iload_n 3), (41, .goto 5), (44, .bipush (-9)), (46, .istore_n 2), (47, .iinc 3 1), (50, .goto (-37)), (53, .aload_n 0), (54, .invokevirtual 220), (57, .iload_n 2), (58, .ireturn)]
def mX8_shortOn : aM := (yX8_shortOn, prog_10_method_52_code, tX8_shortOn, 4, (some .int), flX8, ksX8)
theorem okX8_shortOn : aOK mX8_shortOn := ⟨by decide +kernel, flokX8, ksokX8, by decide⟩
theorem caX8_shortOn : aCal mX8_shortOn 1 := ⟨aBW_at 1245 (by decide +kernel) (by decide +kernel), iniX8, ⟨by decide +kernel, by decide +kernel⟩, by decide +kernel, by decide +kernel, by decide⟩
def yX8_firstShort : MethodName := ⟨RX8, "firstShort", "(I)I"⟩
def tX8_firstShort : List (Nat × Instr) := [(0, .iload_n 1), (1, .iconst 0), (2, .iconst 1), (3, .invokestatic 97), (6, .ifCond .ne 10), (9, .aload_n 0), (10, .bipush (-2)), (12, .invokevirtual 86), (15, .ireturn), (16, .bipush (-9)), (18, .istore_n 2), (19, .bipush (-9)), (21, .istore_n 3), (22, .iconst 0), (23, .istore 4), (25, .iload 4), (27, .aload_n 0), (28, .getfield 72), (31, .if_icmp .ge 41), (34, .aload_n 0), (35, .iload 4), (37, .invokevirtual 223), (40, .istore 5), (42, .iload 5), (44, .ifCond .lt 22), (47, .iload_n 2), (48, .ifCond .lt 12), (51, .iload 5), (53, .iload_n 3), (54, .if_icmp .lt 6), (57, .goto 9), (60, .iload 4), (62, .istore_n 2), (63, .iload 5), (65, .istore_n 3), (66, .iinc 4 1), (69, .goto (-44)), (72, .iload_n 1), (73, .ifCond .ne 7), (76, .iload_n 3), (77, .goto 4), (80, .iload_n 2), (81, .ireturn)]
def mX8_firstShort : aM := (yX8_firstShort, prog_10_method_53_code, tX8_firstShort, 6, (some .int), flX8, ksX8)
theorem okX8_firstShort : aOK mX8_firstShort := ⟨by decide +kernel, flokX8, ksokX8, by decide⟩
theorem caX8_firstShort : aCal mX8_firstShort 1 := ⟨aBW_at 1241 (by decide +kernel) (by decide +kernel), iniX8, ⟨by decide +kernel, by decide +kernel⟩, by decide +kernel, by decide +kernel, by decide⟩
def yX8_lasts : MethodName := ⟨RX8, "lasts", "(I)I"⟩
def tX8_lasts : List (Nat × Instr) := [(0, .aload_n 0), (1, .iload_n 1), (2, .invokevirtual 75), (5, .ifCond .ne 9), (8, .aload_n 0), (9, .iconst (-1)), (10, .invokevirtual 86), (13, .ireturn), (14, .aload_n 0), (15, .iload_n 1), (16, .invokevirtual 223), (19, .istore_n 2), (20, .iload_n 2), (21, .ifCond .ge 8), (24, .bipush 99), (26, .goto 6), (29, .iload_n 2), (30, .iconst 1), (31, .isub), (32, .ireturn)]
def mX8_lasts : aM := (yX8_lasts, prog_10_method_54_code, tX8_lasts, 3, (some .int), flX8, ksX8)
theorem okX8_lasts : aOK mX8_lasts := ⟨by decide +kernel, flokX8, ksokX8, by decide⟩
theorem caX8_lasts : aCal mX8_lasts 1 := ⟨aBW_at 1249 (by decide +kernel) (by decide +kernel), iniX8, ⟨by decide +kernel, by decide +kernel⟩, by decide +kernel, by decide +kernel, by decide⟩
def yX8_leastOfOthers : MethodName := ⟨RX8, "leastOfOthers", "(I)I"⟩
def tX8_leastOfOthers : List (Nat × Instr) := [(0, .sipush 1000), (3, .istore_n 2), (4, .iconst 0), (5, .istore_n 3), (6, .iload_n 3), (7, .aload_n 0), (8, .getfield 72), (11, .if_icmp .ge 35), (14, .iload_n 3), (15, .iload_n 1), (16, .if_icmp .eq 22), (19, .aload_n 0), (20, .getfield 46), (23, .iload_n 3), (24, .iaload), (25, .iload_n 2), (26, .if_icmp .ge 12), (29, .aload_n 0), (30, .getfield 46), (33, .iload_n 3), (34, .iaload), (35, .goto 4), (38, .iload_n 2), (39, .istore_n 2), (40, .iinc 3 1), (43, .goto (-37)), (46, .iload_n 2), (47, .ireturn)]
def mX8_leastOfOthers : aM := (yX8_leastOfOthers, prog_10_method_55_code, tX8_leastOfOthers, 4, (some .int), flX8, ksX8)
theorem okX8_leastOfOthers : aOK mX8_leastOfOthers := ⟨by decide +kernel, flokX8, ksokX8, by decide⟩
theorem caX8_leastOfOthers : aCal mX8_leastOfOthers 1 := ⟨aBW_at 1257 (by decide +kernel) (by decide +kernel), iniX8, ⟨by decide +kernel, by decide +kernel⟩, by decide +kernel, by decide +kernel, by decide⟩
def yX8_bestCell : MethodName := ⟨RX8, "bestCell", "(II)I"⟩
def tX8_bestCell : List (Nat × Instr) := [(0, .aload_n 0), (1, .iload_n 1), (2, .invokevirtual 75), (5, .ifCond .ne 7), (8, .iconst (-1)), (9, .goto 18), (12, .iload_n 2), (13, .iconst 0), (14, .iconst 2), (15, .invokestatic 97), (18, .ifCond .ne 8), (21, .bipush (-2)), (23, .goto 4), (26, .iconst 0), (27, .istore_n 3), (28, .iload_n 3), (29, .ifCond .eq 9), (32, .aload_n 0), (33, .iload_n 3), (34, .invokevirtual 86), (37, .ireturn), (38, .aload_n 0), (39, .getfield 19), (42, .iload_n 1), (43, .iaload), (44, .istore 4), (46, .iconst 0), (47, .istore 5), (49, .bipush (-9)), (51, .istore 6), (53, .iconst 0), (54, .istore 7), (56, .iload 7), (58, .bipush 36), (60, .if_icmp .ge 60), (63, .aload_n 0), (64, .getfield 19), (67, .iload_n 1), (68, .iload 7), (70, .iastore), (71, .aload_n 0), (72, .invokevirtual 202), (75, .iload_n 2), (76, .iconst 2), (77, .if_icmp .ne 11), (80, .aload_n 0), (81, .iload_n 1), (82, .invokevirtual 226), (85, .goto 9), (88, .aload_n 0), (89, .getfield 46), (92, .iload_n 1), (93, .iaload), (94, .istore 8), (96, .iload 8), (98, .iload 6), (100, .if_icmp .gt 6), (103, .goto 11), (106, .iload 7), (108, .istore 5), (110, .iload 8), (112, .istore 6), (114, .iinc 7 1), (117, .goto (-61)), (120, .aload_n 0), (121, .getfield 19), (124, .iload_n 1), (125, .iload 4), (127, .iastore), (128, .iload_n 2), (129, .iconst 1), (130, .if_icmp .ne 8), (133, .iload 6), (135, .goto 5), (138, .iload 5), (140, .ireturn)]
def mX8_bestCell : aM := (yX8_bestCell, prog_10_method_56_code, tX8_bestCell, 9, (some .int), flX8, ksX8)
theorem okX8_bestCell : aOK mX8_bestCell := ⟨by decide +kernel, flokX8, ksokX8, by decide⟩
theorem caX8_bestCell : aCal mX8_bestCell 2 := ⟨aBW_at 1253 (by decide +kernel) (by decide +kernel), iniX8, ⟨by decide +kernel, by decide +kernel⟩, by decide +kernel, by decide +kernel, by decide⟩
def yX8_takesFrom : MethodName := ⟨RX8, "takesFrom", "(II)I"⟩
def tX8_takesFrom : List (Nat × Instr) := [(0, .aload_n 0), (1, .invokevirtual 202), (4, .aload_n 0), (5, .getfield 46), (8, .iload_n 2), (9, .iaload), (10, .istore_n 3), (11, .aload_n 0), (12, .iconst 1), (13, .iload_n 1), (14, .ishl), (15, .putfield 172), (18, .aload_n 0), (19, .invokevirtual 202), (22, .aload_n 0), (23, .iconst 0), (24, .putfield 172), (27, .aload_n 0), (28, .getfield 46), (31, .iload_n 2), (32, .iaload), (33, .iload_n 3), (34, .isub), (35, .ireturn)]
def mX8_takesFrom : aM := (yX8_takesFrom, prog_10_method_57_code, tX8_takesFrom, 4, (some .int), flX8, ksX8)
theorem okX8_takesFrom : aOK mX8_takesFrom := ⟨by decide +kernel, flokX8, ksokX8, by decide⟩
theorem caX8_takesFrom : aCal mX8_takesFrom 2 := ⟨aBW_at 1265 (by decide +kernel) (by decide +kernel), iniX8, ⟨by decide +kernel, by decide +kernel⟩, by decide +kernel, by decide +kernel, by decide⟩
def yX8_takes : MethodName := ⟨RX8, "takes", "(II)I"⟩
def tX8_takes : List (Nat × Instr) := [(0, .aload_n 0), (1, .iload_n 1), (2, .iload_n 2), (3, .invokevirtual 134), (6, .ifCond .eq 12), (9, .aload_n 0), (10, .iload_n 1), (11, .iload_n 2), (12, .invokevirtual 229), (15, .goto 8), (18, .aload_n 0), (19, .iconst (-1)), (20, .invokevirtual 211), (23, .ireturn)]
def mX8_takes : aM := (yX8_takes, prog_10_method_58_code, tX8_takes, 3, (some .int), flX8, ksX8)
theorem okX8_takes : aOK mX8_takes := ⟨by decide +kernel, flokX8, ksokX8, by decide⟩
theorem caX8_takes : aCal mX8_takes 2 := ⟨aBW_at 1261 (by decide +kernel) (by decide +kernel), iniX8, ⟨by decide +kernel, by decide +kernel⟩, by decide +kernel, by decide +kernel, by decide⟩
def yX8_worst : MethodName := ⟨RX8, "worst", "(I)I"⟩
def tX8_worst : List (Nat × Instr) := [(0, .aload_n 0), (1, .iload_n 1), (2, .invokevirtual 75), (5, .ifCond .ne 9), (8, .aload_n 0), (9, .iconst (-1)), (10, .invokevirtual 86), (13, .ireturn), (14, .bipush (-9)), (16, .istore_n 2), (17, .bipush (-9)), (19, .istore_n 3), (20, .iconst 0), (21, .istore 4), (23, .iload 4), (25, .aload_n 0), (26, .getfield 72), (29, .if_icmp .ge 46), (32, .iload 4), (34, .iload_n 1), (35, .if_icmp .ne 6), (38, .goto 31), (41, .aload_n 0), (42, .iload 4), (44, .iload_n 1), (45, .invokevirtual 229), (48, .istore 5), (50, .iload_n 2), (51, .ifCond .lt 12), (54, .iload 5), (56, .iload_n 3), (57, .if_icmp .gt 6), (60, .goto 9), (63, .iload 4), (65, .istore_n 2), (66, .iload 5), (68, .istore_n 3), (69, .iinc 4 1), (72, .goto (-49)), (75, .iload_n 2), (76, .ireturn)]
def mX8_worst : aM := (yX8_worst, prog_10_method_59_code, tX8_worst, 6, (some .int), flX8, ksX8)
theorem okX8_worst : aOK mX8_worst := ⟨by decide +kernel, flokX8, ksokX8, by decide⟩
theorem caX8_worst : aCal mX8_worst 1 := ⟨aBW_at 1269 (by decide +kernel) (by decide +kernel), iniX8, ⟨by decide +kernel, by decide +kernel⟩, by decide +kernel, by decide +kernel, by decide⟩
def yX8_sharesOfFirst : MethodName := ⟨RX8, "sharesOfFirst", "(I)I"⟩
def tX8_sharesOfFirst : List (Nat × Instr) := [(0, .iconst 0), (1, .istore_n 2), (2, .iconst 0), (3, .istore_n 3), (4, .iload_n 3), (5, .iload_n 1), (6, .if_icmp .ge 18), (9, .iload_n 2), (10, .aload_n 0), (11, .getfield 46), (14, .iload_n 3), (15, .iaload), (16, .iadd), (17, .istore_n 2), (18, .iinc 3 1), (21, .goto (-17)), (24, .iload_n 2), (25, .ireturn)]
def mX8_sharesOfFirst : aM := (yX8_sharesOfFirst, prog_10_method_60_code, tX8_sharesOfFirst, 4, (some .int), flX8, ksX8)
theorem okX8_sharesOfFirst : aOK mX8_sharesOfFirst := ⟨by decide +kernel, flokX8, ksokX8, by decide⟩
theorem caX8_sharesOfFirst : aCal mX8_sharesOfFirst 1 := ⟨aBW_at 1277 (by decide +kernel) (by decide +kernel), iniX8, ⟨by decide +kernel, by decide +kernel⟩, by decide +kernel, by decide +kernel, by decide⟩
def yX8_newcomer : MethodName := ⟨RX8, "newcome\x72", "(II)I"⟩
def tX8_newcomer : List (Nat × Instr) := [(0, .iload_n 1), (1, .invokestatic 117), (4, .ifCond .ne 7), (7, .iconst (-1)), (8, .goto 18), (11, .iload_n 2), (12, .iconst 0), (13, .iconst 1), (14, .invokestatic 97), (17, .ifCond .ne 8), (20, .bipush (-2)), (22, .goto 4), (25, .iconst 0), (26, .istore_n 3), (27, .iload_n 3), (28, .ifCond .eq 9), (31, .aload_n 0), (32, .iload_n 3), (33, .invokevirtual 211), (36, .ireturn), (37, .aload_n 0), (38, .getfield 72), (41, .bipush 6), (43, .if_icmp .ne 6), (46, .bipush (-9)), (48, .ireturn), (49, .aload_n 0), (50, .getfield 72), (53, .istore 4), (55, .aload_n 0), (56, .invokevirtual 202), (59, .aload_n 0), (60, .iload 4), (62, .invokevirtual 232), (65, .istore 5), (67, .aload_n 0), (68, .invokevirtual 214), (71, .aload_n 0), (72, .iconst 0), (73, .iconst 0), (74, .iload_n 1), (75, .iconst 0), (76, .invokevirtual 120), (79, .aload_n 0), (80, .invokevirtual 202), (83, .iload_n 2), (84, .ifCond .ne 13), (87, .aload_n 0), (88, .getfield 46), (91, .iload 4), (93, .iaload), (94, .goto 12), (97, .iload 5), (99, .aload_n 0), (100, .iload 4), (102, .invokevirtual 232), (105, .isub), (106, .istore 6), (108, .aload_n 0), (109, .invokevirtual 220), (112, .iload 6), (114, .ireturn)]
def mX8_newcomer : aM := (yX8_newcomer, prog_10_method_61_code, tX8_newcomer, 7, (some .int), flX8, ksX8)
theorem okX8_newcomer : aOK mX8_newcomer := ⟨by decide +kernel, flokX8, ksokX8, by decide⟩
theorem caX8_newcomer : aCal mX8_newcomer 2 := ⟨aBW_at 1273 (by decide +kernel) (by decide +kernel), iniX8, ⟨by decide +kernel, by decide +kernel⟩, by decide +kernel, by decide +kernel, by decide⟩
def yX8_gladBy : MethodName := ⟨RX8, "gladBy", "(I)I"⟩
def tX8_gladBy : List (Nat × Instr) := [(0, .aload_n 0), (1, .invokevirtual 202), (4, .iconst 0), (5, .istore_n 2), (6, .iload_n 2), (7, .aload_n 0), (8, .getfield 72), (11, .if_icmp .ge 20), (14, .aload_n 0), (15, .getfield 52), (18, .iload_n 2), (19, .aload_n 0), (20, .iload_n 2), (21, .invokevirtual 208), (24, .iastore), (25, .iinc 2 1), (28, .goto (-22)), (31, .aload_n 0), (32, .iconst 1), (33, .iload_n 1), (34, .ishl), (35, .putfield 172), (38, .aload_n 0), (39, .invokevirtual 202), (42, .iconst 0), (43, .istore_n 2), (44, .iconst 0), (45, .istore_n 3), (46, .iload_n 3), (47, .aload_n 0), (48, .getfield 72), (51, .if_icmp .ge 36), (54, .iload_n 2), (55, .iload_n 3), (56, .iload_n 1), (57, .if_icmp .eq 21), (60, .aload_n 0), (61, .iload_n 3), (62, .invokevirtual 208), (65, .aload_n 0), (66, .getfield 52), (69, .iload_n 3), (70, .iaload), (71, .if_icmp .le 7), (74, .iconst 1), (75, .goto 4), (78, .iconst 0), (79, .iadd), (80, .istore_n 2), (81, .iinc 3 1), (84, .goto (-38)), (87, .aload_n 0), (88, .iconst 0), (89, .putfield 172), (92, .iload_n 2), (93, .ireturn)]
def mX8_gladBy : aM := (yX8_gladBy, prog_10_method_62_code, tX8_gladBy, 4, (some .int), flX8, ksX8)
theorem okX8_gladBy : aOK mX8_gladBy := ⟨by decide +kernel, flokX8, ksokX8, by decide⟩
theorem caX8_gladBy : aCal mX8_gladBy 1 := ⟨aBW_at 1285 (by decide +kernel) (by decide +kernel), iniX8, ⟨by decide +kernel, by decide +kernel⟩, by decide +kernel, by decide +kernel, by decide⟩
def yX8_leaves : MethodName := ⟨RX8, "leaves", "(I)I"⟩
def tX8_leaves : List (Nat × Instr) := [(0, .iload_n 1), (1, .iconst 0), (2, .iconst 1), (3, .invokestatic 97), (6, .ifCond .ne 10), (9, .aload_n 0), (10, .bipush (-2)), (12, .invokevirtual 86), (15, .ireturn), (16, .bipush (-9)), (18, .istore_n 2), (19, .bipush (-9)), (21, .istore_n 3), (22, .iconst 0), (23, .istore 4), (25, .iload 4), (27, .aload_n 0), (28, .getfield 72), (31, .if_icmp .ge 32), (34, .aload_n 0), (35, .iload 4), (37, .invokevirtual 235), (40, .istore 5), (42, .iload 5), (44, .iload_n 3), (45, .if_icmp .gt 6), (48, .goto 9), (51, .iload 4), (53, .istore_n 2), (54, .iload 5), (56, .istore_n 3), (57, .iinc 4 1), (60, .goto (-35)), (63, .iload_n 1), (64, .ifCond .ne 7), (67, .iload_n 2), (68, .goto 4), (71, .iload_n 3), (72, .ireturn)]
def mX8_leaves : aM := (yX8_leaves, prog_10_method_63_code, tX8_leaves, 6, (some .int), flX8, ksX8)
theorem okX8_leaves : aOK mX8_leaves := ⟨by decide +kernel, flokX8, ksokX8, by decide⟩
theorem caX8_leaves : aCal mX8_leaves 1 := ⟨aBW_at 1281 (by decide +kernel) (by decide +kernel), iniX8, ⟨by decide +kernel, by decide +kernel⟩, by decide +kernel, by decide +kernel, by decide⟩
def yX8_enough : MethodName := ⟨RX8, "enough", "()I"⟩
def tX8_enough : List (Nat × Instr) := [(0, .aload_n 0), (1, .invokevirtual 202), (4, .iconst 0), (5, .istore_n 1), (6, .iconst 0), (7, .istore_n 2), (8, .iload_n 2), (9, .aload_n 0), (10, .getfield 72), (13, .if_icmp .ge 33), (16, .iload_n 1), (17, .aload_n 0), (18, .iload_n 2), (19, .invokevirtual 208), (22, .aload_n 0), (23, .getfield 22), (26, .iload_n 2), (27, .iaload), (28, .if_icmp .lt 9), (31, .iconst 1), (32, .iload_n 2), (33, .ishl), (34, .goto 4), (37, .iconst 0), (38, .ior), (39, .istore_n 1), (40, .iinc 2 1), (43, .goto (-35)), (46, .iload_n 1), (47, .ireturn)]
def mX8_enough : aM := (yX8_enough, prog_10_method_64_code, tX8_enough, 3, (some .int), flX8, ksX8)
theorem okX8_enough : aOK mX8_enough := ⟨by decide +kernel, flokX8, ksokX8, by decide⟩
theorem caX8_enough : aCal mX8_enough 0 := ⟨aBW_at 1289 (by decide +kernel) (by decide +kernel), iniX8, ⟨by decide +kernel, by decide +kernel⟩, by decide +kernel, by decide +kernel, by decide⟩
def yX8_overOf : MethodName := ⟨RX8, "overOf", "(I)I"⟩
def tX8_overOf : List (Nat × Instr) := [(0, .aload_n 0), (1, .iload_n 1), (2, .invokevirtual 208), (5, .aload_n 0), (6, .getfield 22), (9, .iload_n 1), (10, .iaload), (11, .isub), (12, .iconst 0), (13, .invokestatic 184), (16, .ireturn)]
def mX8_overOf : aM := (yX8_overOf, prog_10_method_65_code, tX8_overOf, 2, (some .int), flX8, ksX8)
theorem okX8_overOf : aOK mX8_overOf := ⟨by decide +kernel, flokX8, ksokX8, by decide⟩
theorem caX8_overOf : aCal mX8_overOf 1 := ⟨aBW_at 1309 (by decide +kernel) (by decide +kernel), iniX8, ⟨by decide +kernel, by decide +kernel⟩, by decide +kernel, by decide +kernel, by decide⟩
def yX8_lackOf : MethodName := ⟨RX8, "lackOf", "(I)I"⟩
def tX8_lackOf : List (Nat × Instr) := [(0, .aload_n 0), (1, .getfield 22), (4, .iload_n 1), (5, .iaload), (6, .aload_n 0), (7, .iload_n 1), (8, .invokevirtual 208), (11, .isub), (12, .iconst 0), (13, .invokestatic 184), (16, .ireturn)]
def mX8_lackOf : aM := (yX8_lackOf, prog_10_method_66_code, tX8_lackOf, 2, (some .int), flX8, ksX8)
theorem okX8_lackOf : aOK mX8_lackOf := ⟨by decide +kernel, flokX8, ksokX8, by decide⟩
theorem caX8_lackOf : aCal mX8_lackOf 1 := ⟨aBW_at 1301 (by decide +kernel) (by decide +kernel), iniX8, ⟨by decide +kernel, by decide +kernel⟩, by decide +kernel, by decide +kernel, by decide⟩
def yX8_isNearOne : MethodName := ⟨RX8, "isNearOne", "(III)Z"⟩
def tX8_isNearOne : List (Nat × Instr) := [(0, .iconst 0), (1, .istore 4), (3, .iload 4), (5, .aload_n 0), (6, .getfield 72), (9, .if_icmp .ge 49), (12, .iload_n 2), (13, .iload 4), (15, .invokestatic 175), (18, .ifCond .eq 34), (21, .aload_n 0), (22, .iload 4), (24, .invokevirtual 238), (27, .ifCond .le 25), (30, .aload_n 0), (31, .getfield 19), (34, .iload_n 1), (35, .iaload), (36, .aload_n 0), (37, .getfield 19), (40, .iload 4), (42, .iaload), (43, .invokestatic 181), (46, .iload_n 3), (47, .if_icmp .gt 5), (50, .iconst 1), (51, .ireturn), (52, .iinc 4 1), (55, .goto (-52)), (58, .iconst 0), (59, .ireturn)]
def mX8_isNearOne : aM := (yX8_isNearOne, prog_10_method_67_code, tX8_isNearOne, 5, (some .boolean), flX8, ksX8)
theorem okX8_isNearOne : aOK mX8_isNearOne := ⟨by decide +kernel, flokX8, ksokX8, by decide⟩
theorem caX8_isNearOne : aCal mX8_isNearOne 3 := ⟨aBW_at 1305 (by decide +kernel) (by decide +kernel), iniX8, ⟨by decide +kernel, by decide +kernel⟩, by decide +kernel, by decide +kernel, by decide⟩
def yX8_cutBy : MethodName := ⟨RX8, "cutBy", "(II)I"⟩
def tX8_cutBy : List (Nat × Instr) := [(0, .iconst 0), (1, .istore_n 3), (2, .iconst 0), (3, .istore 4), (5, .iload 4), (7, .aload_n 0), (8, .getfield 72), (11, .if_icmp .ge 55), (14, .iload_n 3), (15, .iload_n 1), (16, .iload 4), (18, .invokestatic 175), (21, .ifCond .eq 7), (24, .iconst 0), (25, .goto 9), (28, .aload_n 0), (29, .iload 4), (31, .invokevirtual 238), (34, .iadd), (35, .istore_n 3), (36, .iload_n 3), (37, .aload_n 0), (38, .iload 4), (40, .iload_n 1), (41, .iload_n 2), (42, .invokevirtual 241), (45, .ifCond .eq 12), (48, .aload_n 0), (49, .iload 4), (51, .invokevirtual 244), (54, .goto 4), (57, .iconst 0), (58, .iadd), (59, .istore_n 3), (60, .iinc 4 1), (63, .goto (-58)), (66, .iload_n 3), (67, .ireturn)]
def mX8_cutBy : aM := (yX8_cutBy, prog_10_method_68_code, tX8_cutBy, 5, (some .int), flX8, ksX8)
theorem okX8_cutBy : aOK mX8_cutBy := ⟨by decide +kernel, flokX8, ksokX8, by decide⟩
theorem caX8_cutBy : aCal mX8_cutBy 2 := ⟨aBW_at 1297 (by decide +kernel) (by decide +kernel), iniX8, ⟨by decide +kernel, by decide +kernel⟩, by decide +kernel, by decide +kernel, by decide⟩
def yX8_help : MethodName := ⟨RX8, "help", "(II)I"⟩
def tX8_help : List (Nat × Instr) := [(0, .iload_n 1), (1, .iconst 0), (2, .bipush 10), (4, .invokestatic 79), (7, .istore_n 3), (8, .iload_n 3), (9, .ifCond .ne 15), (12, .iload_n 2), (13, .iconst 0), (14, .iconst 1), (15, .invokestatic 97), (18, .ifCond .ne 6), (21, .bipush (-2)), (23, .istore_n 3), (24, .iload_n 3), (25, .ifCond .eq 9), (28, .aload_n 0), (29, .iload_n 3), (30, .invokevirtual 86), (33, .ireturn), (34, .aload_n 0), (35, .invokevirtual 202), (38, .aload_n 0), (39, .iconst 0), (40, .iload_n 1), (41, .invokevirtual 247), (44, .istore 4), (46, .iload 4), (48, .istore 5), (50, .iconst 1), (51, .istore 6), (53, .iload 6), (55, .iconst 1), (56, .aload_n 0), (57, .getfield 72), (60, .ishl), (61, .if_icmp .ge 34), (64, .aload_n 0), (65, .iload 6), (67, .iload_n 1), (68, .invokevirtual 247), (71, .istore 7), (73, .iload 7), (75, .iload 4), (77, .if_icmp .ge 8), (80, .iload 7), (82, .goto 5), (85, .iload 4), (87, .istore 4), (89, .iinc 6 1), (92, .goto (-39)), (95, .iload_n 2), (96, .ifCond .ne 8), (99, .iload 4), (101, .goto 15), (104, .iload 4), (106, .iload 5), (108, .if_icmp .ne 7), (111, .iconst 1), (112, .goto 4), (115, .iconst 0), (116, .ireturn)]
def mX8_help : aM := (yX8_help, prog_10_method_69_code, tX8_help, 8, (some .int), flX8, ksX8)
theorem okX8_help : aOK mX8_help := ⟨by decide +kernel, flokX8, ksokX8, by decide⟩
theorem caX8_help : aCal mX8_help 2 := ⟨aBW_at 1293 (by decide +kernel) (by decide +kernel), iniX8, ⟨by decide +kernel, by decide +kernel⟩, by decide +kernel, by decide +kernel, by decide⟩
def yX8_net : MethodName := ⟨RX8, "net", "(I)I"⟩
def tX8_net : List (Nat × Instr) := [(0, .aload_n 0), (1, .iload_n 1), (2, .invokevirtual 75), (5, .ifCond .eq 11), (8, .aload_n 0), (9, .iload_n 1), (10, .invokevirtual 199), (13, .goto 8), (16, .aload_n 0), (17, .iconst (-1)), (18, .invokevirtual 211), (21, .ireturn)]
def mX8_net : aM := (yX8_net, prog_10_method_70_code, tX8_net, 2, (some .int), flX8, ksX8)
theorem okX8_net : aOK mX8_net := ⟨by decide +kernel, flokX8, ksokX8, by decide⟩
theorem caX8_net : aCal mX8_net 1 := ⟨aBW_at 1313 (by decide +kernel) (by decide +kernel), iniX8, ⟨by decide +kernel, by decide +kernel⟩, by decide +kernel, by decide +kernel, by decide⟩
def yX8_netsOf : MethodName := ⟨RX8, "netsOf", "(I)I"⟩
def tX8_netsOf : List (Nat × Instr) := [(0, .iconst 0), (1, .istore_n 2), (2, .iconst 0), (3, .istore_n 3), (4, .iload_n 3), (5, .aload_n 0), (6, .getfield 72), (9, .if_icmp .ge 29), (12, .iload_n 2), (13, .iload_n 1), (14, .iload_n 3), (15, .invokestatic 175), (18, .ifCond .eq 11), (21, .aload_n 0), (22, .iload_n 3), (23, .invokevirtual 199), (26, .goto 4), (29, .iconst 0), (30, .iadd), (31, .istore_n 2), (32, .iinc 3 1), (35, .goto (-31)), (38, .iload_n 2), (39, .ireturn)]
def mX8_netsOf : aM := (yX8_netsOf, prog_10_method_71_code, tX8_netsOf, 4, (some .int), flX8, ksX8)
theorem okX8_netsOf : aOK mX8_netsOf := ⟨by decide +kernel, flokX8, ksokX8, by decide⟩
theorem caX8_netsOf : aCal mX8_netsOf 1 := ⟨aBW_at 1325 (by decide +kernel) (by decide +kernel), iniX8, ⟨by decide +kernel, by decide +kernel⟩, by decide +kernel, by decide +kernel, by decide⟩
def yX8_fewestLoans : MethodName := ⟨RX8, "fewestLoans", "()I"⟩
def tX8_fewestLoans : List (Nat × Instr) := [(0, .iconst 0), (1, .istore_n 1), (2, .iconst 0), (3, .istore_n 2), (4, .iconst 0), (5, .istore_n 3), (6, .iload_n 3), (7, .aload_n 0), (8, .getfield 72), (11, .if_icmp .ge 43), (14, .iload_n 1), (15, .aload_n 0), (16, .iload_n 3), (17, .invokevirtual 199), (20, .ifCond .eq 9), (23, .iconst 1), (24, .iload_n 3), (25, .ishl), (26, .goto 4), (29, .iconst 0), (30, .ior), (31, .istore_n 1), (32, .iload_n 2), (33, .aload_n 0), (34, .iload_n 3), (35, .invokevirtual 199), (38, .ifCond .eq 7), (41, .iconst 1), (42, .goto 4), (45, .iconst 0), (46, .iadd), (47, .istore_n 2), (48, .iinc 3 1), (51, .goto (-45)), (54, .iconst 0), (55, .istore_n 3), (56, .iload_n 3), (57, .bipush 64), (59, .if_icmp .ge 104), (62, .aload_n 0), (63, .getfield 55), (66, .iload_n 3), (67, .iconst 0), (68, .iastore), (69, .iload_n 3), (70, .iload_n 1), (71, .iconst (-1)), (72, .ixor), (73, .iand), (74, .ifCond .ne 83), (77, .aload_n 0), (78, .iload_n 3), (79, .invokevirtual 250), (82, .ifCond .eq 6), (85, .goto 72), (88, .iload_n 3), (89, .istore 4), (91, .iload 4), (93, .ifCond .le 64), (96, .aload_n 0), (97, .iload 4), (99, .invokevirtual 250), (102, .ifCond .ne 44), (105, .aload_n 0), (106, .getfield 55), (109, .iload_n 3), (110, .iload 4), (112, .iconst (-1)), (113, .ixor), (114, .iand), (115, .iaload), (116, .iconst 1), (117, .iadd), (118, .aload_n 0), (119, .getfield 55), (122, .iload_n 3), (123, .iaload), (124, .if_icmp .le 22), (127, .aload_n 0), (128, .getfield 55), (131, .iload_n 3), (132, .aload_n 0), (133, .getfield 55), (136, .iload_n 3), (137, .iload 4), (139, .iconst (-1)), (140, .ixor), (141, .iand), (142, .iaload), (143, .iconst 1), (144, .iadd), (145, .iastore), (146, .iload 4), (148, .iconst 1), (149, .isub), (150, .iload_n 3), (151, .iand), (152, .istore 4), (154, .goto (-63)), (157, .iinc 3 1), (160, .goto (-104)), (163, .iload_n 2), (164, .aload_n 0), (165, .getfield 55), (168, .iload_n 1), (169, .iaload), (170, .isub), (171, .ireturn)]
def mX8_fewestLoans : aM := (yX8_fewestLoans, prog_10_method_72_code, tX8_fewestLoans, 5, (some .int), flX8, ksX8)
theorem okX8_fewestLoans : aOK mX8_fewestLoans := ⟨by decide +kernel, flokX8, ksokX8, by decide⟩
theorem caX8_fewestLoans : aCal mX8_fewestLoans 0 := ⟨aBW_at 1321 (by decide +kernel) (by decide +kernel), iniX8, ⟨by decide +kernel, by decide +kernel⟩, by decide +kernel, by decide +kernel, by decide⟩
def yX8_loans : MethodName := ⟨RX8, "loans", "(I)I"⟩
def tX8_loans : List (Nat × Instr) := [(0, .iload_n 1), (1, .iconst 0), (2, .iconst 1), (3, .invokestatic 97), (6, .ifCond .ne 10), (9, .aload_n 0), (10, .bipush (-2)), (12, .invokevirtual 86), (15, .ireturn), (16, .iconst 0), (17, .istore_n 2), (18, .iconst 0), (19, .istore_n 3), (20, .iload_n 3), (21, .bipush 49), (23, .if_icmp .ge 48), (26, .iload_n 2), (27, .iload_n 3), (28, .bipush 7), (30, .idiv), (31, .aload_n 0), (32, .getfield 72), (35, .if_icmp .ge 27), (38, .iload_n 3), (39, .bipush 7), (41, .irem), (42, .aload_n 0), (43, .getfield 72), (46, .if_icmp .ge 16), (49, .aload_n 0), (50, .getfield 28), (53, .iload_n 3), (54, .iaload), (55, .ifCond .le 7), (58, .iconst 1), (59, .goto 4), (62, .iconst 0), (63, .iadd), (64, .istore_n 2), (65, .iinc 3 1), (68, .goto (-48)), (71, .iload_n 1), (72, .ifCond .ne 7), (75, .iload_n 2), (76, .goto 7), (79, .aload_n 0), (80, .invokevirtual 253), (83, .ireturn)]
def mX8_loans : aM := (yX8_loans, prog_10_method_73_code, tX8_loans, 4, (some .int), flX8, ksX8)
theorem okX8_loans : aOK mX8_loans := ⟨by decide +kernel, flokX8, ksokX8, by decide⟩
theorem caX8_loans : aCal mX8_loans 1 := ⟨aBW_at 1317 (by decide +kernel) (by decide +kernel), iniX8, ⟨by decide +kernel, by decide +kernel⟩, by decide +kernel, by decide +kernel, by decide⟩
def yX8_surveyIn : MethodName := ⟨RX8, "surveyIn", "(I)I"⟩
def tX8_surveyIn : List (Nat × Instr) := [(0, .aload_n 0), (1, .invokevirtual 214), (4, .aload_n 0), (5, .getfield 72), (8, .istore_n 2), (9, .aload_n 0), (10, .iconst 0), (11, .iconst 0), (12, .iload_n 1), (13, .iconst 0), (14, .invokevirtual 120), (17, .aload_n 0), (18, .invokevirtual 202), (21, .aload_n 0), (22, .iload_n 2), (23, .invokevirtual 232), (26, .istore_n 3), (27, .aload_n 0), (28, .invokevirtual 220), (31, .iload_n 3), (32, .ireturn)]
def mX8_surveyIn : aM := (yX8_surveyIn, prog_10_method_74_code, tX8_surveyIn, 4, (some .int), flX8, ksX8)
theorem okX8_surveyIn : aOK mX8_surveyIn := ⟨by decide +kernel, flokX8, ksokX8, by decide⟩
theorem caX8_surveyIn : aCal mX8_surveyIn 1 := ⟨aBW_at 1333 (by decide +kernel) (by decide +kernel), iniX8, ⟨by decide +kernel, by decide +kernel⟩, by decide +kernel, by decide +kernel, by decide⟩
def yX8_survey : MethodName := ⟨RX8, "survey", "(I)I"⟩
def tX8_survey : List (Nat × Instr) := [(0, .iload_n 1), (1, .invokestatic 117), (4, .ifCond .eq 11), (7, .aload_n 0), (8, .iload_n 1), (9, .invokevirtual 256), (12, .goto 8), (15, .aload_n 0), (16, .iconst (-1)), (17, .invokevirtual 86), (20, .ireturn)]
def mX8_survey : aM := (yX8_survey, prog_10_method_75_code, tX8_survey, 2, (some .int), flX8, ksX8)
theorem okX8_survey : aOK mX8_survey := ⟨by decide +kernel, flokX8, ksokX8, by decide⟩
theorem caX8_survey : aCal mX8_survey 1 := ⟨aBW_at 1329 (by decide +kernel) (by decide +kernel), iniX8, ⟨by decide +kernel, by decide +kernel⟩, by decide +kernel, by decide +kernel, by decide⟩
def yX8_bestSurvey : MethodName := ⟨RX8, "bestSurvey", "()I"⟩
def tX8_bestSurvey : List (Nat × Instr) := [(0, .iconst 0), (1, .istore_n 1), (2, .iconst 1), (3, .istore_n 2), (4, .iload_n 2), (5, .bipush 36), (7, .if_icmp .ge 28), (10, .aload_n 0), (11, .iload_n 2), (12, .invokevirtual 256), (15, .aload_n 0), (16, .iload_n 1), (17, .invokevirtual 256), (20, .if_icmp .le 7), (23, .iload_n 2), (24, .goto 4), (27, .iload_n 1), (28, .istore_n 1), (29, .iinc 2 1), (32, .goto (-28)), (35, .iload_n 1), (36, .ireturn)]
def mX8_bestSurvey : aM := (yX8_bestSurvey, prog_10_method_76_code, tX8_bestSurvey, 3, (some .int), flX8, ksX8)
theorem okX8_bestSurvey : aOK mX8_bestSurvey := ⟨by decide +kernel, flokX8, ksokX8, by decide⟩
theorem caX8_bestSurvey : aCal mX8_bestSurvey 0 := ⟨aBW_at 1337 (by decide +kernel) (by decide +kernel), iniX8, ⟨by decide +kernel, by decide +kernel⟩, by decide +kernel, by decide +kernel, by decide⟩
def yX8_shareIn : MethodName := ⟨RX8, "shareIn", "(II)I"⟩
def tX8_shareIn : List (Nat × Instr) := [(0, .aload_n 0), (1, .getfield 19), (4, .iload_n 1), (5, .iaload), (6, .istore_n 3), (7, .aload_n 0), (8, .getfield 19), (11, .iload_n 1), (12, .iload_n 2), (13, .iastore), (14, .aload_n 0), (15, .invokevirtual 202), (18, .aload_n 0), (19, .getfield 19), (22, .iload_n 1), (23, .iload_n 3), (24, .iastore), (25, .aload_n 0), (26, .getfield 46), (29, .iload_n 1), (30, .iaload), (31, .ireturn)]
def mX8_shareIn : aM := (yX8_shareIn, prog_10_method_77_code, tX8_shareIn, 4, (some .int), flX8, ksX8)
theorem okX8_shareIn : aOK mX8_shareIn := ⟨by decide +kernel, flokX8, ksokX8, by decide⟩
theorem caX8_shareIn : aCal mX8_shareIn 2 := ⟨aBW_at 1345 (by decide +kernel) (by decide +kernel), iniX8, ⟨by decide +kernel, by decide +kernel⟩, by decide +kernel, by decide +kernel, by decide⟩
def yX8_quarrel : MethodName := ⟨RX8, "quarrel", "(IIII)I"⟩
def tX8_quarrel : List (Nat × Instr) := [(0, .aload_n 0), (1, .iload_n 1), (2, .iload_n 2), (3, .invokevirtual 134), (6, .ifCond .ne 7), (9, .iconst (-1)), (10, .goto 10), (13, .iload_n 3), (14, .iconst 1), (15, .bipush 10), (17, .invokestatic 79), (20, .istore 5), (22, .iload 5), (24, .ifCond .ne 17), (27, .iload 4), (29, .iconst 0), (30, .iconst 1), (31, .invokestatic 97), (34, .ifCond .ne 7), (37, .bipush (-2)), (39, .istore 5), (41, .iload 5), (43, .ifCond .eq 10), (46, .aload_n 0), (47, .iload 5), (49, .invokevirtual 211), (52, .ireturn), (53, .bipush (-9)), (55, .istore 6), (57, .iconst 0), (58, .istore 7), (60, .iload 7), (62, .bipush 36), (64, .if_icmp .ge 61), (67, .iload 7), (69, .aload_n 0), (70, .getfield 19), (73, .iload_n 2), (74, .iaload), (75, .invokestatic 181), (78, .iload_n 3), (79, .if_icmp .gt 6), (82, .goto 37), (85, .iload 6), (87, .ifCond .lt 28), (90, .iload 7), (92, .aload_n 0), (93, .getfield 19), (96, .iload_n 1), (97, .iaload), (98, .invokestatic 181), (101, .iload 6), (103, .aload_n 0), (104, .getfield 19), (107, .iload_n 1), (108, .iaload), (109, .invokestatic 181), (112, .if_icmp .ge 7), (115, .iload 7), (117, .istore 6), (119, .iinc 7 1), (122, .goto (-62)), (125, .iload 4), (127, .ifCond .eq 8), (130, .iload 6), (132, .ifCond .ge 8), (135, .iload 6), (137, .goto 22), (140, .aload_n 0), (141, .iload_n 1), (142, .iload 6), (144, .invokevirtual 259), (147, .aload_n 0), (148, .iload_n 1), (149, .aload_n 0), (150, .getfield 19), (153, .iload_n 1), (154, .iaload), (155, .invokevirtual 259), (158, .isub), (159, .ireturn)]
def mX8_quarrel : aM := (yX8_quarrel, prog_10_method_78_code, tX8_quarrel, 8, (some .int), flX8, ksX8)
theorem okX8_quarrel : aOK mX8_quarrel := ⟨by decide +kernel, flokX8, ksokX8, by decide⟩
theorem caX8_quarrel : aCal mX8_quarrel 4 := ⟨aBW_at 1341 (by decide +kernel) (by decide +kernel), iniX8, ⟨by decide +kernel, by decide +kernel⟩, by decide +kernel, by decide +kernel, by decide⟩
def yX8_moved : MethodName := ⟨RX8, "moved", "(II)I"⟩
def tX8_moved : List (Nat × Instr) := [(0, .iload_n 1), (1, .tableswitch 92 1 4 #[31, 46, 61, 77]), (32, .iload_n 0), (33, .bipush 6), (35, .if_icmp .ge 7), (38, .iload_n 0), (39, .goto 7), (42, .iload_n 0), (43, .bipush 6), (45, .isub), (46, .ireturn), (47, .iload_n 0), (48, .bipush 6), (50, .irem), (51, .ifCond .ne 7), (54, .iload_n 0), (55, .goto 6), (58, .iload_n 0), (59, .iconst 1), (60, .isub), (61, .ireturn), (62, .iload_n 0), (63, .bipush 6), (65, .irem), (66, .iconst 5), (67, .if_icmp .ne 7), (70, .iload_n 0), (71, .goto 6), (74, .iload_n 0), (75, .iconst 1), (76, .iadd), (77, .ireturn), (78, .iload_n 0), (79, .bipush 29), (81, .if_icmp .le 7), (84, .iload_n 0), (85, .goto 7), (88, .iload_n 0), (89, .bipush 6), (91, .iadd), (92, .ireturn), (93, .iload_n 0), (94, .ireturn)]
def mX8_moved : aM := (yX8_moved, prog_10_method_79_code, tX8_moved, 2, (some .int), flX8, ksX8)
theorem okX8_moved : aOK mX8_moved := ⟨by decide +kernel, flokX8, ksokX8, by decide⟩
theorem caX8_moved : aCal mX8_moved 2 := ⟨aBW_at 1356 (by decide +kernel) (by decide +kernel), iniX8, ⟨by decide +kernel, by decide +kernel⟩, by decide +kernel, by decide +kernel, by decide⟩
def yX8_findWays : MethodName := ⟨RX8, "findWays", "(II)V"⟩
def tX8_findWays : List (Nat × Instr) := [(0, .aload_n 0), (1, .getfield 19), (4, .iload_n 1), (5, .iaload), (6, .istore_n 3), (7, .aload_n 0), (8, .getfield 19), (11, .iload_n 2), (12, .iaload), (13, .istore 4), (15, .iconst 0), (16, .istore 5), (18, .iload 5), (20, .bipush 25), (22, .if_icmp .ge 68), (25, .aload_n 0), (26, .getfield 19), (29, .iload_n 1), (30, .iload_n 3), (31, .iload 5), (33, .iconst 5), (34, .idiv), (35, .invokestatic 262), (38, .iastore), (39, .aload_n 0), (40, .getfield 19), (43, .iload_n 2), (44, .iload 4), (46, .iload 5), (48, .iconst 5), (49, .irem), (50, .invokestatic 262), (53, .iastore), (54, .aload_n 0), (55, .invokevirtual 202), (58, .aload_n 0), (59, .getfield 58), (62, .iload 5), (64, .aload_n 0), (65, .getfield 46), (68, .iload_n 1), (69, .iaload), (70, .iastore), (71, .aload_n 0), (72, .getfield 61), (75, .iload 5), (77, .aload_n 0), (78, .getfield 46), (81, .iload_n 2), (82, .iaload), (83, .iastore), (84, .iinc 5 1), (87, .goto (-69)), (90, .aload_n 0), (91, .getfield 19), (94, .iload_n 1), (95, .iload_n 3), (96, .iastore), (97, .aload_n 0), (98, .getfield 19), (101, .iload_n 2), (102, .iload 4), (104, .iastore), (105, .return_)]
def mX8_findWays : aM := (yX8_findWays, prog_10_method_80_code, tX8_findWays, 6, none, flX8, ksX8)
theorem okX8_findWays : aOK mX8_findWays := ⟨by decide +kernel, flokX8, ksokX8, by decide⟩
theorem caX8_findWays : aCal mX8_findWays 2 := ⟨aBW_at 1353 (by decide +kernel) (by decide +kernel), iniX8, ⟨by decide +kernel, by decide +kernel⟩, by decide +kernel, by decide +kernel, by decide⟩
def yX8_rests : MethodName := ⟨RX8, "rests", "(I)Z"⟩
def tX8_rests : List (Nat × Instr) := [(0, .iconst 0), (1, .istore_n 2), (2, .iload_n 2), (3, .iconst 5), (4, .if_icmp .ge 53), (7, .aload_n 0), (8, .getfield 58), (11, .iconst 5), (12, .iload_n 2), (13, .imul), (14, .iload_n 1), (15, .iconst 5), (16, .irem), (17, .iadd), (18, .iaload), (19, .aload_n 0), (20, .getfield 58), (23, .iload_n 1), (24, .iaload), (25, .if_icmp .gt 24), (28, .aload_n 0), (29, .getfield 61), (32, .iconst 5), (33, .iload_n 1), (34, .iconst 5), (35, .idiv), (36, .imul), (37, .iload_n 2), (38, .iadd), (39, .iaload), (40, .aload_n 0), (41, .getfield 61), (44, .iload_n 1), (45, .iaload), (46, .if_icmp .le 5), (49, .iconst 0), (50, .ireturn), (51, .iinc 2 1), (54, .goto (-52)), (57, .iconst 1), (58, .ireturn)]
def mX8_rests : aM := (yX8_rests, prog_10_method_81_code, tX8_rests, 3, (some .boolean), flX8, ksX8)
theorem okX8_rests : aOK mX8_rests := ⟨by decide +kernel, flokX8, ksokX8, by decide⟩
theorem caX8_rests : aCal mX8_rests 1 := ⟨aBW_at 1360 (by decide +kernel) (by decide +kernel), iniX8, ⟨by decide +kernel, by decide +kernel⟩, by decide +kernel, by decide +kernel, by decide⟩
def yX8_two : MethodName := ⟨RX8, "two", "(II)I"⟩
def tX8_two : List (Nat × Instr) := [(0, .aload_n 0), (1, .iload_n 1), (2, .iload_n 2), (3, .invokevirtual 134), (6, .ifCond .ne 9), (9, .aload_n 0), (10, .iconst (-1)), (11, .invokevirtual 86), (14, .ireturn), (15, .aload_n 0), (16, .iload_n 1), (17, .iload_n 2), (18, .invokevirtual 265), (21, .iconst 0), (22, .istore_n 3), (23, .iload_n 3), (24, .bipush 25), (26, .if_icmp .ge 28), (29, .aload_n 0), (30, .iload_n 3), (31, .invokevirtual 268), (34, .ifCond .eq 14), (37, .bipush 10), (39, .iload_n 3), (40, .iconst 5), (41, .idiv), (42, .imul), (43, .iload_n 3), (44, .iconst 5), (45, .irem), (46, .iadd), (47, .ireturn), (48, .iinc 3 1), (51, .goto (-28)), (54, .bipush (-9)), (56, .ireturn)]
def mX8_two : aM := (yX8_two, prog_10_method_82_code, tX8_two, 4, (some .int), flX8, ksX8)
theorem okX8_two : aOK mX8_two := ⟨by decide +kernel, flokX8, ksokX8, by decide⟩
theorem caX8_two : aCal mX8_two 2 := ⟨aBW_at 1349 (by decide +kernel) (by decide +kernel), iniX8, ⟨by decide +kernel, by decide +kernel⟩, by decide +kernel, by decide +kernel, by decide⟩
def yX8_crowd : MethodName := ⟨RX8, "crowd", "(I)I"⟩
def tX8_crowd : List (Nat × Instr) := [(0, .iload_n 1), (1, .iconst 0), (2, .iconst 2), (3, .invokestatic 97), (6, .ifCond .ne 10), (9, .aload_n 0), (10, .bipush (-2)), (12, .invokevirtual 86), (15, .ireturn), (16, .bipush (-9)), (18, .istore_n 2), (19, .bipush (-9)), (21, .istore_n 3), (22, .bipush (-9)), (24, .istore 4), (26, .iconst 0), (27, .istore 5), (29, .iload 5), (31, .aload_n 0), (32, .getfield 72), (35, .if_icmp .ge 89), (38, .iload 5), (40, .iconst 1), (41, .iadd), (42, .istore 6), (44, .iload 6), (46, .aload_n 0), (47, .getfield 72), (50, .if_icmp .ge 68), (53, .aload_n 0), (54, .getfield 19), (57, .iload 5), (59, .iaload), (60, .aload_n 0), (61, .getfield 19), (64, .iload 6), (66, .iaload), (67, .invokestatic 181), (70, .istore 7), (72, .iload 7), (74, .iload_n 3), (75, .if_icmp .le 8), (78, .iload 7), (80, .goto 4), (83, .iload_n 3), (84, .istore_n 3), (85, .iload 4), (87, .ifCond .lt 12), (90, .iload 7), (92, .iload_n 2), (93, .if_icmp .lt 6), (96, .goto 16), (99, .bipush 10), (101, .iload 5), (103, .imul), (104, .iload 6), (106, .iadd), (107, .istore 4), (109, .iload 7), (111, .istore_n 2), (112, .iinc 6 1), (115, .goto (-71)), (118, .iinc 5 1), (121, .goto (-92)), (124, .iload_n 1), (125, .ifCond .ne 7), (128, .iload_n 2), (129, .goto 14), (132, .iload_n 1), (133, .iconst 1), (134, .if_icmp .ne 7), (137, .iload_n 3), (138, .goto 5), (141, .iload 4), (143, .ireturn)]
def mX8_crowd : aM := (yX8_crowd, prog_10_method_83_code, tX8_crowd, 8, (some .int), flX8, ksX8)
theorem okX8_crowd : aOK mX8_crowd := ⟨by decide +kernel, flokX8, ksokX8, by decide⟩
theorem caX8_crowd : aCal mX8_crowd 1 := ⟨aBW_at 1364 (by decide +kernel) (by decide +kernel), iniX8, ⟨by decide +kernel, by decide +kernel⟩, by decide +kernel, by decide +kernel, by decide⟩
def yX8_isRich : MethodName := ⟨RX8, "isRich", "()Z"⟩
def tX8_isRich : List (Nat × Instr) := [(0, .aload_n 0), (1, .invokevirtual 202), (4, .iconst 0), (5, .istore_n 1), (6, .iload_n 1), (7, .aload_n 0), (8, .getfield 72), (11, .if_icmp .ge 25), (14, .aload_n 0), (15, .iload_n 1), (16, .invokevirtual 208), (19, .aload_n 0), (20, .getfield 22), (23, .iload_n 1), (24, .iaload), (25, .if_icmp .ge 5), (28, .iconst 0), (29, .ireturn), (30, .iinc 1 1), (33, .goto (-27)), (36, .iconst 1), (37, .ireturn)]
def mX8_isRich : aM := (yX8_isRich, prog_10_method_84_code, tX8_isRich, 2, (some .boolean), flX8, ksX8)
theorem okX8_isRich : aOK mX8_isRich := ⟨by decide +kernel, flokX8, ksokX8, by decide⟩
theorem caX8_isRich : aCal mX8_isRich 0 := ⟨aBW_at 1372 (by decide +kernel) (by decide +kernel), iniX8, ⟨by decide +kernel, by decide +kernel⟩, by decide +kernel, by decide +kernel, by decide⟩
def yX8_raise : MethodName := ⟨RX8, "raise", "()I"⟩
def tX8_raise : List (Nat × Instr) := [(0, .aload_n 0), (1, .getfield 67), (4, .istore_n 1), (5, .bipush (-9)), (7, .istore_n 2), (8, .iconst 0), (9, .istore_n 3), (10, .iload_n 3), (11, .sipush 999), (14, .if_icmp .gt 32), (17, .iload_n 2), (18, .ifCond .ge 28), (21, .aload_n 0), (22, .iload_n 3), (23, .putfield 67), (26, .aload_n 0), (27, .invokevirtual 271), (30, .ifCond .eq 7), (33, .iload_n 3), (34, .goto 5), (37, .bipush (-9)), (39, .istore_n 2), (40, .iinc 3 1), (43, .goto (-33)), (46, .aload_n 0), (47, .iload_n 1), (48, .putfield 67), (51, .iload_n 2), (52, .ireturn)]
def mX8_raise : aM := (yX8_raise, prog_10_method_85_code, tX8_raise, 4, (some .int), flX8, ksX8)
theorem okX8_raise : aOK mX8_raise := ⟨by decide +kernel, flokX8, ksokX8, by decide⟩
theorem caX8_raise : aCal mX8_raise 0 := ⟨aBW_at 1368 (by decide +kernel) (by decide +kernel), iniX8, ⟨by decide +kernel, by decide +kernel⟩, by decide +kernel, by decide +kernel, by decide⟩
def yX8_easter : MethodName := ⟨RX8, "easte\x72", "(III)I"⟩
def tX8_easter : List (Nat × Instr) := [(0, .aload_n 0), (1, .iload_n 1), (2, .iload_n 2), (3, .invokevirtual 134), (6, .ifCond .ne 7), (9, .iconst (-1)), (10, .goto 10), (13, .iload_n 3), (14, .iconst 0), (15, .bipush 99), (17, .invokestatic 79), (20, .istore 4), (22, .iload 4), (24, .ifCond .eq 10), (27, .aload_n 0), (28, .iload 4), (30, .invokevirtual 86), (33, .ireturn), (34, .aload_n 0), (35, .invokevirtual 214), (38, .iconst 0), (39, .istore 5), (41, .iload 5), (43, .iload_n 3), (44, .if_icmp .ge 15), (47, .aload_n 0), (48, .iload_n 1), (49, .iload_n 2), (50, .invokevirtual 127), (53, .iinc 5 1), (56, .goto (-15)), (59, .aload_n 0), (60, .getfield 25), (63, .iload_n 2), (64, .iaload), (65, .istore 5), (67, .aload_n 0), (68, .invokevirtual 220), (71, .iload 5), (73, .ireturn)]
def mX8_easter : aM := (yX8_easter, prog_10_method_86_code, tX8_easter, 6, (some .int), flX8, ksX8)
theorem okX8_easter : aOK mX8_easter := ⟨by decide +kernel, flokX8, ksokX8, by decide⟩
theorem caX8_easter : aCal mX8_easter 3 := ⟨aBW_at 1376 (by decide +kernel) (by decide +kernel), iniX8, ⟨by decide +kernel, by decide +kernel⟩, by decide +kernel, by decide +kernel, by decide⟩
def yX8_cut : MethodName := ⟨RX8, "cut", "(I)I"⟩
def tX8_cut : List (Nat × Instr) := [(0, .iload_n 0), (1, .bipush 99), (3, .if_icmp .le 8), (6, .bipush 99), (8, .goto 4), (11, .iload_n 0), (12, .ireturn)]
def mX8_cut : aM := (yX8_cut, prog_10_method_87_code, tX8_cut, 1, (some .int), flX8, ksX8)
theorem okX8_cut : aOK mX8_cut := ⟨by decide +kernel, flokX8, ksokX8, by decide⟩
theorem caX8_cut : aCal mX8_cut 1 := ⟨aBW_at 1391 (by decide +kernel) (by decide +kernel), iniX8, ⟨by decide +kernel, by decide +kernel⟩, by decide +kernel, by decide +kernel, by decide⟩
def yX8_isSo : MethodName := ⟨RX8, "isSo", "()Z"⟩
def tX8_isSo : List (Nat × Instr) := [(0, .aload_n 0), (1, .invokevirtual 202), (4, .iconst 0), (5, .istore_n 1), (6, .iload_n 1), (7, .aload_n 0), (8, .getfield 72), (11, .if_icmp .ge 29), (14, .aload_n 0), (15, .getfield 46), (18, .iload_n 1), (19, .iaload), (20, .invokestatic 274), (23, .aload_n 0), (24, .getfield 64), (27, .iload_n 1), (28, .iaload), (29, .if_icmp .eq 5), (32, .iconst 0), (33, .ireturn), (34, .iinc 1 1), (37, .goto (-31)), (40, .iconst 1), (41, .ireturn)]
def mX8_isSo : aM := (yX8_isSo, prog_10_method_88_code, tX8_isSo, 2, (some .boolean), flX8, ksX8)
theorem okX8_isSo : aOK mX8_isSo := ⟨by decide +kernel, flokX8, ksokX8, by decide⟩
theorem caX8_isSo : aCal mX8_isSo 0 := ⟨aBW_at 1388 (by decide +kernel) (by decide +kernel), iniX8, ⟨by decide +kernel, by decide +kernel⟩, by decide +kernel, by decide +kernel, by decide⟩
def yX8_bitsFor : MethodName := ⟨RX8, "bitsFo\x72", "([III)I"⟩
def tX8_bitsFor : List (Nat × Instr) := [(0, .aload_n 1), (1, .iload_n 2), (2, .iaload), (3, .istore 4), (5, .iconst 0), (6, .istore 5), (8, .iconst 0), (9, .istore 6), (11, .iload 6), (13, .iload_n 3), (14, .if_icmp .ge 34), (17, .aload_n 1), (18, .iload_n 2), (19, .iload 6), (21, .iastore), (22, .iload 5), (24, .aload_n 0), (25, .invokevirtual 277), (28, .ifCond .eq 10), (31, .iconst 1), (32, .iload 6), (34, .ishl), (35, .goto 4), (38, .iconst 0), (39, .ior), (40, .istore 5), (42, .iinc 6 1), (45, .goto (-34)), (48, .aload_n 1), (49, .iload_n 2), (50, .iload 4), (52, .iastore), (53, .iload 5), (55, .ireturn)]
def mX8_bitsFor : aM := (yX8_bitsFor, prog_10_method_89_code, tX8_bitsFor, 7, (some .int), flX8, ksX8)
theorem okX8_bitsFor : aOK mX8_bitsFor := ⟨by decide +kernel, flokX8, ksokX8, by decide⟩
theorem caX8_bitsFor : aCal mX8_bitsFor 3 := ⟨aBW_at 1384 (by decide +kernel) (by decide +kernel), iniX8, ⟨by decide +kernel, by decide +kernel⟩, by decide +kernel, by decide +kernel, by decide⟩
def yX8_whatIs : MethodName := ⟨RX8, "whatIs", "(II)I"⟩
def tX8_whatIs : List (Nat × Instr) := [(0, .aload_n 0), (1, .iload_n 1), (2, .invokevirtual 75), (5, .ifCond .ne 7), (8, .iconst (-1)), (9, .goto 34), (12, .iload_n 2), (13, .iconst 0), (14, .iconst 1), (15, .invokestatic 97), (18, .ifCond .ne 8), (21, .bipush (-2)), (23, .goto 20), (26, .aload_n 0), (27, .getfield 280), (30, .aload_n 0), (31, .getfield 72), (34, .if_icmp .eq 8), (37, .bipush (-3)), (39, .goto 4), (42, .iconst 0), (43, .istore_n 3), (44, .iload_n 3), (45, .ifCond .eq 9), (48, .aload_n 0), (49, .iload_n 3), (50, .invokevirtual 86), (53, .ireturn), (54, .iload_n 2), (55, .ifCond .ne 17), (58, .aload_n 0), (59, .aload_n 0), (60, .getfield 13), (63, .iload_n 1), (64, .bipush 6), (66, .invokevirtual 283), (69, .goto 14), (72, .aload_n 0), (73, .aload_n 0), (74, .getfield 16), (77, .iload_n 1), (78, .bipush 10), (80, .invokevirtual 283), (83, .ireturn)]
def mX8_whatIs : aM := (yX8_whatIs, prog_10_method_90_code, tX8_whatIs, 4, (some .int), flX8, ksX8)
theorem okX8_whatIs : aOK mX8_whatIs := ⟨by decide +kernel, flokX8, ksokX8, by decide⟩
theorem caX8_whatIs : aCal mX8_whatIs 2 := ⟨aBW_at 1380 (by decide +kernel) (by decide +kernel), iniX8, ⟨by decide +kernel, by decide +kernel⟩, by decide +kernel, by decide +kernel, by decide⟩
def yX8_row : MethodName := ⟨RX8, "row", "(I)I"⟩
def tX8_row : List (Nat × Instr) := [(0, .iload_n 1), (1, .iconst 0), (2, .bipush 99), (4, .invokestatic 79), (7, .istore_n 2), (8, .iload_n 2), (9, .ifCond .ne 15), (12, .aload_n 0), (13, .getfield 280), (16, .bipush 12), (18, .if_icmp .ne 6), (21, .bipush (-6)), (23, .istore_n 2), (24, .iload_n 2), (25, .ifCond .eq 9), (28, .aload_n 0), (29, .iload_n 2), (30, .invokevirtual 86), (33, .ireturn), (34, .aload_n 0), (35, .getfield 64), (38, .aload_n 0), (39, .getfield 280), (42, .iload_n 1), (43, .iastore), (44, .aload_n 0), (45, .dup), (46, .getfield 280), (49, .iconst 1), (50, .iadd), (51, .putfield 280), (54, .aload_n 0), (55, .getfield 280), (58, .ireturn)]
def mX8_row : aM := (yX8_row, prog_10_method_91_code, tX8_row, 3, (some .int), flX8, ksX8)
theorem okX8_row : aOK mX8_row := ⟨by decide +kernel, flokX8, ksokX8, by decide⟩
theorem caX8_row : aCal mX8_row 1 := ⟨aBW_at 1395 (by decide +kernel) (by decide +kernel), iniX8, ⟨by decide +kernel, by decide +kernel⟩, by decide +kernel, by decide +kernel, by decide⟩
def yX8_judge : MethodName := ⟨RX8, "judge", "(I)I"⟩
def tX8_judge : List (Nat × Instr) := [(0, .aload_n 0), (1, .iload_n 1), (2, .invokevirtual 75), (5, .ifCond .ne 9), (8, .aload_n 0), (9, .iconst (-1)), (10, .invokevirtual 86), (13, .ireturn), (14, .aload_n 0), (15, .getfield 280), (18, .istore_n 2), (19, .aload_n 0), (20, .iconst 0), (21, .putfield 280), (24, .aload_n 0), (25, .invokevirtual 214), (28, .bipush (-9)), (30, .istore_n 3), (31, .iconst 0), (32, .istore 4), (34, .iload 4), (36, .iload_n 2), (37, .if_icmp .ge 48), (40, .iload_n 3), (41, .ifCond .ge 44), (44, .aload_n 0), (45, .getfield 25), (48, .iload_n 1), (49, .iaload), (50, .invokestatic 274), (53, .aload_n 0), (54, .getfield 64), (57, .iload 4), (59, .iaload), (60, .if_icmp .ne 8), (63, .bipush (-9)), (65, .goto 5), (68, .iload 4), (70, .istore_n 3), (71, .aload_n 0), (72, .bipush (-9)), (74, .bipush (-9)), (76, .invokevirtual 127), (79, .iinc 4 1), (82, .goto (-48)), (85, .aload_n 0), (86, .invokevirtual 220), (89, .iload_n 3), (90, .ireturn)]
def mX8_judge : aM := (yX8_judge, prog_10_method_92_code, tX8_judge, 5, (some .int), flX8, ksX8)
theorem okX8_judge : aOK mX8_judge := ⟨by decide +kernel, flokX8, ksokX8, by decide⟩
theorem caX8_judge : aCal mX8_judge 1 := ⟨aBW_at 1399 (by decide +kernel) (by decide +kernel), iniX8, ⟨by decide +kernel, by decide +kernel⟩, by decide +kernel, by decide +kernel, by decide⟩
def yX8_clear : MethodName := ⟨RX8, "clea\x72", "()I"⟩
def tX8_clear : List (Nat × Instr) := [(0, .aload_n 0), (1, .getfield 280), (4, .istore_n 1), (5, .aload_n 0), (6, .iconst 0), (7, .putfield 280), (10, .iload_n 1), (11, .ireturn)]
def mX8_clear : aM := (yX8_clear, prog_10_method_93_code, tX8_clear, 2, (some .int), flX8, ksX8)
theorem okX8_clear : aOK mX8_clear := ⟨by decide +kernel, flokX8, ksokX8, by decide⟩
theorem caX8_clear : aCal mX8_clear 0 := ⟨aBW_at 1403 (by decide +kernel) (by decide +kernel), iniX8, ⟨by decide +kernel, by decide +kernel⟩, by decide +kernel, by decide +kernel, by decide⟩
def yX8_lots : MethodName := ⟨RX8, "lots", "(III)I"⟩
def tX8_lots : List (Nat × Instr) := [(0, .iload_n 1), (1, .iconst 1), (2, .bipush 20), (4, .invokestatic 79), (7, .istore 4), (9, .iload 4), (11, .ifCond .ne 32), (14, .iload_n 3), (15, .iconst 0), (16, .iconst 1), (17, .invokestatic 97), (20, .ifCond .ne 8), (23, .bipush (-2)), (25, .goto 16), (28, .aload_n 0), (29, .getfield 72), (32, .ifCond .ne 8), (35, .bipush (-3)), (37, .goto 4), (40, .iconst 0), (41, .istore 4), (43, .iload 4), (45, .ifCond .eq 10), (48, .aload_n 0), (49, .iload 4), (51, .invokevirtual 86), (54, .ireturn), (55, .iload_n 2), (56, .istore 5), (58, .iconst 0), (59, .istore 6), (61, .iconst 0), (62, .istore 7), (64, .aload_n 0), (65, .invokevirtual 214), (68, .iconst 0), (69, .istore 8), (71, .iload 8), (73, .iload_n 1), (74, .if_icmp .ge 118), (77, .iconst 0), (78, .istore 9), (80, .iload 9), (82, .aload_n 0), (83, .getfield 72), (86, .if_icmp .ge 41), (89, .iload 5), (91, .ldc_w 287), (94, .imul), (95, .ldc_w 288), (98, .iadd), (99, .istore 5), (101, .aload_n 0), (102, .getfield 19), (105, .iload 9), (107, .iload 5), (109, .ldc_w 289), (112, .iand), (113, .sipush 256), (116, .idiv), (117, .bipush 36), (119, .irem), (120, .iastore), (121, .iinc 9 1), (124, .goto (-44)), (127, .aload_n 0), (128, .invokevirtual 202), (131, .iload 6), (133, .aload_n 0), (134, .getfield 46), (137, .iconst 0), (138, .iaload), (139, .iadd), (140, .istore 6), (142, .iconst 0), (143, .istore 9), (145, .iload 9), (147, .aload_n 0), (148, .getfield 72), (151, .if_icmp .ge 35), (154, .iload 7), (156, .aload_n 0), (157, .iload 9), (159, .invokevirtual 208), (162, .aload_n 0), (163, .getfield 22), (166, .iload 9), (168, .iaload), (169, .if_icmp .lt 7), (172, .iconst 1), (173, .goto 4), (176, .iconst 0), (177, .iadd), (178, .istore 7), (180, .iinc 9 1), (183, .goto (-38)), (186, .iinc 8 1), (189, .goto (-118)), (192, .aload_n 0), (193, .invokevirtual 220), (196, .iload_n 3), (197, .ifCond .ne 8), (200, .iload 6), (202, .goto 5), (205, .iload 7), (207, .ireturn)]
def mX8_lots : aM := (yX8_lots, prog_10_method_94_code, tX8_lots, 10, (some .int), flX8, ksX8)
theorem okX8_lots : aOK mX8_lots := ⟨by decide +kernel, flokX8, ksokX8, by decide⟩
theorem caX8_lots : aCal mX8_lots 3 := ⟨aBW_at 1407 (by decide +kernel) (by decide +kernel), iniX8, ⟨by decide +kernel, by decide +kernel⟩, by decide +kernel, by decide +kernel, by decide⟩
def yX8_count : MethodName := ⟨RX8, "count", "(I)I"⟩
def tX8_count : List (Nat × Instr) := [(0, .iload_n 1), (1, .bipush 11), (3, .bipush 16), (5, .invokestatic 97), (8, .ifCond .eq 13), (11, .aload_n 0), (12, .getfield 7), (15, .iload_n 1), (16, .bipush 10), (18, .isub), (19, .iaload), (20, .ireturn), (21, .iconst 0), (22, .istore_n 2), (23, .iload_n 1), (24, .tableswitch 132 0 7 #[48, 53, 58, 63, 68, 95, 122, 127]), (72, .aload_n 0), (73, .getfield 72), (76, .ireturn), (77, .aload_n 0), (78, .getfield 124), (81, .ireturn), (82, .aload_n 0), (83, .getfield 67), (86, .ireturn), (87, .aload_n 0), (88, .invokevirtual 196), (91, .ireturn), (92, .iconst 0), (93, .istore_n 3), (94, .iload_n 3), (95, .aload_n 0), (96, .getfield 72), (99, .if_icmp .ge 18), (102, .iload_n 2), (103, .aload_n 0), (104, .getfield 22), (107, .iload_n 3), (108, .iaload), (109, .iadd), (110, .istore_n 2), (111, .iinc 3 1), (114, .goto (-20)), (117, .iload_n 2), (118, .ireturn), (119, .iconst 0), (120, .istore_n 3), (121, .iload_n 3), (122, .aload_n 0), (123, .getfield 72), (126, .if_icmp .ge 18), (129, .iload_n 2), (130, .aload_n 0), (131, .getfield 25), (134, .iload_n 3), (135, .iaload), (136, .iadd), (137, .istore_n 2), (138, .iinc 3 1), (141, .goto (-20)), (144, .iload_n 2), (145, .ireturn), (146, .aload_n 0), (147, .getfield 280), (150, .ireturn), (151, .aload_n 0), (152, .getfield 83), (155, .ireturn), (156, .bipush (-9)), (158, .ireturn)]
def mX8_count : aM := (yX8_count, prog_10_method_95_code, tX8_count, 4, (some .int), flX8, ksX8)
theorem okX8_count : aOK mX8_count := ⟨by decide +kernel, flokX8, ksokX8, by decide⟩
theorem caX8_count : aCal mX8_count 1 := ⟨aBW_at 1414 (by decide +kernel) (by decide +kernel), iniX8, ⟨by decide +kernel, by decide +kernel⟩, by decide +kernel, by decide +kernel, by decide⟩
def yJ6_bitCount_0f7a4 : MethodName := ⟨RJ6, "bitCount", "(I)I"⟩
def tJ6_bitCount_0f7a4 : List (Nat × Instr) := [(0, .iload_n 0), (1, .iload_n 0), (2, .iconst 1), (3, .iushr), (4, .ldc_w 265), (7, .iand), (8, .isub), (9, .istore_n 0), (10, .iload_n 0), (11, .ldc_w 266), (14, .iand), (15, .iload_n 0), (16, .iconst 2), (17, .iushr), (18, .ldc_w 266), (21, .iand), (22, .iadd), (23, .istore_n 0), (24, .iload_n 0), (25, .iload_n 0), (26, .iconst 4), (27, .iushr), (28, .iadd), (29, .ldc_w 267), (32, .iand), (33, .istore_n 0), (34, .iload_n 0), (35, .iload_n 0), (36, .bipush 8), (38, .iushr), (39, .iadd), (40, .istore_n 0), (41, .iload_n 0), (42, .iload_n 0), (43, .bipush 16), (45, .iushr), (46, .iadd), (47, .istore_n 0), (48, .iload_n 0), (49, .bipush 63), (51, .iand), (52, .ireturn)]
def mJ6_bitCount_0f7a4 : aM := (yJ6_bitCount_0f7a4, prog_11_method_49_code, tJ6_bitCount_0f7a4, 1, (some .int), flJ6, ksJ6)
theorem okJ6_bitCount_0f7a4 : aOK mJ6_bitCount_0f7a4 := ⟨by decide +kernel, flokJ6, ksokJ6, by decide⟩
theorem caJ6_bitCount_0f7a4 : aCal mJ6_bitCount_0f7a4 1 := ⟨aBW_at 579 (by decide +kernel) (by decide +kernel), iniJ6, ⟨by decide +kernel, by decide +kernel⟩, by decide +kernel, by decide +kernel, by decide⟩
theorem lkX7_21 : aLkI RX7 21 mX0_init := ⟨aBW_at 155 (by decide +kernel) (by decide +kernel), aBW_at 156 (by decide +kernel) (by decide +kernel), rfl, rfl⟩
theorem lkX7_30 : aLkI RX7 30 mX5_init := ⟨aBW_at 168 (by decide +kernel) (by decide +kernel), aBW_at 169 (by decide +kernel) (by decide +kernel), rfl, rfl⟩
theorem lkX7_37 : aLkI RX7 37 mX2_init := ⟨aBW_at 202 (by decide +kernel) (by decide +kernel), aBW_at 203 (by decide +kernel) (by decide +kernel), rfl, rfl⟩
theorem lkX7_60 : aLkI RX7 60 mX4_init := ⟨aBW_at 237 (by decide +kernel) (by decide +kernel), aBW_at 102 (by decide +kernel) (by decide +kernel), rfl, rfl⟩
theorem lkX7_74 : aLkV RX7 74 mX7_refuse := ⟨aBW_at 276 (by decide +kernel) (by decide +kernel), aBW_at 278 (by decide +kernel) (by decide +kernel), aBW_at 0 (by decide +kernel) (by decide +kernel)⟩
theorem lkX7_78 : aLkV RX7 78 mX6_hasRoom := ⟨aBW_at 288 (by decide +kernel) (by decide +kernel), aBW_at 289 (by decide +kernel) (by decide +kernel), aBW_at 290 (by decide +kernel) (by decide +kernel)⟩
theorem lkX7_82 : aLkV RX7 82 mX6_append := ⟨aBW_at 292 (by decide +kernel) (by decide +kernel), aBW_at 293 (by decide +kernel) (by decide +kernel), aBW_at 294 (by decide +kernel) (by decide +kernel)⟩
theorem lkX7_85 : aLkV RX7 85 mX3_takeFrom := ⟨aBW_at 301 (by decide +kernel) (by decide +kernel), aBW_at 302 (by decide +kernel) (by decide +kernel), aBW_at 303 (by decide +kernel) (by decide +kernel)⟩
theorem lkX7_88 : aLkV RX7 88 mX6_tellTo := ⟨aBW_at 310 (by decide +kernel) (by decide +kernel), aBW_at 311 (by decide +kernel) (by decide +kernel), aBW_at 312 (by decide +kernel) (by decide +kernel)⟩
theorem lkX7_92 : aLkV RX7 92 mX6_drop := ⟨aBW_at 484 (by decide +kernel) (by decide +kernel), aBW_at 485 (by decide +kernel) (by decide +kernel), aBW_at 486 (by decide +kernel) (by decide +kernel)⟩
theorem lkX7_95 : aLkV RX7 95 mX3_isThere := ⟨aBW_at 493 (by decide +kernel) (by decide +kernel), aBW_at 447 (by decide +kernel) (by decide +kernel), aBW_at 448 (by decide +kernel) (by decide +kernel)⟩
theorem lkX7_99 : aLkV RX7 99 mX3_kindOf := ⟨aBW_at 494 (by decide +kernel) (by decide +kernel), aBW_at 495 (by decide +kernel) (by decide +kernel), aBW_at 496 (by decide +kernel) (by decide +kernel)⟩
theorem lkX7_102 : aLkV RX7 102 mX3_figureOf := ⟨aBW_at 498 (by decide +kernel) (by decide +kernel), aBW_at 499 (by decide +kernel) (by decide +kernel), aBW_at 500 (by decide +kernel) (by decide +kernel)⟩
theorem lkX7_105 : aLkV RX7 105 mX3_cellOf := ⟨aBW_at 502 (by decide +kernel) (by decide +kernel), aBW_at 503 (by decide +kernel) (by decide +kernel), aBW_at 504 (by decide +kernel) (by decide +kernel)⟩
theorem lkX7_108 : aLkV RX7 108 mX3_needOf := ⟨aBW_at 506 (by decide +kernel) (by decide +kernel), aBW_at 507 (by decide +kernel) (by decide +kernel), aBW_at 508 (by decide +kernel) (by decide +kernel)⟩
theorem lkX7_111 : aLkV RX7 111 mX3_keptOf := ⟨aBW_at 510 (by decide +kernel) (by decide +kernel), aBW_at 511 (by decide +kernel) (by decide +kernel), aBW_at 512 (by decide +kernel) (by decide +kernel)⟩
theorem lkX7_114 : aLkV RX7 114 mX3_weightOf := ⟨aBW_at 514 (by decide +kernel) (by decide +kernel), aBW_at 515 (by decide +kernel) (by decide +kernel), aBW_at 516 (by decide +kernel) (by decide +kernel)⟩
theorem lkX7_117 : aLkV RX7 117 mX3_shareOf := ⟨aBW_at 518 (by decide +kernel) (by decide +kernel), aBW_at 519 (by decide +kernel) (by decide +kernel), aBW_at 520 (by decide +kernel) (by decide +kernel)⟩
theorem lkX7_120 : aLkV RX7 120 mX7_refuseFar := ⟨aBW_at 526 (by decide +kernel) (by decide +kernel), aBW_at 528 (by decide +kernel) (by decide +kernel), aBW_at 12 (by decide +kernel) (by decide +kernel)⟩
theorem lkX7_123 : aLkV RX7 123 mX3_hasOf := ⟨aBW_at 531 (by decide +kernel) (by decide +kernel), aBW_at 480 (by decide +kernel) (by decide +kernel), aBW_at 481 (by decide +kernel) (by decide +kernel)⟩
theorem lkX7_126 : aLkV RX7 126 mX3_areTwo := ⟨aBW_at 536 (by decide +kernel) (by decide +kernel), aBW_at 455 (by decide +kernel) (by decide +kernel), aBW_at 456 (by decide +kernel) (by decide +kernel)⟩
theorem lkX7_130 : aLkV RX7 130 mX3_lentBy := ⟨aBW_at 537 (by decide +kernel) (by decide +kernel), aBW_at 420 (by decide +kernel) (by decide +kernel), aBW_at 421 (by decide +kernel) (by decide +kernel)⟩
theorem lkX7_134 : aLkS RX7 134 mX7_isCell := ⟨aBW_at 542 (by decide +kernel) (by decide +kernel), aBW_at 400 (by decide +kernel) (by decide +kernel)⟩
theorem lkX7_137 : aLkV RX7 137 mX3_place := ⟨aBW_at 543 (by decide +kernel) (by decide +kernel), aBW_at 451 (by decide +kernel) (by decide +kernel), aBW_at 452 (by decide +kernel) (by decide +kernel)⟩
theorem lkX7_141 : aLkV RX7 141 mX3_setLent := ⟨aBW_at 548 (by decide +kernel) (by decide +kernel), aBW_at 460 (by decide +kernel) (by decide +kernel), aBW_at 461 (by decide +kernel) (by decide +kernel)⟩
theorem lkX7_145 : aLkV RX7 145 mX3_setKept := ⟨aBW_at 553 (by decide +kernel) (by decide +kernel), aBW_at 464 (by decide +kernel) (by decide +kernel), aBW_at 465 (by decide +kernel) (by decide +kernel)⟩
theorem lkX7_148 : aLkV RX7 148 mX3_setNeed := ⟨aBW_at 558 (by decide +kernel) (by decide +kernel), aBW_at 559 (by decide +kernel) (by decide +kernel), aBW_at 560 (by decide +kernel) (by decide +kernel)⟩
theorem lkX7_151 : aLkV RX7 151 mX3_total := ⟨aBW_at 566 (by decide +kernel) (by decide +kernel), aBW_at 567 (by decide +kernel) (by decide +kernel), aBW_at 568 (by decide +kernel) (by decide +kernel)⟩
theorem lkX7_155 : aLkV RX7 155 mX3_setTotal := ⟨aBW_at 570 (by decide +kernel) (by decide +kernel), aBW_at 468 (by decide +kernel) (by decide +kernel), aBW_at 469 (by decide +kernel) (by decide +kernel)⟩
theorem lkX7_158 : aLkV RX7 158 mX3_day := ⟨aBW_at 575 (by decide +kernel) (by decide +kernel), aBW_at 472 (by decide +kernel) (by decide +kernel), aBW_at 473 (by decide +kernel) (by decide +kernel)⟩
theorem lkX7_161 : aLkV RX7 161 mX3_passDays := ⟨aBW_at 576 (by decide +kernel) (by decide +kernel), aBW_at 476 (by decide +kernel) (by decide +kernel), aBW_at 477 (by decide +kernel) (by decide +kernel)⟩
theorem lkX7_164 : aLkS RX7 164 mJ6_bitCount_0f7a4 := ⟨aBW_at 577 (by decide +kernel) (by decide +kernel), aBW_at 578 (by decide +kernel) (by decide +kernel)⟩
theorem lkX7_169 : aLkV RX7 169 mX0_keptAfter := ⟨aBW_at 587 (by decide +kernel) (by decide +kernel), aBW_at 588 (by decide +kernel) (by decide +kernel), aBW_at 589 (by decide +kernel) (by decide +kernel)⟩
theorem lkX7_172 : aLkV RX7 172 mX0_shortDays := ⟨aBW_at 594 (by decide +kernel) (by decide +kernel), aBW_at 595 (by decide +kernel) (by decide +kernel), aBW_at 596 (by decide +kernel) (by decide +kernel)⟩
theorem lkX7_175 : aLkV RX7 175 mX0_firstShortDay := ⟨aBW_at 602 (by decide +kernel) (by decide +kernel), aBW_at 603 (by decide +kernel) (by decide +kernel), aBW_at 604 (by decide +kernel) (by decide +kernel)⟩
theorem lkX7_178 : aLkV RX7 178 mX0_firstShortOne := ⟨aBW_at 606 (by decide +kernel) (by decide +kernel), aBW_at 607 (by decide +kernel) (by decide +kernel), aBW_at 608 (by decide +kernel) (by decide +kernel)⟩
theorem lkX7_181 : aLkV RX7 181 mX0_daysTillShort := ⟨aBW_at 615 (by decide +kernel) (by decide +kernel), aBW_at 616 (by decide +kernel) (by decide +kernel), aBW_at 617 (by decide +kernel) (by decide +kernel)⟩
theorem lkX7_184 : aLkV RX7 184 mX5_richestCell := ⟨aBW_at 623 (by decide +kernel) (by decide +kernel), aBW_at 624 (by decide +kernel) (by decide +kernel), aBW_at 625 (by decide +kernel) (by decide +kernel)⟩
theorem lkX7_187 : aLkV RX7 187 mX5_shareIn := ⟨aBW_at 630 (by decide +kernel) (by decide +kernel), aBW_at 631 (by decide +kernel) (by decide +kernel), aBW_at 632 (by decide +kernel) (by decide +kernel)⟩
theorem lkX7_190 : aLkV RX7 190 mX5_kindCell := ⟨aBW_at 634 (by decide +kernel) (by decide +kernel), aBW_at 635 (by decide +kernel) (by decide +kernel), aBW_at 636 (by decide +kernel) (by decide +kernel)⟩
theorem lkX7_193 : aLkV RX7 193 mX5_takenBy := ⟨aBW_at 648 (by decide +kernel) (by decide +kernel), aBW_at 649 (by decide +kernel) (by decide +kernel), aBW_at 650 (by decide +kernel) (by decide +kernel)⟩
theorem lkX7_196 : aLkV RX7 196 mX5_worstFor := ⟨aBW_at 664 (by decide +kernel) (by decide +kernel), aBW_at 665 (by decide +kernel) (by decide +kernel), aBW_at 666 (by decide +kernel) (by decide +kernel)⟩
theorem lkX7_199 : aLkV RX7 199 mX3_people := ⟨aBW_at 673 (by decide +kernel) (by decide +kernel), aBW_at 403 (by decide +kernel) (by decide +kernel), aBW_at 404 (by decide +kernel) (by decide +kernel)⟩
theorem lkX7_202 : aLkV RX7 202 mX5_sharesBesideOneMoreIn := ⟨aBW_at 674 (by decide +kernel) (by decide +kernel), aBW_at 675 (by decide +kernel) (by decide +kernel), aBW_at 676 (by decide +kernel) (by decide +kernel)⟩
theorem lkX7_205 : aLkV RX7 205 mX3_allShares := ⟨aBW_at 680 (by decide +kernel) (by decide +kernel), aBW_at 681 (by decide +kernel) (by decide +kernel), aBW_at 682 (by decide +kernel) (by decide +kernel)⟩
theorem lkX7_208 : aLkV RX7 208 mX5_bestLeaver := ⟨aBW_at 688 (by decide +kernel) (by decide +kernel), aBW_at 689 (by decide +kernel) (by decide +kernel), aBW_at 690 (by decide +kernel) (by decide +kernel)⟩
theorem lkX7_211 : aLkV RX7 211 mX5_gainersWithout := ⟨aBW_at 697 (by decide +kernel) (by decide +kernel), aBW_at 693 (by decide +kernel) (by decide +kernel), aBW_at 694 (by decide +kernel) (by decide +kernel)⟩
theorem lkX7_214 : aLkV RX7 214 mX3_contentBits := ⟨aBW_at 702 (by decide +kernel) (by decide +kernel), aBW_at 703 (by decide +kernel) (by decide +kernel), aBW_at 704 (by decide +kernel) (by decide +kernel)⟩
theorem lkX7_217 : aLkV RX7 217 mX2_mostGiven := ⟨aBW_at 710 (by decide +kernel) (by decide +kernel), aBW_at 711 (by decide +kernel) (by decide +kernel), aBW_at 712 (by decide +kernel) (by decide +kernel)⟩
theorem lkX7_220 : aLkV RX7 220 mX2_lackingOfAll := ⟨aBW_at 734 (by decide +kernel) (by decide +kernel), aBW_at 735 (by decide +kernel) (by decide +kernel), aBW_at 736 (by decide +kernel) (by decide +kernel)⟩
theorem lkX7_223 : aLkV RX7 223 mX3_netOf := ⟨aBW_at 742 (by decide +kernel) (by decide +kernel), aBW_at 743 (by decide +kernel) (by decide +kernel), aBW_at 744 (by decide +kernel) (by decide +kernel)⟩
theorem lkX7_226 : aLkV RX7 226 mX3_loansAboveNothing := ⟨aBW_at 750 (by decide +kernel) (by decide +kernel), aBW_at 751 (by decide +kernel) (by decide +kernel), aBW_at 752 (by decide +kernel) (by decide +kernel)⟩
theorem lkX7_229 : aLkV RX7 229 mX2_fewestLoans := ⟨aBW_at 754 (by decide +kernel) (by decide +kernel), aBW_at 755 (by decide +kernel) (by decide +kernel), aBW_at 756 (by decide +kernel) (by decide +kernel)⟩
theorem lkX7_232 : aLkV RX7 232 mX5_bestSurveyCell := ⟨aBW_at 767 (by decide +kernel) (by decide +kernel), aBW_at 768 (by decide +kernel) (by decide +kernel), aBW_at 769 (by decide +kernel) (by decide +kernel)⟩
theorem lkX7_235 : aLkV RX7 235 mX5_quarrelCell := ⟨aBW_at 776 (by decide +kernel) (by decide +kernel), aBW_at 777 (by decide +kernel) (by decide +kernel), aBW_at 778 (by decide +kernel) (by decide +kernel)⟩
theorem lkX7_239 : aLkV RX7 239 mX5_firstSteadyPair := ⟨aBW_at 786 (by decide +kernel) (by decide +kernel), aBW_at 787 (by decide +kernel) (by decide +kernel), aBW_at 788 (by decide +kernel) (by decide +kernel)⟩
theorem lkX7_242 : aLkV RX7 242 mX3_leastSteps := ⟨aBW_at 808 (by decide +kernel) (by decide +kernel), aBW_at 809 (by decide +kernel) (by decide +kernel), aBW_at 810 (by decide +kernel) (by decide +kernel)⟩
theorem lkX7_245 : aLkV RX7 245 mX3_mostSteps := ⟨aBW_at 817 (by decide +kernel) (by decide +kernel), aBW_at 818 (by decide +kernel) (by decide +kernel), aBW_at 819 (by decide +kernel) (by decide +kernel)⟩
theorem lkX7_248 : aLkV RX7 248 mX3_nearestPair := ⟨aBW_at 821 (by decide +kernel) (by decide +kernel), aBW_at 813 (by decide +kernel) (by decide +kernel), aBW_at 814 (by decide +kernel) (by decide +kernel)⟩
theorem lkX7_251 : aLkV RX7 251 mX5_leastTotalForAll := ⟨aBW_at 826 (by decide +kernel) (by decide +kernel), aBW_at 827 (by decide +kernel) (by decide +kernel), aBW_at 828 (by decide +kernel) (by decide +kernel)⟩
theorem lkX7_254 : aLkV RX7 254 mX0_keptAfterVisits := ⟨aBW_at 837 (by decide +kernel) (by decide +kernel), aBW_at 838 (by decide +kernel) (by decide +kernel), aBW_at 839 (by decide +kernel) (by decide +kernel)⟩
theorem lkX7_257 : aLkV RX7 257 mX5_kindsTold := ⟨aBW_at 848 (by decide +kernel) (by decide +kernel), aBW_at 849 (by decide +kernel) (by decide +kernel), aBW_at 850 (by decide +kernel) (by decide +kernel)⟩
theorem lkX7_261 : aLkV RX7 261 mX5_figuresTold := ⟨aBW_at 860 (by decide +kernel) (by decide +kernel), aBW_at 861 (by decide +kernel) (by decide +kernel), aBW_at 862 (by decide +kernel) (by decide +kernel)⟩
theorem lkX7_264 : aLkV RX7 264 mX4_put := ⟨aBW_at 284 (by decide +kernel) (by decide +kernel), aBW_at 285 (by decide +kernel) (by decide +kernel), aBW_at 286 (by decide +kernel) (by decide +kernel)⟩
theorem lkX7_267 : aLkV RX7 267 mX0_firstMistold := ⟨aBW_at 876 (by decide +kernel) (by decide +kernel), aBW_at 877 (by decide +kernel) (by decide +kernel), aBW_at 878 (by decide +kernel) (by decide +kernel)⟩
theorem lkX7_271 : aLkV RX7 271 mX5_firstSharesByLot := ⟨aBW_at 890 (by decide +kernel) (by decide +kernel), aBW_at 891 (by decide +kernel) (by decide +kernel), aBW_at 892 (by decide +kernel) (by decide +kernel)⟩
theorem lkX7_274 : aLkV RX7 274 mX5_contentByLot := ⟨aBW_at 909 (by decide +kernel) (by decide +kernel), aBW_at 910 (by decide +kernel) (by decide +kernel), aBW_at 911 (by decide +kernel) (by decide +kernel)⟩
theorem lkX7_277 : aLkV RX7 277 mX3_allWeights := ⟨aBW_at 925 (by decide +kernel) (by decide +kernel), aBW_at 926 (by decide +kernel) (by decide +kernel), aBW_at 927 (by decide +kernel) (by decide +kernel)⟩
theorem lkX7_280 : aLkV RX7 280 mX3_allNeeds := ⟨aBW_at 929 (by decide +kernel) (by decide +kernel), aBW_at 930 (by decide +kernel) (by decide +kernel), aBW_at 931 (by decide +kernel) (by decide +kernel)⟩
theorem lkX7_283 : aLkV RX7 283 mX3_allKept := ⟨aBW_at 937 (by decide +kernel) (by decide +kernel), aBW_at 938 (by decide +kernel) (by decide +kernel), aBW_at 939 (by decide +kernel) (by decide +kernel)⟩
theorem lkX7_286 : aLkV RX7 286 mX6_length := ⟨aBW_at 941 (by decide +kernel) (by decide +kernel), aBW_at 942 (by decide +kernel) (by decide +kernel), aBW_at 943 (by decide +kernel) (by decide +kernel)⟩
theorem lkX7_289 : aLkV RX7 289 mX4_at := ⟨aBW_at 280 (by decide +kernel) (by decide +kernel), aBW_at 281 (by decide +kernel) (by decide +kernel), aBW_at 282 (by decide +kernel) (by decide +kernel)⟩
theorem lkX0_18 : aLkV RX0 18 mX3_takeFrom := ⟨aBW_at 591 (by decide +kernel) (by decide +kernel), aBW_at 302 (by decide +kernel) (by decide +kernel), aBW_at 303 (by decide +kernel) (by decide +kernel)⟩
theorem lkX0_24 : aLkV RX0 24 mX3_passDays := ⟨aBW_at 592 (by decide +kernel) (by decide +kernel), aBW_at 476 (by decide +kernel) (by decide +kernel), aBW_at 477 (by decide +kernel) (by decide +kernel)⟩
theorem lkX0_28 : aLkV RX0 28 mX3_keptOf := ⟨aBW_at 593 (by decide +kernel) (by decide +kernel), aBW_at 511 (by decide +kernel) (by decide +kernel), aBW_at 512 (by decide +kernel) (by decide +kernel)⟩
theorem lkX0_31 : aLkV RX0 31 mX3_people := ⟨aBW_at 610 (by decide +kernel) (by decide +kernel), aBW_at 403 (by decide +kernel) (by decide +kernel), aBW_at 404 (by decide +kernel) (by decide +kernel)⟩
theorem lkX0_35 : aLkV RX0 35 mX3_day := ⟨aBW_at 841 (by decide +kernel) (by decide +kernel), aBW_at 472 (by decide +kernel) (by decide +kernel), aBW_at 473 (by decide +kernel) (by decide +kernel)⟩
theorem lkX0_38 : aLkV RX0 38 mX3_cellOf := ⟨aBW_at 842 (by decide +kernel) (by decide +kernel), aBW_at 503 (by decide +kernel) (by decide +kernel), aBW_at 504 (by decide +kernel) (by decide +kernel)⟩
theorem lkX0_41 : aLkV RX0 41 mX3_place := ⟨aBW_at 843 (by decide +kernel) (by decide +kernel), aBW_at 451 (by decide +kernel) (by decide +kernel), aBW_at 452 (by decide +kernel) (by decide +kernel)⟩
theorem lkX0_51 : aLkV RX0 51 mX4_at := ⟨aBW_at 881 (by decide +kernel) (by decide +kernel), aBW_at 281 (by decide +kernel) (by decide +kernel), aBW_at 282 (by decide +kernel) (by decide +kernel)⟩
theorem lkX2_11 : aLkI RX2 11 mX4_init := ⟨aBW_at 207 (by decide +kernel) (by decide +kernel), aBW_at 102 (by decide +kernel) (by decide +kernel), rfl, rfl⟩
theorem lkX2_30 : aLkV RX2 30 mX3_people := ⟨aBW_at 714 (by decide +kernel) (by decide +kernel), aBW_at 403 (by decide +kernel) (by decide +kernel), aBW_at 404 (by decide +kernel) (by decide +kernel)⟩
theorem lkX2_36 : aLkV RX2 36 mX3_needOf := ⟨aBW_at 716 (by decide +kernel) (by decide +kernel), aBW_at 507 (by decide +kernel) (by decide +kernel), aBW_at 508 (by decide +kernel) (by decide +kernel)⟩
theorem lkX2_40 : aLkV RX2 40 mX3_hasOf := ⟨aBW_at 715 (by decide +kernel) (by decide +kernel), aBW_at 480 (by decide +kernel) (by decide +kernel), aBW_at 481 (by decide +kernel) (by decide +kernel)⟩
theorem lkX2_49 : aLkV RX2 49 mX4_put := ⟨aBW_at 718 (by decide +kernel) (by decide +kernel), aBW_at 285 (by decide +kernel) (by decide +kernel), aBW_at 286 (by decide +kernel) (by decide +kernel)⟩
theorem lkX2_54 : aLkV RX2 54 mX2_cutBy := ⟨aBW_at 720 (by decide +kernel) (by decide +kernel), aBW_at 722 (by decide +kernel) (by decide +kernel), aBW_at 15 (by decide +kernel) (by decide +kernel)⟩
theorem lkX2_60 : aLkV RX2 60 mX4_at := ⟨aBW_at 724 (by decide +kernel) (by decide +kernel), aBW_at 281 (by decide +kernel) (by decide +kernel), aBW_at 282 (by decide +kernel) (by decide +kernel)⟩
theorem lkX2_63 : aLkV RX2 63 mX2_isNearGiverBeside := ⟨aBW_at 725 (by decide +kernel) (by decide +kernel), aBW_at 727 (by decide +kernel) (by decide +kernel), aBW_at 16 (by decide +kernel) (by decide +kernel)⟩
theorem lkX2_67 : aLkV RX2 67 mX3_stepsOf := ⟨aBW_at 729 (by decide +kernel) (by decide +kernel), aBW_at 730 (by decide +kernel) (by decide +kernel), aBW_at 731 (by decide +kernel) (by decide +kernel)⟩
theorem lkX2_70 : aLkV RX2 70 mX3_netOf := ⟨aBW_at 758 (by decide +kernel) (by decide +kernel), aBW_at 743 (by decide +kernel) (by decide +kernel), aBW_at 744 (by decide +kernel) (by decide +kernel)⟩
theorem lkX3_11 : aLkI RX3 11 mX4_init := ⟨aBW_at 101 (by decide +kernel) (by decide +kernel), aBW_at 102 (by decide +kernel) (by decide +kernel), rfl, rfl⟩
theorem lkX3_57 : aLkV RX3 57 mX4_takeFrom := ⟨aBW_at 305 (by decide +kernel) (by decide +kernel), aBW_at 306 (by decide +kernel) (by decide +kernel), aBW_at 307 (by decide +kernel) (by decide +kernel)⟩
theorem lkX3_61 : aLkV RX3 61 mX3_isThere := ⟨aBW_at 458 (by decide +kernel) (by decide +kernel), aBW_at 447 (by decide +kernel) (by decide +kernel), aBW_at 448 (by decide +kernel) (by decide +kernel)⟩
theorem lkX3_65 : aLkV RX3 65 mX4_at := ⟨aBW_at 423 (by decide +kernel) (by decide +kernel), aBW_at 281 (by decide +kernel) (by decide +kernel), aBW_at 282 (by decide +kernel) (by decide +kernel)⟩
theorem lkX3_73 : aLkV RX3 73 mX3_allOf := ⟨aBW_at 933 (by decide +kernel) (by decide +kernel), aBW_at 935 (by decide +kernel) (by decide +kernel), aBW_at 22 (by decide +kernel) (by decide +kernel)⟩
theorem lkX3_77 : aLkV RX3 77 mX3_hasOf := ⟨aBW_at 479 (by decide +kernel) (by decide +kernel), aBW_at 480 (by decide +kernel) (by decide +kernel), aBW_at 481 (by decide +kernel) (by decide +kernel)⟩
theorem lkX3_80 : aLkV RX3 80 mX3_lentBy := ⟨aBW_at 419 (by decide +kernel) (by decide +kernel), aBW_at 420 (by decide +kernel) (by decide +kernel), aBW_at 421 (by decide +kernel) (by decide +kernel)⟩
theorem lkX3_83 : aLkV RX3 83 mX3_stepsOf := ⟨aBW_at 816 (by decide +kernel) (by decide +kernel), aBW_at 730 (by decide +kernel) (by decide +kernel), aBW_at 731 (by decide +kernel) (by decide +kernel)⟩
theorem lkX3_91 : aLkV RX3 91 mX3_nearestPair := ⟨aBW_at 812 (by decide +kernel) (by decide +kernel), aBW_at 813 (by decide +kernel) (by decide +kernel), aBW_at 814 (by decide +kernel) (by decide +kernel)⟩
theorem lkX3_95 : aLkV RX3 95 mX3_shareOut := ⟨aBW_at 442 (by decide +kernel) (by decide +kernel), aBW_at 444 (by decide +kernel) (by decide +kernel), aBW_at 11 (by decide +kernel) (by decide +kernel)⟩
theorem lkX3_98 : aLkV RX3 98 mX4_put := ⟨aBW_at 410 (by decide +kernel) (by decide +kernel), aBW_at 285 (by decide +kernel) (by decide +kernel), aBW_at 286 (by decide +kernel) (by decide +kernel)⟩
theorem lkX3_102 : aLkV RX3 102 mX3_putLent := ⟨aBW_at 411 (by decide +kernel) (by decide +kernel), aBW_at 413 (by decide +kernel) (by decide +kernel), aBW_at 7 (by decide +kernel) (by decide +kernel)⟩
theorem lkX3_106 : aLkV RX3 106 mX3_netLoans := ⟨aBW_at 415 (by decide +kernel) (by decide +kernel), aBW_at 417 (by decide +kernel) (by decide +kernel), aBW_at 8 (by decide +kernel) (by decide +kernel)⟩
theorem lkX3_109 : aLkV RX3 109 mX3_weigh := ⟨aBW_at 424 (by decide +kernel) (by decide +kernel), aBW_at 426 (by decide +kernel) (by decide +kernel), aBW_at 9 (by decide +kernel) (by decide +kernel)⟩
theorem lkX3_115 : aLkV RX3 115 mX3_weightNow := ⟨aBW_at 428 (by decide +kernel) (by decide +kernel), aBW_at 430 (by decide +kernel) (by decide +kernel), aBW_at 10 (by decide +kernel) (by decide +kernel)⟩
theorem lkX4_19 : aLkV RX4 19 mX4_at := ⟨aBW_at 309 (by decide +kernel) (by decide +kernel), aBW_at 281 (by decide +kernel) (by decide +kernel), aBW_at 282 (by decide +kernel) (by decide +kernel)⟩
theorem lkX5_20 : aLkI RX5 20 mX4_init := ⟨aBW_at 183 (by decide +kernel) (by decide +kernel), aBW_at 102 (by decide +kernel) (by decide +kernel), rfl, rfl⟩
theorem lkX5_37 : aLkV RX5 37 mX3_takeFrom := ⟨aBW_at 627 (by decide +kernel) (by decide +kernel), aBW_at 302 (by decide +kernel) (by decide +kernel), aBW_at 303 (by decide +kernel) (by decide +kernel)⟩
theorem lkX5_43 : aLkV RX5 43 mX3_place := ⟨aBW_at 628 (by decide +kernel) (by decide +kernel), aBW_at 451 (by decide +kernel) (by decide +kernel), aBW_at 452 (by decide +kernel) (by decide +kernel)⟩
theorem lkX5_47 : aLkV RX5 47 mX3_shareOf := ⟨aBW_at 629 (by decide +kernel) (by decide +kernel), aBW_at 519 (by decide +kernel) (by decide +kernel), aBW_at 520 (by decide +kernel) (by decide +kernel)⟩
theorem lkX5_51 : aLkV RX5 51 mX5_leastShareBeside := ⟨aBW_at 638 (by decide +kernel) (by decide +kernel), aBW_at 640 (by decide +kernel) (by decide +kernel), aBW_at 13 (by decide +kernel) (by decide +kernel)⟩
theorem lkX5_54 : aLkV RX5 54 mX3_people := ⟨aBW_at 642 (by decide +kernel) (by decide +kernel), aBW_at 403 (by decide +kernel) (by decide +kernel), aBW_at 404 (by decide +kernel) (by decide +kernel)⟩
theorem lkX5_64 : aLkV RX5 64 mX3_remove := ⟨aBW_at 652 (by decide +kernel) (by decide +kernel), aBW_at 653 (by decide +kernel) (by decide +kernel), aBW_at 654 (by decide +kernel) (by decide +kernel)⟩
theorem lkX5_67 : aLkV RX5 67 mX5_numberWithout := ⟨aBW_at 656 (by decide +kernel) (by decide +kernel), aBW_at 658 (by decide +kernel) (by decide +kernel), aBW_at 14 (by decide +kernel) (by decide +kernel)⟩
theorem lkX5_70 : aLkV RX5 70 mX5_takenBy := ⟨aBW_at 668 (by decide +kernel) (by decide +kernel), aBW_at 649 (by decide +kernel) (by decide +kernel), aBW_at 650 (by decide +kernel) (by decide +kernel)⟩
theorem lkX5_73 : aLkV RX5 73 mX3_add := ⟨aBW_at 678 (by decide +kernel) (by decide +kernel), aBW_at 407 (by decide +kernel) (by decide +kernel), aBW_at 408 (by decide +kernel) (by decide +kernel)⟩
theorem lkX5_77 : aLkV RX5 77 mX3_total := ⟨aBW_at 679 (by decide +kernel) (by decide +kernel), aBW_at 567 (by decide +kernel) (by decide +kernel), aBW_at 568 (by decide +kernel) (by decide +kernel)⟩
theorem lkX5_80 : aLkV RX5 80 mX5_sharesBesideOneMoreIn := ⟨aBW_at 771 (by decide +kernel) (by decide +kernel), aBW_at 675 (by decide +kernel) (by decide +kernel), aBW_at 676 (by decide +kernel) (by decide +kernel)⟩
theorem lkX5_83 : aLkV RX5 83 mX3_hasOf := ⟨aBW_at 696 (by decide +kernel) (by decide +kernel), aBW_at 480 (by decide +kernel) (by decide +kernel), aBW_at 481 (by decide +kernel) (by decide +kernel)⟩
theorem lkX5_86 : aLkV RX5 86 mX5_gainersWithout := ⟨aBW_at 692 (by decide +kernel) (by decide +kernel), aBW_at 693 (by decide +kernel) (by decide +kernel), aBW_at 694 (by decide +kernel) (by decide +kernel)⟩
theorem lkX5_89 : aLkV RX5 89 mX3_cellOf := ⟨aBW_at 780 (by decide +kernel) (by decide +kernel), aBW_at 503 (by decide +kernel) (by decide +kernel), aBW_at 504 (by decide +kernel) (by decide +kernel)⟩
theorem lkX5_95 : aLkV RX5 95 mX5_weighChoices := ⟨aBW_at 790 (by decide +kernel) (by decide +kernel), aBW_at 792 (by decide +kernel) (by decide +kernel), aBW_at 17 (by decide +kernel) (by decide +kernel)⟩
theorem lkX5_98 : aLkV RX5 98 mX5_isSteady := ⟨aBW_at 799 (by decide +kernel) (by decide +kernel), aBW_at 801 (by decide +kernel) (by decide +kernel), aBW_at 19 (by decide +kernel) (by decide +kernel)⟩
theorem lkX5_102 : aLkV RX5 102 mX5_chosenCell := ⟨aBW_at 794 (by decide +kernel) (by decide +kernel), aBW_at 796 (by decide +kernel) (by decide +kernel), aBW_at 18 (by decide +kernel) (by decide +kernel)⟩
theorem lkX5_105 : aLkV RX5 105 mX4_put := ⟨aBW_at 798 (by decide +kernel) (by decide +kernel), aBW_at 285 (by decide +kernel) (by decide +kernel), aBW_at 286 (by decide +kernel) (by decide +kernel)⟩
theorem lkX5_108 : aLkV RX5 108 mX4_at := ⟨aBW_at 803 (by decide +kernel) (by decide +kernel), aBW_at 281 (by decide +kernel) (by decide +kernel), aBW_at 282 (by decide +kernel) (by decide +kernel)⟩
theorem lkX5_111 : aLkV RX5 111 mX3_setTotal := ⟨aBW_at 830 (by decide +kernel) (by decide +kernel), aBW_at 468 (by decide +kernel) (by decide +kernel), aBW_at 469 (by decide +kernel) (by decide +kernel)⟩
theorem lkX5_114 : aLkV RX5 114 mX3_contentBits := ⟨aBW_at 831 (by decide +kernel) (by decide +kernel), aBW_at 703 (by decide +kernel) (by decide +kernel), aBW_at 704 (by decide +kernel) (by decide +kernel)⟩
theorem lkX5_117 : aLkS RX5 117 mJ6_bitCount_0f7a4 := ⟨aBW_at 832 (by decide +kernel) (by decide +kernel), aBW_at 578 (by decide +kernel) (by decide +kernel)⟩
theorem lkX5_122 : aLkV RX5 122 mX3_setKind := ⟨aBW_at 852 (by decide +kernel) (by decide +kernel), aBW_at 853 (by decide +kernel) (by decide +kernel), aBW_at 854 (by decide +kernel) (by decide +kernel)⟩
theorem lkX5_125 : aLkV RX5 125 mX5_sharesAreTold := ⟨aBW_at 856 (by decide +kernel) (by decide +kernel), aBW_at 858 (by decide +kernel) (by decide +kernel), aBW_at 20 (by decide +kernel) (by decide +kernel)⟩
theorem lkX5_129 : aLkV RX5 129 mX3_setFigure := ⟨aBW_at 864 (by decide +kernel) (by decide +kernel), aBW_at 865 (by decide +kernel) (by decide +kernel), aBW_at 866 (by decide +kernel) (by decide +kernel)⟩
theorem lkX5_132 : aLkV RX5 132 mX1_begin := ⟨aBW_at 894 (by decide +kernel) (by decide +kernel), aBW_at 895 (by decide +kernel) (by decide +kernel), aBW_at 896 (by decide +kernel) (by decide +kernel)⟩
theorem lkX5_135 : aLkV RX5 135 mX5_placeAllByLot := ⟨aBW_at 898 (by decide +kernel) (by decide +kernel), aBW_at 900 (by decide +kernel) (by decide +kernel), aBW_at 21 (by decide +kernel) (by decide +kernel)⟩
theorem lkX5_138 : aLkV RX5 138 mX1_below := ⟨aBW_at 902 (by decide +kernel) (by decide +kernel), aBW_at 903 (by decide +kernel) (by decide +kernel), aBW_at 904 (by decide +kernel) (by decide +kernel)⟩
theorem lkX6_11 : aLkI RX6 11 mX4_init := ⟨aBW_at 228 (by decide +kernel) (by decide +kernel), aBW_at 102 (by decide +kernel) (by decide +kernel), rfl, rfl⟩
theorem lkX6_24 : aLkV RX6 24 mX4_put := ⟨aBW_at 296 (by decide +kernel) (by decide +kernel), aBW_at 285 (by decide +kernel) (by decide +kernel), aBW_at 286 (by decide +kernel) (by decide +kernel)⟩
theorem lkX6_28 : aLkV RX6 28 mX6_firstWrongLetter := ⟨aBW_at 314 (by decide +kernel) (by decide +kernel), aBW_at 316 (by decide +kernel) (by decide +kernel), aBW_at 1 (by decide +kernel) (by decide +kernel)⟩
theorem lkX6_32 : aLkV RX6 32 mX6_sayTo := ⟨aBW_at 391 (by decide +kernel) (by decide +kernel), aBW_at 393 (by decide +kernel) (by decide +kernel), aBW_at 5 (by decide +kernel) (by decide +kernel)⟩
theorem lkX6_36 : aLkV RX6 36 mX6_formAt := ⟨aBW_at 318 (by decide +kernel) (by decide +kernel), aBW_at 320 (by decide +kernel) (by decide +kernel), aBW_at 2 (by decide +kernel) (by decide +kernel)⟩
theorem lkX6_54 : aLkV RX6 54 mX4_at := ⟨aBW_at 322 (by decide +kernel) (by decide +kernel), aBW_at 281 (by decide +kernel) (by decide +kernel), aBW_at 282 (by decide +kernel) (by decide +kernel)⟩
theorem lkX6_62 : aLkV RX6 62 mX6_fits := ⟨aBW_at 382 (by decide +kernel) (by decide +kernel), aBW_at 384 (by decide +kernel) (by decide +kernel), aBW_at 3 (by decide +kernel) (by decide +kernel)⟩
theorem lkX6_80 : aLkV RX6 80 mX6_kindOf := ⟨aBW_at 386 (by decide +kernel) (by decide +kernel), aBW_at 388 (by decide +kernel) (by decide +kernel), aBW_at 4 (by decide +kernel) (by decide +kernel)⟩
theorem lkX6_85 : aLkV RX6 85 mX6_number := ⟨aBW_at 395 (by decide +kernel) (by decide +kernel), aBW_at 397 (by decide +kernel) (by decide +kernel), aBW_at 6 (by decide +kernel) (by decide +kernel)⟩
theorem lkX6_92 : aLkV RX6 92 mX3_people := ⟨aBW_at 402 (by decide +kernel) (by decide +kernel), aBW_at 403 (by decide +kernel) (by decide +kernel), aBW_at 404 (by decide +kernel) (by decide +kernel)⟩
theorem lkX6_97 : aLkV RX6 97 mX3_add := ⟨aBW_at 406 (by decide +kernel) (by decide +kernel), aBW_at 407 (by decide +kernel) (by decide +kernel), aBW_at 408 (by decide +kernel) (by decide +kernel)⟩
theorem lkX6_101 : aLkV RX6 101 mX3_isThere := ⟨aBW_at 446 (by decide +kernel) (by decide +kernel), aBW_at 447 (by decide +kernel) (by decide +kernel), aBW_at 448 (by decide +kernel) (by decide +kernel)⟩
theorem lkX6_104 : aLkV RX6 104 mX3_place := ⟨aBW_at 450 (by decide +kernel) (by decide +kernel), aBW_at 451 (by decide +kernel) (by decide +kernel), aBW_at 452 (by decide +kernel) (by decide +kernel)⟩
theorem lkX6_107 : aLkV RX6 107 mX3_areTwo := ⟨aBW_at 454 (by decide +kernel) (by decide +kernel), aBW_at 455 (by decide +kernel) (by decide +kernel), aBW_at 456 (by decide +kernel) (by decide +kernel)⟩
theorem lkX6_110 : aLkV RX6 110 mX3_setLent := ⟨aBW_at 459 (by decide +kernel) (by decide +kernel), aBW_at 460 (by decide +kernel) (by decide +kernel), aBW_at 461 (by decide +kernel) (by decide +kernel)⟩
theorem lkX6_114 : aLkV RX6 114 mX3_setKept := ⟨aBW_at 463 (by decide +kernel) (by decide +kernel), aBW_at 464 (by decide +kernel) (by decide +kernel), aBW_at 465 (by decide +kernel) (by decide +kernel)⟩
theorem lkX6_117 : aLkV RX6 117 mX3_setTotal := ⟨aBW_at 467 (by decide +kernel) (by decide +kernel), aBW_at 468 (by decide +kernel) (by decide +kernel), aBW_at 469 (by decide +kernel) (by decide +kernel)⟩
theorem lkX6_120 : aLkV RX6 120 mX3_day := ⟨aBW_at 471 (by decide +kernel) (by decide +kernel), aBW_at 472 (by decide +kernel) (by decide +kernel), aBW_at 473 (by decide +kernel) (by decide +kernel)⟩
theorem lkX6_123 : aLkV RX6 123 mX3_passDays := ⟨aBW_at 475 (by decide +kernel) (by decide +kernel), aBW_at 476 (by decide +kernel) (by decide +kernel), aBW_at 477 (by decide +kernel) (by decide +kernel)⟩
theorem lkX8_75 : aLkV RX8 75 mX8_isOne := ⟨aBW_at 1113 (by decide +kernel) (by decide +kernel), aBW_at 1115 (by decide +kernel) (by decide +kernel), aBW_at 35 (by decide +kernel) (by decide +kernel)⟩
theorem lkX8_79 : aLkS RX8 79 mX8_bound := ⟨aBW_at 1049 (by decide +kernel) (by decide +kernel), aBW_at 1050 (by decide +kernel) (by decide +kernel)⟩
theorem lkX8_86 : aLkV RX8 86 mX8_no := ⟨aBW_at 1052 (by decide +kernel) (by decide +kernel), aBW_at 1054 (by decide +kernel) (by decide +kernel), aBW_at 23 (by decide +kernel) (by decide +kernel)⟩
theorem lkX8_93 : aLkV RX8 93 mX8_next := ⟨aBW_at 1064 (by decide +kernel) (by decide +kernel), aBW_at 1066 (by decide +kernel) (by decide +kernel), aBW_at 25 (by decide +kernel) (by decide +kernel)⟩
theorem lkX8_97 : aLkS RX8 97 mX8_isIn := ⟨aBW_at 1083 (by decide +kernel) (by decide +kernel), aBW_at 1084 (by decide +kernel) (by decide +kernel)⟩
theorem lkX8_101 : aLkS RX8 101 mX8_kindOf := ⟨aBW_at 1076 (by decide +kernel) (by decide +kernel), aBW_at 1077 (by decide +kernel) (by decide +kernel)⟩
theorem lkX8_104 : aLkV RX8 104 mX8_readsKind := ⟨aBW_at 1072 (by decide +kernel) (by decide +kernel), aBW_at 1074 (by decide +kernel) (by decide +kernel), aBW_at 27 (by decide +kernel) (by decide +kernel)⟩
theorem lkX8_107 : aLkV RX8 107 mX8_readsDigits := ⟨aBW_at 1079 (by decide +kernel) (by decide +kernel), aBW_at 1081 (by decide +kernel) (by decide +kernel), aBW_at 28 (by decide +kernel) (by decide +kernel)⟩
theorem lkX8_114 : aLkV RX8 114 mX8_readsAll := ⟨aBW_at 1068 (by decide +kernel) (by decide +kernel), aBW_at 1070 (by decide +kernel) (by decide +kernel), aBW_at 26 (by decide +kernel) (by decide +kernel)⟩
theorem lkX8_117 : aLkS RX8 117 mX8_isCell := ⟨aBW_at 1106 (by decide +kernel) (by decide +kernel), aBW_at 1107 (by decide +kernel) (by decide +kernel)⟩
theorem lkX8_120 : aLkV RX8 120 mX8_adds := ⟨aBW_at 1109 (by decide +kernel) (by decide +kernel), aBW_at 1111 (by decide +kernel) (by decide +kernel), aBW_at 34 (by decide +kernel) (by decide +kernel)⟩
theorem lkX8_127 : aLkV RX8 127 mX8_goesDay := ⟨aBW_at 1125 (by decide +kernel) (by decide +kernel), aBW_at 1127 (by decide +kernel) (by decide +kernel), aBW_at 38 (by decide +kernel) (by decide +kernel)⟩
theorem lkX8_131 : aLkV RX8 131 mX8_comesOne := ⟨aBW_at 1102 (by decide +kernel) (by decide +kernel), aBW_at 1104 (by decide +kernel) (by decide +kernel), aBW_at 33 (by decide +kernel) (by decide +kernel)⟩
theorem lkX8_134 : aLkV RX8 134 mX8_areTwo := ⟨aBW_at 1117 (by decide +kernel) (by decide +kernel), aBW_at 1119 (by decide +kernel) (by decide +kernel), aBW_at 36 (by decide +kernel) (by decide +kernel)⟩
theorem lkX8_137 : aLkV RX8 137 mX8_comesDays := ⟨aBW_at 1121 (by decide +kernel) (by decide +kernel), aBW_at 1123 (by decide +kernel) (by decide +kernel), aBW_at 37 (by decide +kernel) (by decide +kernel)⟩
theorem lkX8_140 : aLkV RX8 140 mX8_statement := ⟨aBW_at 1060 (by decide +kernel) (by decide +kernel), aBW_at 1062 (by decide +kernel) (by decide +kernel), aBW_at 24 (by decide +kernel) (by decide +kernel)⟩
theorem lkX8_144 : aLkV RX8 144 mX8_passesAll := ⟨aBW_at 1086 (by decide +kernel) (by decide +kernel), aBW_at 1088 (by decide +kernel) (by decide +kernel), aBW_at 29 (by decide +kernel) (by decide +kernel)⟩
theorem lkX8_148 : aLkV RX8 148 mX8_comes := ⟨aBW_at 1098 (by decide +kernel) (by decide +kernel), aBW_at 1100 (by decide +kernel) (by decide +kernel), aBW_at 32 (by decide +kernel) (by decide +kernel)⟩
theorem lkX8_158 : aLkV RX8 158 mX8_passes := ⟨aBW_at 1090 (by decide +kernel) (by decide +kernel), aBW_at 1092 (by decide +kernel) (by decide +kernel), aBW_at 30 (by decide +kernel) (by decide +kernel)⟩
theorem lkX8_162 : aLkV RX8 162 mX8_passOne := ⟨aBW_at 1094 (by decide +kernel) (by decide +kernel), aBW_at 1096 (by decide +kernel) (by decide +kernel), aBW_at 31 (by decide +kernel) (by decide +kernel)⟩
theorem lkX8_168 : aLkS RX8 168 mX8_far := ⟨aBW_at 1155 (by decide +kernel) (by decide +kernel), aBW_at 1156 (by decide +kernel) (by decide +kernel)⟩
theorem lkX8_175 : aLkS RX8 175 mX8_has := ⟨aBW_at 1141 (by decide +kernel) (by decide +kernel), aBW_at 1142 (by decide +kernel) (by decide +kernel)⟩
theorem lkX8_178 : aLkV RX8 178 mX8_isThere := ⟨aBW_at 1137 (by decide +kernel) (by decide +kernel), aBW_at 1139 (by decide +kernel) (by decide +kernel), aBW_at 41 (by decide +kernel) (by decide +kernel)⟩
theorem lkX8_181 : aLkS RX8 181 mX8_steps := ⟨aBW_at 1152 (by decide +kernel) (by decide +kernel), aBW_at 1153 (by decide +kernel) (by decide +kernel)⟩
theorem lkX8_184 : aLkS RX8 184 mX8_atLeast := ⟨aBW_at 1158 (by decide +kernel) (by decide +kernel), aBW_at 1159 (by decide +kernel) (by decide +kernel)⟩
theorem lkX8_187 : aLkV RX8 187 mX8_stepsOf := ⟨aBW_at 1148 (by decide +kernel) (by decide +kernel), aBW_at 1150 (by decide +kernel) (by decide +kernel), aBW_at 43 (by decide +kernel) (by decide +kernel)⟩
theorem lkX8_190 : aLkV RX8 190 mX8_isLonely := ⟨aBW_at 1161 (by decide +kernel) (by decide +kernel), aBW_at 1163 (by decide +kernel) (by decide +kernel), aBW_at 44 (by decide +kernel) (by decide +kernel)⟩
theorem lkX8_193 : aLkV RX8 193 mX8_weightOf := ⟨aBW_at 1144 (by decide +kernel) (by decide +kernel), aBW_at 1146 (by decide +kernel) (by decide +kernel), aBW_at 42 (by decide +kernel) (by decide +kernel)⟩
theorem lkX8_196 : aLkV RX8 196 mX8_allWeights := ⟨aBW_at 1133 (by decide +kernel) (by decide +kernel), aBW_at 1135 (by decide +kernel) (by decide +kernel), aBW_at 40 (by decide +kernel) (by decide +kernel)⟩
theorem lkX8_199 : aLkV RX8 199 mX8_netOf := ⟨aBW_at 1169 (by decide +kernel) (by decide +kernel), aBW_at 1171 (by decide +kernel) (by decide +kernel), aBW_at 46 (by decide +kernel) (by decide +kernel)⟩
theorem lkX8_202 : aLkV RX8 202 mX8_findShares := ⟨aBW_at 1129 (by decide +kernel) (by decide +kernel), aBW_at 1131 (by decide +kernel) (by decide +kernel), aBW_at 39 (by decide +kernel) (by decide +kernel)⟩
theorem lkX8_208 : aLkV RX8 208 mX8_hasNow := ⟨aBW_at 1165 (by decide +kernel) (by decide +kernel), aBW_at 1167 (by decide +kernel) (by decide +kernel), aBW_at 45 (by decide +kernel) (by decide +kernel)⟩
theorem lkX8_211 : aLkV RX8 211 mX8_lower := ⟨aBW_at 1189 (by decide +kernel) (by decide +kernel), aBW_at 1191 (by decide +kernel) (by decide +kernel), aBW_at 47 (by decide +kernel) (by decide +kernel)⟩
theorem lkX8_214 : aLkV RX8 214 mX8_thinks := ⟨aBW_at 1226 (by decide +kernel) (by decide +kernel), aBW_at 1228 (by decide +kernel) (by decide +kernel), aBW_at 48 (by decide +kernel) (by decide +kernel)⟩
theorem lkX8_217 : aLkV RX8 217 mX8_noShorts := ⟨aBW_at 1230 (by decide +kernel) (by decide +kernel), aBW_at 1232 (by decide +kernel) (by decide +kernel), aBW_at 49 (by decide +kernel) (by decide +kernel)⟩
theorem lkX8_220 : aLkV RX8 220 mX8_forgets := ⟨aBW_at 1234 (by decide +kernel) (by decide +kernel), aBW_at 1236 (by decide +kernel) (by decide +kernel), aBW_at 50 (by decide +kernel) (by decide +kernel)⟩
theorem lkX8_223 : aLkV RX8 223 mX8_shortOn := ⟨aBW_at 1242 (by decide +kernel) (by decide +kernel), aBW_at 1244 (by decide +kernel) (by decide +kernel), aBW_at 51 (by decide +kernel) (by decide +kernel)⟩
theorem lkX8_226 : aLkV RX8 226 mX8_leastOfOthers := ⟨aBW_at 1254 (by decide +kernel) (by decide +kernel), aBW_at 1256 (by decide +kernel) (by decide +kernel), aBW_at 52 (by decide +kernel) (by decide +kernel)⟩
theorem lkX8_229 : aLkV RX8 229 mX8_takesFrom := ⟨aBW_at 1262 (by decide +kernel) (by decide +kernel), aBW_at 1264 (by decide +kernel) (by decide +kernel), aBW_at 53 (by decide +kernel) (by decide +kernel)⟩
theorem lkX8_232 : aLkV RX8 232 mX8_sharesOfFirst := ⟨aBW_at 1274 (by decide +kernel) (by decide +kernel), aBW_at 1276 (by decide +kernel) (by decide +kernel), aBW_at 54 (by decide +kernel) (by decide +kernel)⟩
theorem lkX8_235 : aLkV RX8 235 mX8_gladBy := ⟨aBW_at 1282 (by decide +kernel) (by decide +kernel), aBW_at 1284 (by decide +kernel) (by decide +kernel), aBW_at 55 (by decide +kernel) (by decide +kernel)⟩
theorem lkX8_238 : aLkV RX8 238 mX8_lackOf := ⟨aBW_at 1298 (by decide +kernel) (by decide +kernel), aBW_at 1300 (by decide +kernel) (by decide +kernel), aBW_at 57 (by decide +kernel) (by decide +kernel)⟩
theorem lkX8_241 : aLkV RX8 241 mX8_isNearOne := ⟨aBW_at 1302 (by decide +kernel) (by decide +kernel), aBW_at 1304 (by decide +kernel) (by decide +kernel), aBW_at 58 (by decide +kernel) (by decide +kernel)⟩
theorem lkX8_244 : aLkV RX8 244 mX8_overOf := ⟨aBW_at 1306 (by decide +kernel) (by decide +kernel), aBW_at 1308 (by decide +kernel) (by decide +kernel), aBW_at 59 (by decide +kernel) (by decide +kernel)⟩
theorem lkX8_247 : aLkV RX8 247 mX8_cutBy := ⟨aBW_at 1294 (by decide +kernel) (by decide +kernel), aBW_at 1296 (by decide +kernel) (by decide +kernel), aBW_at 56 (by decide +kernel) (by decide +kernel)⟩
theorem lkX8_250 : aLkV RX8 250 mX8_netsOf := ⟨aBW_at 1322 (by decide +kernel) (by decide +kernel), aBW_at 1324 (by decide +kernel) (by decide +kernel), aBW_at 61 (by decide +kernel) (by decide +kernel)⟩
theorem lkX8_253 : aLkV RX8 253 mX8_fewestLoans := ⟨aBW_at 1318 (by decide +kernel) (by decide +kernel), aBW_at 1320 (by decide +kernel) (by decide +kernel), aBW_at 60 (by decide +kernel) (by decide +kernel)⟩
theorem lkX8_256 : aLkV RX8 256 mX8_surveyIn := ⟨aBW_at 1330 (by decide +kernel) (by decide +kernel), aBW_at 1332 (by decide +kernel) (by decide +kernel), aBW_at 62 (by decide +kernel) (by decide +kernel)⟩
theorem lkX8_259 : aLkV RX8 259 mX8_shareIn := ⟨aBW_at 1342 (by decide +kernel) (by decide +kernel), aBW_at 1344 (by decide +kernel) (by decide +kernel), aBW_at 63 (by decide +kernel) (by decide +kernel)⟩
theorem lkX8_262 : aLkS RX8 262 mX8_moved := ⟨aBW_at 1354 (by decide +kernel) (by decide +kernel), aBW_at 1355 (by decide +kernel) (by decide +kernel)⟩
theorem lkX8_265 : aLkV RX8 265 mX8_findWays := ⟨aBW_at 1350 (by decide +kernel) (by decide +kernel), aBW_at 1352 (by decide +kernel) (by decide +kernel), aBW_at 64 (by decide +kernel) (by decide +kernel)⟩
theorem lkX8_268 : aLkV RX8 268 mX8_rests := ⟨aBW_at 1357 (by decide +kernel) (by decide +kernel), aBW_at 1359 (by decide +kernel) (by decide +kernel), aBW_at 65 (by decide +kernel) (by decide +kernel)⟩
theorem lkX8_271 : aLkV RX8 271 mX8_isRich := ⟨aBW_at 1369 (by decide +kernel) (by decide +kernel), aBW_at 1371 (by decide +kernel) (by decide +kernel), aBW_at 66 (by decide +kernel) (by decide +kernel)⟩
theorem lkX8_274 : aLkS RX8 274 mX8_cut := ⟨aBW_at 1389 (by decide +kernel) (by decide +kernel), aBW_at 1390 (by decide +kernel) (by decide +kernel)⟩
theorem lkX8_277 : aLkV RX8 277 mX8_isSo := ⟨aBW_at 1385 (by decide +kernel) (by decide +kernel), aBW_at 1387 (by decide +kernel) (by decide +kernel), aBW_at 68 (by decide +kernel) (by decide +kernel)⟩
theorem lkX8_283 : aLkV RX8 283 mX8_bitsFor := ⟨aBW_at 1381 (by decide +kernel) (by decide +kernel), aBW_at 1383 (by decide +kernel) (by decide +kernel), aBW_at 67 (by decide +kernel) (by decide +kernel)⟩
theorem lkX7_11 : aLkIN RX7 11 mX3_init "AloneIsAQuantity" := ⟨List.mem_filter.mpr ⟨List.mem_of_getElem? (i := 95) (by decide +kernel), rfl⟩, aBW_at 96 (by decide +kernel) (by decide +kernel), rfl, rfl⟩
theorem lkX7_46 : aLkIN RX7 46 mX6_init "AloneIsAQuantity" := ⟨List.mem_filter.mpr ⟨List.mem_of_getElem? (i := 223) (by decide +kernel), rfl⟩, aBW_at 224 (by decide +kernel) (by decide +kernel), rfl, rfl⟩
theorem lkX3_69 : aLkSN RX3 69 mX7_steps "AloneIsAQuantity" := ⟨List.mem_filter.mpr ⟨List.mem_of_getElem? (i := 432) (by decide +kernel), rfl⟩, aBW_at 433 (by decide +kernel) (by decide +kernel)⟩
theorem lkX5_11 : aLkIN RX5 11 mX1_init "AloneIsAQuantity" := ⟨List.mem_filter.mpr ⟨List.mem_of_getElem? (i := 174) (by decide +kernel), rfl⟩, aBW_at 175 (by decide +kernel) (by decide +kernel), rfl, rfl⟩
theorem lkX5_92 : aLkSN RX5 92 mX7_steps "AloneIsAQuantity" := ⟨List.mem_filter.mpr ⟨List.mem_of_getElem? (i := 781) (by decide +kernel), rfl⟩, aBW_at 433 (by decide +kernel) (by decide +kernel)⟩
theorem lkX6_88 : aLkSN RX6 88 mX7_isCell "AloneIsAQuantity" := ⟨List.mem_filter.mpr ⟨List.mem_of_getElem? (i := 399) (by decide +kernel), rfl⟩, aBW_at 400 (by decide +kernel) (by decide +kernel)⟩
theorem loX0 : Cond.methodLink RX0 3 Lib.objectInit ∈ aBW := aBW_at 158 (by decide +kernel) (by decide +kernel)
theorem loX1 : Cond.methodLink RX1 3 Lib.objectInit ∈ aBW := aBW_at 177 (by decide +kernel) (by decide +kernel)
theorem loX2 : Cond.methodLink RX2 3 Lib.objectInit ∈ aBW := aBW_at 205 (by decide +kernel) (by decide +kernel)
theorem loX3 : Cond.methodLink RX3 3 Lib.objectInit ∈ aBW := aBW_at 98 (by decide +kernel) (by decide +kernel)
theorem loX4 : Cond.methodLink RX4 1 Lib.objectInit ∈ aBW := aBW_at 104 (by decide +kernel) (by decide +kernel)
theorem loX5 : Cond.methodLink RX5 3 Lib.objectInit ∈ aBW := aBW_at 171 (by decide +kernel) (by decide +kernel)
theorem loX6 : Cond.methodLink RX6 3 Lib.objectInit ∈ aBW := aBW_at 226 (by decide +kernel) (by decide +kernel)
theorem loX7 : Cond.methodLink RX7 3 Lib.objectInit ∈ aBW := aBW_at 90 (by decide +kernel) (by decide +kernel)
theorem loX8 : Cond.methodLink RX8 1 Lib.objectInit ∈ aBW := aBW_at 950 (by decide +kernel) (by decide +kernel)
theorem loI : Cond.instanceMethod Lib.objectInit ∈ aBW := aBW_at 91 (by decide +kernel) (by decide +kernel)
theorem loC : Cond.code Lib.objectInit ⟨#[0xb1]⟩ 1 none ∈ aBW := aBW_at 92 (by decide +kernel) (by decide +kernel)
theorem clX7_9 : Cond.classLink RX7 9 RX3 ∈ aBW := aBW_at 93 (by decide +kernel) (by decide +kernel)
theorem clX7_19 : Cond.classLink RX7 19 RX0 ∈ aBW := aBW_at 153 (by decide +kernel) (by decide +kernel)
theorem clX7_28 : Cond.classLink RX7 28 RX5 ∈ aBW := aBW_at 166 (by decide +kernel) (by decide +kernel)
theorem clX7_35 : Cond.classLink RX7 35 RX2 ∈ aBW := aBW_at 200 (by decide +kernel) (by decide +kernel)
theorem clX7_44 : Cond.classLink RX7 44 RX6 ∈ aBW := aBW_at 221 (by decide +kernel) (by decide +kernel)
theorem clX7_58 : Cond.classLink RX7 58 RX4 ∈ aBW := aBW_at 236 (by decide +kernel) (by decide +kernel)
theorem clX2_9 : Cond.classLink RX2 9 RX4 ∈ aBW := aBW_at 206 (by decide +kernel) (by decide +kernel)
theorem clX3_9 : Cond.classLink RX3 9 RX4 ∈ aBW := aBW_at 99 (by decide +kernel) (by decide +kernel)
theorem clX5_9 : Cond.classLink RX5 9 RX1 ∈ aBW := aBW_at 172 (by decide +kernel) (by decide +kernel)
theorem clX5_18 : Cond.classLink RX5 18 RX4 ∈ aBW := aBW_at 182 (by decide +kernel) (by decide +kernel)
theorem clX6_9 : Cond.classLink RX6 9 RX4 ∈ aBW := aBW_at 227 (by decide +kernel) (by decide +kernel)
theorem lkX7_293 : Cond.methodLink RX7 293 Lib.Math.abs.name ∈ aBW := aBW_at 435 (by decide +kernel) (by decide +kernel)
theorem lkX0_45 : Cond.methodLink RX0 45 Lib.Math.min.name ∈ aBW := aBW_at 880 (by decide +kernel) (by decide +kernel)
theorem lkX2_43 : Cond.methodLink RX2 43 Lib.Math.max.name ∈ aBW := aBW_at 717 (by decide +kernel) (by decide +kernel)
theorem lkX2_57 : Cond.methodLink RX2 57 Lib.Math.min.name ∈ aBW := aBW_at 733 (by decide +kernel) (by decide +kernel)
theorem lkX3_86 : Cond.methodLink RX3 86 Lib.Math.max.name ∈ aBW := aBW_at 441 (by decide +kernel) (by decide +kernel)
theorem lkX3_112 : Cond.methodLink RX3 112 Lib.Math.min.name ∈ aBW := aBW_at 438 (by decide +kernel) (by decide +kernel)
theorem lkX4_7 : Cond.methodLink RX4 7 Lib.Math.max.name ∈ aBW := aBW_at 105 (by decide +kernel) (by decide +kernel)
theorem lkX5_58 : Cond.methodLink RX5 58 Lib.Math.min.name ∈ aBW := aBW_at 643 (by decide +kernel) (by decide +kernel)
theorem lkX6_44 : Cond.methodLink RX6 44 Lib.Math.max.name ∈ aBW := aBW_at 483 (by decide +kernel) (by decide +kernel)
theorem ma_max_s : Cond.static Lib.Math.max.name ∈ aBW := aBW_at 106 (by decide +kernel) (by decide +kernel)
theorem ma_max_c : Cond.code Lib.Math.max.name Lib.Math.max.code 2 (some .int) ∈ aBW := aBW_at 107 (by decide +kernel) (by decide +kernel)
theorem ma_min_s : Cond.static Lib.Math.min.name ∈ aBW := aBW_at 439 (by decide +kernel) (by decide +kernel)
theorem ma_min_c : Cond.code Lib.Math.min.name Lib.Math.min.code 2 (some .int) ∈ aBW := aBW_at 440 (by decide +kernel) (by decide +kernel)
theorem ma_abs_s : Cond.static Lib.Math.abs.name ∈ aBW := aBW_at 436 (by decide +kernel) (by decide +kernel)
theorem ma_abs_c : Cond.code Lib.Math.abs.name Lib.Math.abs.code 1 (some .int) ∈ aBW := aBW_at 437 (by decide +kernel) (by decide +kernel)
end
section
/-! Math's three; calls of methods whose answer is said exactly. -/
section ARM
variable {M Mc : aM} {d dc ks n na : Nat} {sc : Option (Nat × (Nat → Int32))} {Q : Option aV → aH → Prop} {pc idx k ci N : Nat} {ls : aLs} {st rest as : List aV} {h h' : aH} {fs : List (Option aV)} {T : u_T} {host : String} {x y : Int} {kc : Nat}
theorem b_max (hM : aOK M) (hf : aFetch (aMt M) pc = some (.invokestatic idx)) (hl : Cond.methodLink (aMy M).cls idx Lib.Math.max.name ∈ aBW) (hs : Cond.static Lib.Math.max.name ∈ aBW) (hc : Cond.code Lib.Math.max.name Lib.Math.max.code 2 (some .int) ∈ aBW) (hd : 1 ≤ d) (hst : st.length ≤ 8) (hx : aI x) (hy : aI y) (kk : AW M d kc ks n sc Q (pc + 3, ls, .inl (max x y) :: st, h)) : AW M d kc ks n sc Q (pc, ls, .inl y :: .inl x :: st, h) := by
  intro p l e R s m args below meth c D cI base b0 adK adV C1 S1 Z hcx hC hS1 hfin la H locs cells slots hP hz hS hL hcs hss
  obtain ⟨hX, hb, hml, hr, hin, hown, hts, hlk, hiv, hrm, -⟩ := id hcx
  refine va_mmax hX hb (hml.trans hL.1.symm) hown (hts _ hl) (hts _ hs) (hts _ iniJ9) (hts _ hc) (by omega) (by rw [aCat_sum]; omega) (by omega) (by omega) (aDec1 hM hf rfl rfl) ?_
  rw [show (if Int32.ofInt x < Int32.ofInt y then Int32.ofInt y else Int32.ofInt x) = Int32.ofInt (max x y) by
    by_cases hxy : x < y
    · rw [if_pos ((aI_lt hx hy).mpr hxy)]; congr 1; omega
    · rw [if_neg (fun z => hxy ((aI_lt hx hy).mp z))]; congr 1; omega]
  exact kk p l e R s m args below meth c D cI base b0 adK adV C1 S1 Z hcx hC hS1 hfin la H locs cells slots hP hz hS hL hcs hss
theorem b_min (hM : aOK M) (hf : aFetch (aMt M) pc = some (.invokestatic idx)) (hl : Cond.methodLink (aMy M).cls idx Lib.Math.min.name ∈ aBW) (hs : Cond.static Lib.Math.min.name ∈ aBW) (hc : Cond.code Lib.Math.min.name Lib.Math.min.code 2 (some .int) ∈ aBW) (hd : 1 ≤ d) (hst : st.length ≤ 8) (hx : aI x) (hy : aI y) (kk : AW M d kc ks n sc Q (pc + 3, ls, .inl (min x y) :: st, h)) : AW M d kc ks n sc Q (pc, ls, .inl y :: .inl x :: st, h) := by
  intro p l e R s m args below meth c D cI base b0 adK adV C1 S1 Z hcx hC hS1 hfin la H locs cells slots hP hz hS hL hcs hss
  obtain ⟨hX, hb, hml, hr, hin, hown, hts, hlk, hiv, hrm, -⟩ := id hcx
  refine va_mmin hX hb (hml.trans hL.1.symm) hown (hts _ hl) (hts _ hs) (hts _ iniJ9) (hts _ hc) (by omega) (by rw [aCat_sum]; omega) (by omega) (by omega) (aDec1 hM hf rfl rfl) ?_
  rw [show (if Int32.ofInt y < Int32.ofInt x then Int32.ofInt y else Int32.ofInt x) = Int32.ofInt (min x y) by
    by_cases hxy : y < x
    · rw [if_pos ((aI_lt hy hx).mpr hxy)]; congr 1; omega
    · rw [if_neg (fun z => hxy ((aI_lt hy hx).mp z))]; congr 1; omega]
  exact kk p l e R s m args below meth c D cI base b0 adK adV C1 S1 Z hcx hC hS1 hfin la H locs cells slots hP hz hS hL hcs hss
/-- how far from 0 -/
def aAbs (x : Int) : Int := if 0 ≤ x then x else 0 - x
theorem b_abs (hM : aOK M) (hf : aFetch (aMt M) pc = some (.invokestatic idx)) (hl : Cond.methodLink (aMy M).cls idx Lib.Math.abs.name ∈ aBW) (hs : Cond.static Lib.Math.abs.name ∈ aBW) (hc : Cond.code Lib.Math.abs.name Lib.Math.abs.code 1 (some .int) ∈ aBW) (hd : 1 ≤ d) (hst : st.length ≤ 8) (hx : aI x) (kk : AW M d kc ks n sc Q (pc + 3, ls, .inl (aAbs x) :: st, h)) : AW M d kc ks n sc Q (pc, ls, .inl x :: st, h) := by
  intro p l e R s m args below meth c D cI base b0 adK adV C1 S1 Z hcx hC hS1 hfin la H locs cells slots hP hz hS hL hcs hss
  obtain ⟨hX, hb, hml, hr, hin, hown, hts, hlk, hiv, hrm, -⟩ := id hcx
  refine va_mabs hX hb (hml.trans hL.1.symm) hown (hts _ hl) (hts _ hs) (hts _ iniJ9) (hts _ hc) (by omega) (by rw [aCat_sum]; omega) (by omega) (by omega) (aDec1 hM hf rfl rfl) ?_
  rw [show (if 0 ≤ Int32.ofInt x then Int32.ofInt x else 0 - Int32.ofInt x) = Int32.ofInt (aAbs x) by
    unfold aAbs
    by_cases hxy : 0 ≤ x
    · have hz0 : (0 : Int32) ≤ Int32.ofInt x := (aI_le aI_0 hx).mpr hxy
      rw [if_pos hz0, if_pos hxy]
    · have hz0 : ¬ (0 : Int32) ≤ Int32.ofInt x := fun z => hxy ((aI_le aI_0 hx).mp z)
      rw [if_neg hz0, if_neg hxy]; exact i32_sub 0 x]
  exact kk p l e R s m args below meth c D cI base b0 adK adV C1 S1 Z hcx hC hS1 hfin la H locs cells slots hP hz hS hL hcs hss
/-- a method's answer, exactly -/
abbrev aQx (v : Option aV) (h : aH) : Option aV → aH → Prop := fun v' h' => v' = v ∧ h' = h
abbrev aEx (M : aM) (d n : Nat) (as : List aV) (h : aH) (v : Option aV) (h' : aH) : Prop := aEv M d 0 0 n as h (aQx v h')
theorem b_cast {f f' : aF} (e : f = f') (kk : AW M d kc ks n sc Q f') : AW M d kc ks n sc Q f := by rw [e]; exact kk
theorem b_vV (v : aV) (hM : aOK M) (hf : aFetch (aMt M) pc = some (.invokevirtual idx)) (hl : aLkV (aMy M).cls idx Mc) (hc : aCal Mc na) (hd : dc + 1 ≤ d) (hna : as.length = na) (hrl : rest.length ≤ 8) (hk : aGet h k = some (.inr (ci, fs))) (hcl : aCls[ci]? = some ((aMy Mc).cls, T, N)) (hst : st = as.reverse ++ .inr k :: rest) (ev : aEx Mc dc n (.inr k :: as) h (some v) h')
    (kk : AW M d kc ks n sc Q (pc + 3, ls, v :: rest, h')) : AW M d kc ks n sc Q (pc, ls, st, h) := by
  have := b_callV (kc := kc) (ks := ks) hM hf hl hc hd hna hrl hk hcl hst ev (ls := ls) (Q := Q) (sc := sc) (fun v1 h1 z => by obtain ⟨rfl, rfl⟩ := z; exact kk)
  rwa [Nat.zero_add, Nat.zero_add] at this
theorem b_vN (hM : aOK M) (hf : aFetch (aMt M) pc = some (.invokevirtual idx)) (hl : aLkV (aMy M).cls idx Mc) (hc : aCal Mc na) (hd : dc + 1 ≤ d) (hna : as.length = na) (hrl : rest.length ≤ 8) (hk : aGet h k = some (.inr (ci, fs))) (hcl : aCls[ci]? = some ((aMy Mc).cls, T, N)) (hst : st = as.reverse ++ .inr k :: rest) (ev : aEx Mc dc n (.inr k :: as) h none h')
    (kk : AW M d kc ks n sc Q (pc + 3, ls, rest, h')) : AW M d kc ks n sc Q (pc, ls, st, h) := by
  have := b_callV (kc := kc) (ks := ks) hM hf hl hc hd hna hrl hk hcl hst ev (ls := ls) (Q := Q) (sc := sc) (fun v1 h1 z => by obtain ⟨rfl, rfl⟩ := z; exact kk)
  rwa [Nat.zero_add, Nat.zero_add] at this
theorem b_vE {Q1 : Option aV → aH → Prop} (hM : aOK M) (hf : aFetch (aMt M) pc = some (.invokevirtual idx)) (hl : aLkV (aMy M).cls idx Mc) (hc : aCal Mc na) (hd : dc + 1 ≤ d) (hna : as.length = na) (hrl : rest.length ≤ 8) (hk : aGet h k = some (.inr (ci, fs))) (hcl : aCls[ci]? = some ((aMy Mc).cls, T, N)) (hst : st = as.reverse ++ .inr k :: rest) (ev : aEv Mc dc 0 0 n (.inr k :: as) h Q1)
    (kk : ∀ v h', Q1 v h' → AW M d kc ks n sc Q (pc + 3, ls, v.toList ++ rest, h')) : AW M d kc ks n sc Q (pc, ls, st, h) := by
  have := b_callV (kc := kc) (ks := ks) hM hf hl hc hd hna hrl hk hcl hst ev (ls := ls) (Q := Q) (sc := sc) kk
  rwa [Nat.zero_add, Nat.zero_add] at this
theorem b_vS (v : aV) (hM : aOK M) (hf : aFetch (aMt M) pc = some (.invokestatic idx)) (hl : aLkS (aMy M).cls idx Mc) (hc : aCal Mc na) (hd : dc + 1 ≤ d) (hna : as.length = na) (hrl : rest.length ≤ 8) (hst : st = as.reverse ++ rest) (ev : aEx Mc dc n as h (some v) h')
    (kk : AW M d kc ks n sc Q (pc + 3, ls, v :: rest, h')) : AW M d kc ks n sc Q (pc, ls, st, h) := by
  have := b_callS (kc := kc) (ks := ks) hM hf hl hc hd hna hrl hst ev (ls := ls) (Q := Q) (sc := sc) (fun v1 h1 z => by obtain ⟨rfl, rfl⟩ := z; exact kk)
  rwa [Nat.zero_add, Nat.zero_add] at this
theorem b_vT (v : aV) (hM : aOK M) (hf : aFetch (aMt M) pc = some (.invokestatic idx)) (hl : aLkSN (aMy M).cls idx Mc host) (hc : aCal Mc na) (hd : dc + 1 ≤ d) (hna : as.length = na) (hrl : rest.length ≤ 8) (hst : st = as.reverse ++ rest) (ev : aEx Mc dc n as h (some v) h')
    (kk : AW M d kc ks n sc Q (pc + 3, ls, v :: rest, h')) : AW M d kc ks n sc Q (pc, ls, st, h) := by
  have := b_callSN (kc := kc) (ks := ks) hM hf hl hc hd hna hrl hst ev (ls := ls) (Q := Q) (sc := sc) (fun v1 h1 z => by obtain ⟨rfl, rfl⟩ := z; exact kk)
  rwa [Nat.zero_add, Nat.zero_add] at this
end ARM
end
section
/-! The blocks of the heap; rows of numbers. -/
def moSeg (o : Nat) (k : List Int) (f : List Int) (c : List Int) (n : List Int) (kp : List Int) (l : List Int) (nt : List Int) (w : List Int) (sh : List Int) (p : Int) (t : Int) (d : Int) (wa : Int) : List (Option aE) := [some (.inr (3, [some (.inr (o + 1)), some (.inr (o + 3)), some (.inr (o + 5)), some (.inr (o + 7)), some (.inr (o + 9)), some (.inr (o + 11)), some (.inr (o + 13)), some (.inr (o + 15)), some (.inr (o + 17)), some (.inl p), some (.inl t), some (.inl d), some (.inl wa)])), some (.inr (4, [some (.inr (o + 2))])), some (.inl k), some (.inr (4, [some (.inr (o + 4))])), some (.inl f), some (.inr (4, [some (.inr (o + 6))])), some (.inl c), some (.inr (4, [some (.inr (o + 8))])), some (.inl n), some (.inr (4, [some (.inr (o + 10))])), some (.inl kp), some (.inr (4, [some (.inr (o + 12))])), some (.inl l), some (.inr (4, [some (.inr (o + 14))])), some (.inl nt), some (.inr (4, [some (.inr (o + 16))])), some (.inl w), some (.inr (4, [some (.inr (o + 18))])), some (.inl sh)]
def mainSeg (imt : Int) (tc : Int) : List (Option aE) := [some (.inr (7, [some (.inr 32), some (.inr 64), some (.inr 96), some (.inr 97), some (.inr 103), some (.inr 110), some (.inr 128), some (.inl imt), some (.inr 160), some (.inl tc), some (.inr 162)]))]
def miscSeg (z : Int) (fs : List Int) (ss : List Int) (sp : List Int) (la : List Int) (gr : List Int) (tl : Int) (tp : List Int) : List (Option aE) := [some (.inr (0, [some (.inr 32), some (.inr 64)])), some (.inr (5, [some (.inr 32), some (.inr 64), some (.inr 98), some (.inr 99), some (.inr 101)])), some (.inr (1, [some (.inl z)])), some (.inr (4, [some (.inr 100)])), some (.inl fs), some (.inr (4, [some (.inr 102)])), some (.inl ss), some (.inr (2, [some (.inr 32), some (.inr 104), some (.inr 106), some (.inr 108)])), some (.inr (4, [some (.inr 105)])), some (.inl sp), some (.inr (4, [some (.inr 107)])), some (.inl la), some (.inr (4, [some (.inr 109)])), some (.inl gr), some (.inr (6, [some (.inr 111), some (.inl tl)])), some (.inr (4, [some (.inr 112)])), some (.inl tp)]
def auxSeg (to : List Int) (re : List Int) : List (Option aE) := [some (.inr (4, [some (.inr 161)])), some (.inl to), some (.inr (4, [some (.inr 163)])), some (.inl re)]
def modSeg (re : List Int) (k : List Int) (f : List Int) (c : List Int) (n : List Int) (kp : List Int) (l : List Int) (tp : List Int) (le : List Int) (la : List Int) (to : List Int) (kt : List Int) (sh : List Int) (so : List Int) (ha : List Int) (gr : List Int) (fi : List Int) (se : List Int) (ro : List Int) (p : Int) (t : Int) (d : Int) (tl : Int) (at_ : Int) (sn : Int) (hi : Int) (ik : Int) (cu : Int) (ou : Int) (st : Int) (rm : Int) : List (Option aE) := [some (.inr (8, [some (.inr 193), some (.inr 194), some (.inr 195), some (.inr 196), some (.inr 197), some (.inr 198), some (.inr 199), some (.inl p), some (.inl t), some (.inl d), some (.inr 200), some (.inr 201), some (.inr 202), some (.inr 203), some (.inl tl), some (.inl at_), some (.inl sn), some (.inr 204), some (.inl hi), some (.inl ik), some (.inl cu), some (.inl ou), some (.inr 205), some (.inr 206), some (.inl st), some (.inr 207), some (.inr 208), some (.inr 209), some (.inr 210), some (.inr 211), some (.inl rm)])), some (.inl re), some (.inl k), some (.inl f), some (.inl c), some (.inl n), some (.inl kp), some (.inl l), some (.inl tp), some (.inl le), some (.inl la), some (.inl to), some (.inl kt), some (.inl sh), some (.inl so), some (.inl ha), some (.inl gr), some (.inl fi), some (.inl se), some (.inl ro)]
section ASN
variable {M : aM} {d kc ks n : Nat} {sc : Option (Nat × (Nat → Int32))} {Q : Option aV → aH → Prop} {pc idx k ci j tyc : Nat} {fin : Bool} {ls : aLs} {st : List aV} {h : aH} {fs : List (Option aV)} {v : aV} {l : List Int}
theorem b_getf (hM : aOK M) (hf : aFetch (aMt M) pc = some (.getfield idx)) (hfl : aFld (aMf M) idx = some (ci, j, tyc, fin)) (hk : aGet h k = some (.inr (ci, fs))) (hj : fs[j]? = some (some v)) (kk : AW M d kc ks n sc Q (pc + 3, ls, v :: st, h)) : AW M d kc ks n sc Q (pc, ls, .inr k :: st, h) := by
  refine aOp_ok hM hf ?_ kk
  have : aGetF M h idx k = some v := by
    unfold aGetF
    rw [hfl, hk]
    simp only
    rw [show Nat.beq ci ci = true from Nat.beq_refl ci]
    simp only [cond_true]
    rw [hj]
  simp only [aOp, this, Option.map_some]
theorem b_alen (hM : aOK M) (hf : aFetch (aMt M) pc = some .arraylength) (hk : aGet h k = some (.inl l)) (kk : AW M d kc ks n sc Q (pc + 1, ls, .inl (l.length : Int) :: st, h)) : AW M d kc ks n sc Q (pc, ls, .inr k :: st, h) := by
  refine aOp_ok hM hf ?_ kk
  simp only [aOp, hk]
end ASN
section ANU
variable {n k a : Nat} {h : aH} {l : List Int}
/-- at(i): 0 outside -/
theorem c_at (hk : aGet h k = some (.inr (4, [some (.inr a)]))) (ha : aGet h a = some (.inl l)) (hl : l.length < 65536) {i : Nat} (hi : i < 65536) : aEx mX4_at 0 n [.inr k, .inl (i : Int)] h (some (.inl (l.getD i 0))) h := by
  refine aEv_of okX4_at caX4_at (Nat.le_of_ble_eq_true rfl) ?_
  refine aGo okX4_at 1 (f' := (1, [some (.inr k), some (.inl (i : Int))], [.inl (i : Int)], h)) rfl ?_
  refine b0_lt (tgt := 22) okX4_at rfl rfl ⟨by omega, by omega⟩ (fun h1 => absurd h1 (by omega)) (fun h1 => ?_)
  refine aGo okX4_at 2 (f' := (6, [some (.inr k), some (.inl (i : Int))], [.inr k, .inl (i : Int)], h)) rfl ?_
  refine b_getf okX4_at rfl rfl hk rfl ?_
  refine b_alen okX4_at rfl ha ?_
  refine b_ge (tgt := 22) okX4_at rfl rfl ⟨by omega, by omega⟩ ⟨by omega, by omega⟩ (fun h1 => ?_) (fun h1 => ?_)
  · refine aGo okX4_at 1 (f' := (23, [some (.inr k), some (.inl (i : Int))], [.inl 0], h)) rfl ?_
    refine b_ret (v := some (.inl 0)) ⟨rfl, Or.inl rfl⟩ ⟨?_, rfl⟩ rfl
    rw [List.getD_eq_getElem?_getD, List.getElem?_eq_none (by omega)]
    rfl
  · refine aGo okX4_at 1 (f' := (14, [some (.inr k), some (.inl (i : Int))], [.inr k], h)) rfl ?_
    refine b_getf okX4_at rfl rfl hk rfl ?_
    refine aGo okX4_at 1 (f' := (18, [some (.inr k), some (.inl (i : Int))], [.inl (i : Int), .inr a], h)) rfl ?_
    refine b_ald (j := i) okX4_at rfl ha rfl (by omega) (by omega) ?_
    refine aGo okX4_at 1 (f' := (23, [some (.inr k), some (.inl (i : Int))], [.inl (l.getD i 0)], h)) rfl ?_
    exact b_ret (v := some (.inl (l.getD i 0))) ⟨rfl, Or.inl rfl⟩ ⟨rfl, rfl⟩ rfl
/-- put(i, v) within -/
theorem c_put (hk : aGet h k = some (.inr (4, [some (.inr a)]))) (ha : aGet h a = some (.inl l)) (hl : l.length < 65536) {i : Nat} (hi : i < l.length) (v : Int) : aEx mX4_put 0 n [.inr k, .inl (i : Int), .inl v] h none (aSet h a (.inl (l.set i v))) := by
  refine aEv_of okX4_put caX4_put (Nat.le_of_ble_eq_true rfl) ?_
  refine aGo okX4_put 1 (f' := (1, [some (.inr k), some (.inl (i : Int)), some (.inl v)], [.inl (i : Int)], h)) rfl ?_
  refine b0_lt (tgt := 20) okX4_put rfl rfl ⟨by omega, by omega⟩ (fun h1 => absurd h1 (by omega)) (fun h1 => ?_)
  refine aGo okX4_put 2 (f' := (6, [some (.inr k), some (.inl (i : Int)), some (.inl v)], [.inr k, .inl (i : Int)], h)) rfl ?_
  refine b_getf okX4_put rfl rfl hk rfl ?_
  refine b_alen okX4_put rfl ha ?_
  refine b_ge (tgt := 20) okX4_put rfl rfl ⟨by omega, by omega⟩ ⟨by omega, by omega⟩ (fun h1 => absurd h1 (by omega)) (fun h1 => ?_)
  refine aGo okX4_put 1 (f' := (14, [some (.inr k), some (.inl (i : Int)), some (.inl v)], [.inr k], h)) rfl ?_
  refine b_getf okX4_put rfl rfl hk rfl ?_
  refine aGo okX4_put 2 (f' := (19, [some (.inr k), some (.inl (i : Int)), some (.inl v)], [.inl v, .inl (i : Int), .inr a], h)) rfl ?_
  refine b_ast (j := i) okX4_put rfl ha rfl (by omega) (by omega) ?_
  exact b_ret (v := none) ⟨rfl, rfl⟩ ⟨rfl, rfl⟩ rfl
theorem take_step {l m : List Int} (hlm : l.length = m.length) {i : Nat} (hi : i < l.length) : (m.take i ++ l.drop i).set i (m.getD i 0) = m.take (i + 1) ++ l.drop (i + 1) := by
  have hm : i < m.length := by omega
  have e1 : l.drop i = l[i] :: l.drop (i + 1) := (List.drop_eq_getElem_cons hi)
  have e2 : m.take (i + 1) = m.take i ++ [m[i]] := by rw [List.take_succ, List.getElem?_eq_getElem hm]; rfl
  have e3 : (m.take i).length = i := by rw [List.length_take]; omega
  rw [e1, e2, List.set_append, if_neg (by omega), e3, Nat.sub_self, List.set_cons_zero, List.append_assoc]
  simp [List.getD_eq_getElem?_getD, List.getElem?_eq_getElem hm]
/-- takeFrom: a row of the same length becomes the other's -/
theorem c_takeFrom {k2 a2 : Nat} {m : List Int} (f1 : ∀ b : aE, aGet (aSet h a b) k = aGet h k) (f2 : ∀ b : aE, aGet (aSet h a b) k2 = aGet h k2) (f3 : ∀ b : aE, aGet (aSet h a b) a2 = aGet h a2) (f4 : ∀ b : aE, aGet (aSet h a b) a = some b) (hss : ∀ b b' : aE, aSet (aSet h a b) a b' = aSet h a b') (hse : aSet h a (.inl l) = h) (hk : aGet h k = some (.inr (4, [some (.inr a)]))) (ha : aGet h a = some (.inl l)) (hk2 : aGet h k2 = some (.inr (4, [some (.inr a2)]))) (ha2 : aGet h a2 = some (.inl m)) (hlm : l.length = m.length) (hl : l.length < 65536) : aEx mX4_takeFrom 1 n [.inr k, .inr k2] h none (aSet h a (.inl m)) := by
  refine aEv_of okX4_takeFrom caX4_takeFrom (Nat.le_of_ble_eq_true rfl) ?_
  have loop : ∀ (j i : Nat), i + j = l.length → AW mX4_takeFrom 1 0 0 n none (aQx none (aSet h a (.inl m))) (2, [some (.inr k), some (.inr k2), some (.inl (i : Int))], [], aSet h a (.inl (m.take i ++ l.drop i))) := by
    intro j
    induction j with
    | zero =>
      intro i hi
      have e : m.take i ++ l.drop i = m := by rw [List.take_of_length_le (by omega), List.drop_of_length_le (by omega), List.append_nil]
      rw [e]
      refine aGo okX4_takeFrom 2 (f' := (4, [some (.inr k), some (.inr k2), some (.inl (i : Int))], [.inr k, .inl (i : Int)], _)) rfl ?_
      refine b_getf okX4_takeFrom rfl rfl ((f1 _).trans hk) rfl ?_
      refine b_alen okX4_takeFrom rfl (f4 _) ?_
      refine b_ge (tgt := 28) okX4_takeFrom rfl rfl ⟨by omega, by omega⟩ ⟨by omega, by omega⟩ (fun h1 => ?_) (fun h1 => absurd h1 (by omega))
      exact b_ret (v := none) ⟨rfl, rfl⟩ ⟨rfl, rfl⟩ rfl
    | succ j ih =>
      intro i hi
      have e3 : (m.take i ++ l.drop i).length = l.length := by rw [List.length_append, List.length_take, List.length_drop]; omega
      refine aGo okX4_takeFrom 2 (f' := (4, [some (.inr k), some (.inr k2), some (.inl (i : Int))], [.inr k, .inl (i : Int)], _)) rfl ?_
      refine b_getf okX4_takeFrom rfl rfl ((f1 _).trans hk) rfl ?_
      refine b_alen okX4_takeFrom rfl (f4 _) ?_
      refine b_ge (tgt := 28) okX4_takeFrom rfl rfl ⟨by omega, by omega⟩ ⟨by omega, by omega⟩ (fun h1 => absurd h1 (by omega)) (fun h1 => ?_)
      refine aGo okX4_takeFrom 1 (f' := (12, [some (.inr k), some (.inr k2), some (.inl (i : Int))], [.inr k], _)) rfl ?_
      refine b_getf okX4_takeFrom rfl rfl ((f1 _).trans hk) rfl ?_
      refine aGo okX4_takeFrom 3 (f' := (18, [some (.inr k), some (.inr k2), some (.inl (i : Int))], [.inl (i : Int), .inr k2, .inl (i : Int), .inr a], _)) rfl ?_
      refine b_vV (as := [.inl (i : Int)]) (rest := [.inl (i : Int), .inr a]) (k := k2) (.inl (m.getD i 0)) okX4_takeFrom rfl lkX4_19 caX4_at (Nat.le_of_ble_eq_true rfl) rfl (Nat.le_of_ble_eq_true rfl) ((f2 _).trans hk2) rfl rfl (c_at ((f2 _).trans hk2) ((f3 _).trans ha2) (by omega) (by omega)) ?_
      refine b_ast (j := i) okX4_takeFrom rfl (f4 _) rfl (by omega) (by omega) ?_
      rw [take_step hlm (by omega), hss]
      refine aGo okX4_takeFrom 2 (f' := (2, [some (.inr k), some (.inr k2), some (.inl ((i + 1 : Nat) : Int))], [], _)) rfl ?_
      exact ih (i + 1) (by omega)
  refine aGo okX4_takeFrom 2 (f' := (2, [some (.inr k), some (.inr k2), some (.inl ((0 : Nat) : Int))], [], h)) rfl ?_
  have l0 := loop l.length 0 (by omega)
  rw [List.take_zero, List.drop_zero, List.nil_append, hse] at l0
  exact l0
end ANU
end
section
/-! What the numbers are: rows, sums, steps, weights, shares, nets. -/
def rng (l : List Int) (b : Int) : Prop := ∀ i : Nat, 0 ≤ l.getD i 0 ∧ l.getD i 0 ≤ b
theorem getD_set {l : List Int} {i : Nat} (hi : i < l.length) (v : Int) (j : Nat) : (l.set i v).getD j 0 = if j = i then v else l.getD j 0 := by
  by_cases h : j = i
  · subst h
    rw [if_pos rfl, List.getD_eq_getElem?_getD, List.getElem?_set_self hi]; rfl
  · rw [if_neg h, List.getD_eq_getElem?_getD, List.getElem?_set_ne (Ne.symm h), ← List.getD_eq_getElem?_getD]
theorem getD_set_self {l : List Int} {i : Nat} (hi : i < l.length) (v : Int) : (l.set i v).getD i 0 = v := by rw [getD_set hi, if_pos rfl]
theorem getD_set_ne {l : List Int} {i j : Nat} (h : j ≠ i) (v : Int) : (l.set i v).getD j 0 = l.getD j 0 := by
  rw [List.getD_eq_getElem?_getD, List.getElem?_set_ne (Ne.symm h), ← List.getD_eq_getElem?_getD]
theorem rng_set {l : List Int} {b : Int} {i : Nat} {v : Int} (h : rng l b) (h0 : 0 ≤ v) (h1 : v ≤ b) : rng (l.set i v) b := by
  intro j
  by_cases hi : i < l.length
  · rw [getD_set hi]
    split
    · exact ⟨h0, h1⟩
    · exact h j
  · rw [List.set_eq_of_length_le (by omega)]
    exact h j
theorem rng_rep (m : Nat) {b : Int} (hb : 0 ≤ b) : rng (List.replicate m 0) b := by
  intro j
  rw [List.getD_eq_getElem?_getD, List.getElem?_replicate]
  split <;> simp [hb]
def sumN : Nat → (Nat → Int) → Int
  | 0, _ => 0
  | n + 1, F => sumN n F + F n
theorem sumN_congr {n : Nat} {F G : Nat → Int} (h : ∀ i, i < n → F i = G i) : sumN n F = sumN n G := by
  induction n with
  | zero => rfl
  | succ n ih => simp only [sumN]; rw [ih (fun i hi => h i (by omega)), h n (by omega)]
theorem sumN_le {n : Nat} {F : Nat → Int} {b : Int} (h : ∀ i, i < n → F i ≤ b) : sumN n F ≤ n * b := by
  induction n with
  | zero => simp [sumN]
  | succ n ih =>
    have h1 := ih (fun i hi => h i (by omega))
    have h2 := h n (by omega)
    simp only [sumN]
    rw [Int.natCast_add, Int.add_mul]
    omega
theorem sumN_ge {n : Nat} {F : Nat → Int} {b : Int} (h : ∀ i, i < n → b ≤ F i) : n * b ≤ sumN n F := by
  induction n with
  | zero => simp [sumN]
  | succ n ih =>
    have h1 := ih (fun i hi => h i (by omega))
    have h2 := h n (by omega)
    simp only [sumN]
    rw [Int.natCast_add, Int.add_mul]
    omega
theorem sumN_add (n : Nat) (F G : Nat → Int) : sumN n (fun i => F i + G i) = sumN n F + sumN n G := by
  induction n with
  | zero => rfl
  | succ n ih => simp only [sumN]; rw [ih]; omega
theorem sumN_sub (n : Nat) (F G : Nat → Int) : sumN n (fun i => F i - G i) = sumN n F - sumN n G := by
  induction n with
  | zero => rfl
  | succ n ih => simp only [sumN]; rw [ih]; omega
theorem sumN_mul (n : Nat) (t : Int) (F : Nat → Int) : sumN n (fun i => t * F i) = t * sumN n F := by
  induction n with
  | zero => simp [sumN]
  | succ n ih => simp only [sumN]; rw [ih, Int.mul_add]
/-- steps of two cells -/
def stp (a b : Int) : Int := aAbs (a / 6 - b / 6) + aAbs (a % 6 - b % 6)
theorem stp_self (a : Int) : stp a a = 0 := by simp [stp, aAbs]
theorem stp_le {a b : Int} (ha : 0 ≤ a ∧ a ≤ 35) (hb : 0 ≤ b ∧ b ≤ 35) : 0 ≤ stp a b ∧ stp a b ≤ 10 := by
  unfold stp aAbs
  split <;> split <;> omega
theorem stp_comm (a b : Int) : stp a b = stp b a := by
  unfold stp aAbs
  split <;> split <;> split <;> split <;> omega
/-- how far one is from all, the nearest of the others -/
def far (p : Nat) (c : List Int) (i : Nat) : Int := sumN p (fun j => stp (c.getD i 0) (c.getD j 0))
def near : Nat → List Int → Nat → Int
  | 0, _, _ => 10
  | j + 1, c, i => if j = i then near j c i else min (near j c i) (stp (c.getD i 0) (c.getD j 0))
theorem far_le {p : Nat} {c : List Int} (hc : rng c 35) (i : Nat) : 0 ≤ far p c i ∧ far p c i ≤ p * 10 := by
  unfold far
  have h1 := sumN_ge (n := p) (F := fun j => stp (c.getD i 0) (c.getD j 0)) (b := 0) (fun j _ => (stp_le (hc i) (hc j)).1)
  have h2 := sumN_le (n := p) (F := fun j => stp (c.getD i 0) (c.getD j 0)) (b := 10) (fun j _ => (stp_le (hc i) (hc j)).2)
  omega
theorem near_le {p : Nat} {c : List Int} (hc : rng c 35) (i : Nat) : 0 ≤ near p c i ∧ near p c i ≤ 10 := by
  induction p with
  | zero => exact ⟨(by decide : (0 : Int) ≤ 10), (by decide : (10 : Int) ≤ 10)⟩
  | succ p ih =>
    simp only [near]
    have := stp_le (hc i) (hc p)
    split <;> omega
/-- the weight of one -/
def wtOf (kd fg pe : Int) (ne : Int) : Int :=
  if kd = 1 then pe + fg else if kd = 2 then 2 * pe else if kd = 3 then max 1 (pe / 2) else if kd = 4 then (if ne < 3 then pe + fg else pe + fg + 5) else if kd = 5 then max 1 (max 1 (pe / 2) - fg) else pe
def wt (p : Nat) (k f c : List Int) (i : Nat) : Int := wtOf (k.getD i 0) (f.getD i 0) (max 1 (far p c i)) (near p c i)
theorem wt_le {p : Nat} {k f c : List Int} (hp : p ≤ 7) (hf : rng f 9) (hc : rng c 35) (i : Nat) : 1 ≤ wt p k f c i ∧ wt p k f c i ≤ 200 := by
  have h1 := far_le (p := p) hc i
  have h2 := hf i
  have h3 : (p : Int) ≤ 7 := by omega
  unfold wt wtOf
  repeat' split
  all_goals omega
def wAll (p : Nat) (k f c : List Int) : Int := sumN p (wt p k f c)
/-- shares by weights: cut, what is left over to the first ones -/
def cutS (p : Nat) (w : Nat → Int) (t : Int) (i : Nat) : Int := t * w i / sumN p w
def lefS (p : Nat) (w : Nat → Int) (t : Int) : Int := t - sumN p (cutS p w t)
def shrS (p : Nat) (w : Nat → Int) (t : Int) (i : Nat) : Int := cutS p w t i + if (i : Int) < lefS p w t then 1 else 0
def shr (p : Nat) (k f c : List Int) (t : Int) (i : Nat) : Int := shrS p (wt p k f c) t i
theorem sum_pos {p : Nat} {w : Nat → Int} (hp : 0 < p) (hw : ∀ i, i < p → 1 ≤ w i) : 1 ≤ sumN p w := by
  have := sumN_ge (n := p) (F := w) (b := 1) hw
  omega
theorem cutS_le {p : Nat} {w : Nat → Int} {t : Int} (ht : 0 ≤ t) (hw : ∀ i, i < p → 1 ≤ w i) {i : Nat} (hi : i < p) : 0 ≤ cutS p w t i ∧ cutS p w t i ≤ t := by
  have hs : 1 ≤ sumN p w := sum_pos (by omega) hw
  have h1 : w i ≤ sumN p w := by
    clear hs
    induction p with
    | zero => omega
    | succ p ih =>
      simp only [sumN]
      have h0 : 0 ≤ sumN p w := by
        have := sumN_ge (n := p) (F := w) (b := 0) (fun j hj => by have := hw j (by omega); omega)
        omega
      by_cases hip : i = p
      · subst hip; omega
      · have := ih (fun j hj => hw j (by omega)) (by omega)
        have := hw p (by omega)
        omega
  unfold cutS
  have h0 := hw i hi
  refine ⟨Int.ediv_nonneg (Int.mul_nonneg ht (by omega)) (by omega), ?_⟩
  refine Int.le_trans (Int.ediv_le_ediv (by omega) (Int.mul_le_mul_of_nonneg_left h1 ht)) ?_
  rw [Int.mul_ediv_cancel _ (by omega)]
  exact Int.le_refl t
theorem lefS_le {p : Nat} {w : Nat → Int} {t : Int} (hp : 0 < p) (hw : ∀ i, i < p → 1 ≤ w i) : 0 ≤ lefS p w t ∧ lefS p w t < p := by
  have hs : 1 ≤ sumN p w := sum_pos hp hw
  have e : ∀ m, sumN p w * sumN m (cutS p w t) = t * sumN m w - sumN m (fun i => t * w i % sumN p w) := by
    intro m
    induction m with
    | zero => simp [sumN]
    | succ m ih =>
      simp only [sumN]
      rw [Int.mul_add, ih, Int.mul_add]
      have := Int.mul_ediv_add_emod (t * w m) (sumN p w)
      unfold cutS
      omega
  have h1 := e p
  have h2 := sumN_ge (n := p) (F := fun i => t * w i % sumN p w) (b := 0) (fun i _ => Int.emod_nonneg _ (by omega))
  have h3 := sumN_le (n := p) (F := fun i => t * w i % sumN p w) (b := sumN p w - 1) (fun i _ => by have := Int.emod_lt_of_pos (t * w i) (b := sumN p w) (by omega); omega)
  unfold lefS
  generalize sumN p (cutS p w t) = C at *
  generalize sumN p (fun i => t * w i % sumN p w) = E at *
  generalize sumN p w = W at *
  have e1 : W * (t - C) = E := by rw [Int.mul_sub, h1, Int.mul_comm t W]; omega
  have hp1 : (1 : Int) ≤ p := by omega
  constructor
  · rcases Int.lt_or_le (t - C) 0 with q | q
    · have : W * (t - C) ≤ W * (-1) := Int.mul_le_mul_of_nonneg_left (by omega) (by omega)
      omega
    · exact q
  · rcases Int.lt_or_le (t - C) p with q | q
    · exact q
    · have z1 : W * p ≤ W * (t - C) := Int.mul_le_mul_of_nonneg_left q (by omega)
      have z2 : (p : Int) * (W - 1) = W * p - p := by rw [Int.mul_sub, Int.mul_one, Int.mul_comm]
      omega
theorem shrS_le {p : Nat} {w : Nat → Int} {t : Int} (ht : 0 ≤ t) (hw : ∀ i, i < p → 1 ≤ w i) {i : Nat} (hi : i < p) : 0 ≤ shrS p w t i ∧ shrS p w t i ≤ t + 1 := by
  have h := cutS_le ht hw hi
  unfold shrS
  split <;> omega
/-- what one has lent less what he has borrowed -/
def net (p : Nat) (l : List Int) (i : Nat) : Int := sumN p (fun j => l.getD (7 * i + j) 0 - l.getD (7 * j + i) 0)
theorem net_le {p : Nat} {l : List Int} (hp : p ≤ 7) (hl : rng l 99) (i : Nat) : -700 ≤ net p l i ∧ net p l i ≤ 700 := by
  have h1 := sumN_ge (n := p) (F := fun j => l.getD (7 * i + j) 0 - l.getD (7 * j + i) 0) (b := -99) (fun j _ => by have := hl (7 * i + j); have := hl (7 * j + i); omega)
  have h2 := sumN_le (n := p) (F := fun j => l.getD (7 * i + j) 0 - l.getD (7 * j + i) 0) (b := 99) (fun j _ => by have := hl (7 * i + j); have := hl (7 * j + i); omega)
  unfold net
  have : (p : Int) ≤ 7 := by omega
  omega
/-- what is there -/
def bOK (p : Nat) (k f c n kp l : List Int) (t d : Int) : Prop :=
  p ≤ 7 ∧ k.length = 7 ∧ f.length = 7 ∧ c.length = 7 ∧ n.length = 7 ∧ kp.length = 7 ∧ l.length = 49 ∧ rng k 5 ∧ rng f 9 ∧ rng c 35 ∧ rng n 99 ∧ rng kp 9999 ∧ rng l 99 ∧ 0 ≤ t ∧ t ≤ 999 ∧ 0 ≤ d ∧ d ≤ 5000
/-- what follows from it -/
def nOK (p : Nat) (l nt : List Int) : Prop := nt.length = 7 ∧ ∀ i, i < p → nt.getD i 0 = net p l i
def wOK (p : Nat) (k f c w : List Int) (wa : Int) : Prop := w.length = 7 ∧ (∀ i, i < p → w.getD i 0 = wt p k f c i) ∧ wa = wAll p k f c
def sOK (p : Nat) (k f c sh : List Int) (t : Int) : Prop := sh.length = 7 ∧ ∀ i, i < p → sh.getD i 0 = shr p k f c t i
/-! bits, days -/
def bitsN : Nat → (Nat → Bool) → Int
  | 0, _ => 0
  | i + 1, P => if P i = true then aOr (bitsN i P) (aShl 1 (i : Int)) else bitsN i P
theorem bitsN_t {i : Nat} {P : Nat → Bool} (h : P i = true) : bitsN (i + 1) P = aOr (bitsN i P) (aShl 1 (i : Int)) := by simp only [bitsN]; rw [if_pos h]
theorem bitsN_f {i : Nat} {P : Nat → Bool} (h : P i = false) : bitsN (i + 1) P = bitsN i P := by simp only [bitsN]; rw [if_neg (by rw [h]; decide)]
theorem bitsN_congr {i : Nat} {P P' : Nat → Bool} (h : ∀ q, q < i → P q = P' q) : bitsN i P = bitsN i P' := by
  induction i with
  | zero => rfl
  | succ i ih => simp only [bitsN]; rw [ih (fun q hq => h q (by omega)), h i (by omega)]
def hasL (sh nt : List Int) (q : Nat) : Int := sh.getD q 0 - nt.getD q 0
def dayV (kp : List Int) (has : Nat → Int) (n : List Int) (i : Nat) : Int := kp.getD i 0 + has i - n.getD i 0
def dayL : Nat → List Int → (Nat → Int) → List Int → List Int
  | 0, kp, _, _ => kp
  | i + 1, kp, has, n => (dayL i kp has n).set i (max 0 (min (dayV kp has n i) 9999))
def dayIt (p : Nat) (has : Nat → Int) (n : List Int) : Nat → List Int → List Int
  | 0, kp => kp
  | m + 1, kp => dayL p (dayIt p has n m kp) has n
/-- who is short on the last of m days -/
def dayB (p : Nat) (has : Nat → Int) (n : List Int) (kp : List Int) : Nat → Int
  | 0 => 0
  | m + 1 => bitsN p (fun q => decide (dayV (dayIt p has n m kp) has n q < 0))
theorem dayL_len (i : Nat) (kp : List Int) (has : Nat → Int) (n : List Int) : (dayL i kp has n).length = kp.length := by
  induction i with
  | zero => rfl
  | succ i ih => simp only [dayL, List.length_set, ih]
theorem dayL_at {i j : Nat} (h : i ≤ j) (kp : List Int) (has : Nat → Int) (n : List Int) : (dayL i kp has n).getD j 0 = kp.getD j 0 := by
  induction i with
  | zero => rfl
  | succ i ih => simp only [dayL]; rw [getD_set_ne (by omega), ih (by omega)]
theorem dayL_rng {i : Nat} {kp : List Int} {has : Nat → Int} {n : List Int} (h : rng kp 9999) : rng (dayL i kp has n) 9999 := by
  induction i with
  | zero => exact h
  | succ i ih => exact rng_set ih (by omega) (by omega)
theorem dayIt_len (p : Nat) (has : Nat → Int) (n : List Int) (m : Nat) (kp : List Int) : (dayIt p has n m kp).length = kp.length := by
  induction m with
  | zero => rfl
  | succ m ih => simp only [dayIt, dayL_len, ih]
theorem dayIt_rng {p : Nat} {has : Nat → Int} {n : List Int} {m : Nat} {kp : List Int} (h : rng kp 9999) : rng (dayIt p has n m kp) 9999 := by
  induction m with
  | zero => exact h
  | succ m ih => exact dayL_rng ih
theorem dayL_congr {p : Nat} {has has' : Nat → Int} (h : ∀ q, q < p → has q = has' q) (kp n : List Int) : ∀ i, i ≤ p → dayL i kp has n = dayL i kp has' n := by
  intro i
  induction i with
  | zero => intro _; rfl
  | succ i ih => intro hi; simp only [dayL, dayV]; rw [ih (by omega), h i (by omega)]
theorem dayIt_congr {p : Nat} {has has' : Nat → Int} (h : ∀ q, q < p → has q = has' q) (n : List Int) (m : Nat) (kp : List Int) : dayIt p has n m kp = dayIt p has' n m kp := by
  induction m with
  | zero => rfl
  | succ m ih => simp only [dayIt]; rw [ih, dayL_congr h _ _ p (Nat.le_refl p)]
theorem dayB_congr {p : Nat} {has has' : Nat → Int} (h : ∀ q, q < p → has q = has' q) (n kp : List Int) (m : Nat) : dayB p has n kp m = dayB p has' n kp m := by
  cases m with
  | zero => rfl
  | succ m =>
    simp only [dayB]; rw [dayIt_congr h]
    refine bitsN_congr fun q hq => ?_
    have e : dayV (dayIt p has' n m kp) has n q = dayV (dayIt p has' n m kp) has' n q := by unfold dayV; rw [h q hq]
    rw [e]
/-! one more; one less -/
def addL (p : Nat) (l : List Int) : Nat → List Int
  | 0 => l
  | m + 1 => ((addL p l m).set (7 * p + m) 0).set (7 * m + p) 0
theorem addL_len (p : Nat) (l : List Int) (m : Nat) : (addL p l m).length = l.length := by
  induction m with
  | zero => rfl
  | succ m ih => simp only [addL, List.length_set, ih]
theorem addL_rng {p : Nat} {l : List Int} {m : Nat} {b : Int} (hb : 0 ≤ b) (h : rng l b) : rng (addL p l m) b := by
  induction m with
  | zero => exact h
  | succ m ih => exact rng_set (rng_set ih (by omega) hb) (by omega) hb
/-- the place of one behind the leaving of another -/
def skp (g i : Nat) : Nat := if i < g then i else i + 1
theorem set_upto {m : List Int} {i : Nat} {v : Int} {F : Nat → Int} (hi : i < m.length) (hv : v = F i) (h : ∀ q, q < i → m.getD q 0 = F q) : ∀ q, q < i + 1 → (m.set i v).getD q 0 = F q := by
  intro q hq
  rw [getD_set hi]
  by_cases z : q = i
  · rw [if_pos z, z, hv]
  · rw [if_neg z]; exact h q (by omega)
theorem six {x : Int} (h : 0 ≤ x ∧ x ≤ 5) : x = 0 ∨ x = 1 ∨ x = 2 ∨ x = 3 ∨ x = 4 ∨ x = 5 := by omega
theorem shrS_in {p : Nat} {w : Nat → Int} {t : Int} {i : Nat} (h : (i : Int) < lefS p w t) : shrS p w t i = cutS p w t i + 1 := by unfold shrS; rw [if_pos h]
theorem shrS_out {p : Nat} {w : Nat → Int} {t : Int} {i : Nat} (h : lefS p w t ≤ i) : shrS p w t i = cutS p w t i := by unfold shrS; rw [if_neg (by omega), Int.add_zero]
theorem shrS_end {p : Nat} {w : Nat → Int} {t : Int} {m : List Int} {i : Nat} (h : lefS p w t ≤ i) (h2 : ∀ q, q < i → m.getD q 0 = shrS p w t q) (h3 : ∀ q, i ≤ q → q < p → m.getD q 0 = cutS p w t q) : ∀ q, q < p → m.getD q 0 = shrS p w t q := by
  intro q hq
  by_cases z : q < i
  · exact h2 q z
  · rw [h3 q (by omega) hq, shrS_out (by omega)]
section WTK
variable {p : Nat} {k f c : List Int} {i : Nat}
theorem wt_0 (h : k.getD i 0 = 0) : wt p k f c i = max 1 (far p c i) := by unfold wt; rw [h]; simp [wtOf]
theorem wt_1 (h : k.getD i 0 = 1) : wt p k f c i = max 1 (far p c i) + f.getD i 0 := by unfold wt; rw [h]; simp [wtOf]
theorem wt_2 (h : k.getD i 0 = 2) : wt p k f c i = 2 * max 1 (far p c i) := by unfold wt; rw [h]; simp [wtOf]
theorem wt_3 (h : k.getD i 0 = 3) : wt p k f c i = max 1 (max 1 (far p c i) / 2) := by unfold wt; rw [h]; simp [wtOf]
theorem wt_4t (h : k.getD i 0 = 4) (h2 : near p c i < 3) : wt p k f c i = max 1 (far p c i) + f.getD i 0 := by unfold wt; rw [h]; simp [wtOf, h2]
theorem wt_4f (h : k.getD i 0 = 4) (h2 : ¬ near p c i < 3) : wt p k f c i = max 1 (far p c i) + f.getD i 0 + 5 := by unfold wt; rw [h]; simp [wtOf, h2]
theorem wt_5 (h : k.getD i 0 = 5) : wt p k f c i = max 1 (max 1 (max 1 (far p c i) / 2) - f.getD i 0) := by unfold wt; rw [h]; simp [wtOf]
end WTK
/-! rows that close up behind one who leaves -/
def shL (g : Nat) (m : List Int) : Nat → List Int
  | 0 => m
  | j + 1 => (shL g m j).set (g + j) ((shL g m j).getD (g + j + 1) 0)
def rowL (m : List Int) (r : Nat) : Nat → List Int
  | 0 => m
  | x + 1 => (rowL m r x).set (7 * r + x) ((rowL m r x).getD (7 * (r + 1) + x) 0)
def colL (m : List Int) (r : Nat) : Nat → List Int
  | 0 => m
  | x + 1 => (colL m r x).set (7 * x + r) ((colL m r x).getD (7 * x + (r + 1)) 0)
def rowsL (g u : Nat) (m : List Int) : Nat → List Int
  | 0 => m
  | j + 1 => rowL (rowsL g u m j) (g + j) u
def colsL (g u : Nat) (m : List Int) : Nat → List Int
  | 0 => m
  | j + 1 => colL (colsL g u m j) (g + j) u
theorem shL_len (g : Nat) (m : List Int) (j : Nat) : (shL g m j).length = m.length := by
  induction j with
  | zero => rfl
  | succ j ih => simp only [shL, List.length_set, ih]
theorem rowL_len (m : List Int) (r x : Nat) : (rowL m r x).length = m.length := by
  induction x with
  | zero => rfl
  | succ j ih => simp only [rowL, List.length_set, ih]
theorem colL_len (m : List Int) (r x : Nat) : (colL m r x).length = m.length := by
  induction x with
  | zero => rfl
  | succ j ih => simp only [colL, List.length_set, ih]
theorem rowsL_len (g u : Nat) (m : List Int) (j : Nat) : (rowsL g u m j).length = m.length := by
  induction j with
  | zero => rfl
  | succ j ih => simp only [rowsL, rowL_len, ih]
theorem colsL_len (g u : Nat) (m : List Int) (j : Nat) : (colsL g u m j).length = m.length := by
  induction j with
  | zero => rfl
  | succ j ih => simp only [colsL, colL_len, ih]
theorem shL_rng {g : Nat} {m : List Int} {b : Int} (h : rng m b) (j : Nat) : rng (shL g m j) b := by
  induction j with
  | zero => exact h
  | succ j ih => exact rng_set ih (ih _).1 (ih _).2
theorem rowL_rng {m : List Int} {b : Int} (h : rng m b) (r x : Nat) : rng (rowL m r x) b := by
  induction x with
  | zero => exact h
  | succ j ih => exact rng_set ih (ih _).1 (ih _).2
theorem colL_rng {m : List Int} {b : Int} (h : rng m b) (r x : Nat) : rng (colL m r x) b := by
  induction x with
  | zero => exact h
  | succ j ih => exact rng_set ih (ih _).1 (ih _).2
theorem rowsL_rng {g u : Nat} {m : List Int} {b : Int} (h : rng m b) (j : Nat) : rng (rowsL g u m j) b := by
  induction j with
  | zero => exact h
  | succ j ih => exact rowL_rng ih _ _
theorem colsL_rng {g u : Nat} {m : List Int} {b : Int} (h : rng m b) (j : Nat) : rng (colsL g u m j) b := by
  induction j with
  | zero => exact h
  | succ j ih => exact colL_rng ih _ _
/-! pairs of people, in their order -/
def npI (c : List Int) (a : Nat) (z : Int × Int) : Nat → Int × Int
  | 0 => z
  | x + 1 => if stp (c.getD a 0) (c.getD (a + 1 + x) 0) < (npI c a z x).2 then (10 * (a : Int) + ((a + 1 + x : Nat) : Int), stp (c.getD a 0) (c.getD (a + 1 + x) 0)) else npI c a z x
def npO (c : List Int) (p : Nat) : Nat → Int × Int
  | 0 => (-9, 11)
  | a + 1 => npI c a (npO c p a) (p - (a + 1))
def msI (c : List Int) (a : Nat) (z : Int) : Nat → Int
  | 0 => z
  | x + 1 => max (msI c a z x) (stp (c.getD a 0) (c.getD (a + 1 + x) 0))
def msO (c : List Int) (p : Nat) : Nat → Int
  | 0 => -9
  | a + 1 => msI c a (msO c p a) (p - (a + 1))
theorem npI_t {c : List Int} {a x : Nat} {z : Int × Int} (h : stp (c.getD a 0) (c.getD (a + 1 + x) 0) < (npI c a z x).2) : npI c a z (x + 1) = (10 * (a : Int) + ((a + 1 + x : Nat) : Int), stp (c.getD a 0) (c.getD (a + 1 + x) 0)) := if_pos h
theorem npI_f {c : List Int} {a x : Nat} {z : Int × Int} (h : (npI c a z x).2 ≤ stp (c.getD a 0) (c.getD (a + 1 + x) 0)) : npI c a z (x + 1) = npI c a z x := if_neg (by omega)
/-- a pair that was found, or none -/
def npOK (c : List Int) (p : Nat) (z : Int × Int) : Prop := z = (-9, 11) ∨ ∃ a b : Nat, a < b ∧ b < p ∧ z = (10 * (a : Int) + (b : Int), stp (c.getD a 0) (c.getD b 0))
theorem npI_ok {c : List Int} {p a : Nat} {z : Int × Int} (h : npOK c p z) : ∀ x, a + 1 + x ≤ p → npOK c p (npI c a z x) := by
  intro x
  induction x with
  | zero => intro _; exact h
  | succ x ih =>
    intro hx
    have := ih (by omega)
    simp only [npI]
    split
    · exact Or.inr ⟨a, a + 1 + x, by omega, by omega, rfl⟩
    · exact this
theorem npO_ok {c : List Int} {p : Nat} : ∀ a, a ≤ p → npOK c p (npO c p a) := by
  intro a
  induction a with
  | zero => intro _; exact Or.inl rfl
  | succ a ih => intro h; exact npI_ok (ih (by omega)) _ (by omega)
theorem npOK_le {c : List Int} {p : Nat} {z : Int × Int} (hc : rng c 35) (hp : p ≤ 7) (h : npOK c p z) : -9 ≤ z.1 ∧ z.1 ≤ 100 ∧ 0 ≤ z.2 ∧ z.2 ≤ 11 := by
  rcases h with rfl | ⟨a, b, h1, h2, rfl⟩
  · decide
  · have := stp_le (hc a) (hc b)
    refine ⟨?_, ?_, ?_, ?_⟩ <;> simp only <;> omega
theorem msI_le {c : List Int} {a : Nat} {z : Int} (hc : rng c 35) (h : -9 ≤ z ∧ z ≤ 10) (x : Nat) : -9 ≤ msI c a z x ∧ msI c a z x ≤ 10 := by
  induction x with
  | zero => exact h
  | succ x ih =>
    have := stp_le (hc a) (hc (a + 1 + x))
    simp only [msI]; omega
theorem msO_le {c : List Int} {p : Nat} (hc : rng c 35) (a : Nat) : -9 ≤ msO c p a ∧ msO c p a ≤ 10 := by
  induction a with
  | zero => exact ⟨(by decide : (-9 : Int) ≤ -9), (by decide : (-9 : Int) ≤ 10)⟩
  | succ a ih => exact msI_le hc ih _
def loansN (p : Nat) (l : List Int) (i m : Nat) : Int := sumN m (fun j => if 0 < l.getD (7 * i + j) 0 then 1 else 0)
theorem loansN_le (p : Nat) (l : List Int) (i m : Nat) : 0 ≤ loansN p l i m ∧ loansN p l i m ≤ m := by
  unfold loansN
  have h1 := sumN_ge (n := m) (F := fun j => if 0 < l.getD (7 * i + j) 0 then (1 : Int) else 0) (b := 0) (fun j _ => by split <;> decide)
  have h2 := sumN_le (n := m) (F := fun j => if 0 < l.getD (7 * i + j) 0 then (1 : Int) else 0) (b := 1) (fun j _ => by split <;> decide)
  omega
end
section
/-! The contracts of the class's Moor; laid by gen_moor.py -/
theorem c_steps {N : Nat} {h : aH} {x y : Int} (hx : 0 ≤ x ∧ x ≤ 35) (hy : 0 ≤ y ∧ y ≤ 35) : aEx mX7_steps 1 N [.inl x, .inl y] h (some (.inl (stp x y))) h := by
  refine aEv_of okX7_steps caX7_steps (Nat.le_of_ble_eq_true rfl) ?_
  refine aGo okX7_steps 2 (f' := (3, [some (.inl x), some (.inl y)], [.inl 6, .inl x], _)) rfl ?_
  refine b_div okX7_steps rfl ⟨by omega, by omega⟩ ⟨by omega, by omega⟩ ?_
  refine aGo okX7_steps 2 (f' := (7, [some (.inl x), some (.inl y)], [.inl 6, .inl y, .inl (x / 6)], _)) rfl ?_
  refine b_div okX7_steps rfl ⟨by omega, by omega⟩ ⟨by omega, by omega⟩ ?_
  refine aGo okX7_steps 1 (f' := (9, [some (.inl x), some (.inl y)], [.inl ((x / 6) - (y / 6))], _)) rfl ?_
  refine b_abs okX7_steps rfl lkX7_293 ma_abs_s ma_abs_c (Nat.le_of_ble_eq_true rfl) (Nat.le_of_ble_eq_true rfl) ⟨by omega, by omega⟩ ?_
  refine aGo okX7_steps 2 (f' := (15, [some (.inl x), some (.inl y)], [.inl 6, .inl x, .inl (aAbs ((x / 6) - (y / 6)))], _)) rfl ?_
  refine b_rem okX7_steps rfl ⟨by omega, by omega⟩ ⟨by omega, by omega⟩ ?_
  refine aGo okX7_steps 2 (f' := (19, [some (.inl x), some (.inl y)], [.inl 6, .inl y, .inl (x % 6), .inl (aAbs ((x / 6) - (y / 6)))], _)) rfl ?_
  refine b_rem okX7_steps rfl ⟨by omega, by omega⟩ ⟨by omega, by omega⟩ ?_
  refine aGo okX7_steps 1 (f' := (21, [some (.inl x), some (.inl y)], [.inl ((x % 6) - (y % 6)), .inl (aAbs ((x / 6) - (y / 6)))], _)) rfl ?_
  refine b_abs okX7_steps rfl lkX7_293 ma_abs_s ma_abs_c (Nat.le_of_ble_eq_true rfl) (Nat.le_of_ble_eq_true rfl) ⟨by omega, by omega⟩ ?_
  refine aGo okX7_steps 1 (f' := (25, [some (.inl x), some (.inl y)], [.inl ((aAbs ((x / 6) - (y / 6))) + (aAbs ((x % 6) - (y % 6))))], _)) rfl ?_
  exact b_ret (v := (some (.inl ((aAbs ((x / 6) - (y / 6))) + (aAbs ((x % 6) - (y % 6))))))) ⟨rfl, Or.inl rfl⟩ ⟨rfl, rfl⟩ rfl
section AMO
variable {A0 B A3 B4 A5 C6 : List (Option aE)} {k f c n kp l nt w sh : List Int} {p : Nat} {t d wa : Int} {N : Nat}
set_option maxHeartbeats 4000000 in
theorem c_kindOf_1 (hl : k.length < 65536) {i : Nat} (hi : i < 65536) : aEx mX3_kindOf 1 N [.inr 32, .inl (i : Int)] [A0, (moSeg 32 k f c n kp l nt w sh (p : Int) t d wa), B, A3, B4, A5, C6] (some (.inl (k.getD i 0))) [A0, (moSeg 32 k f c n kp l nt w sh (p : Int) t d wa), B, A3, B4, A5, C6] := by
  refine aEv_of okX3_kindOf caX3_kindOf (Nat.le_of_ble_eq_true rfl) ?_
  refine aGo okX3_kindOf 3 (f' := (5, [some (.inr 32), some (.inl (i : Int))], [.inl (i : Int), .inr 33], _)) rfl ?_
  refine b_vV (as := [.inl (i : Int)]) (rest := []) (k := 33) (.inl (k.getD i 0)) okX3_kindOf rfl lkX3_65 caX4_at (Nat.le_of_ble_eq_true rfl) rfl (Nat.le_of_ble_eq_true rfl) rfl rfl rfl (c_at (i := i) rfl rfl (by first | omega | (simp only [List.length_set]; omega)) (by omega)) ?_
  exact b_ret (v := (some (.inl (k.getD i 0)))) ⟨rfl, Or.inl rfl⟩ ⟨rfl, rfl⟩ rfl
set_option maxHeartbeats 4000000 in
theorem c_figureOf_1 (hl : f.length < 65536) {i : Nat} (hi : i < 65536) : aEx mX3_figureOf 1 N [.inr 32, .inl (i : Int)] [A0, (moSeg 32 k f c n kp l nt w sh (p : Int) t d wa), B, A3, B4, A5, C6] (some (.inl (f.getD i 0))) [A0, (moSeg 32 k f c n kp l nt w sh (p : Int) t d wa), B, A3, B4, A5, C6] := by
  refine aEv_of okX3_figureOf caX3_figureOf (Nat.le_of_ble_eq_true rfl) ?_
  refine aGo okX3_figureOf 3 (f' := (5, [some (.inr 32), some (.inl (i : Int))], [.inl (i : Int), .inr 35], _)) rfl ?_
  refine b_vV (as := [.inl (i : Int)]) (rest := []) (k := 35) (.inl (f.getD i 0)) okX3_figureOf rfl lkX3_65 caX4_at (Nat.le_of_ble_eq_true rfl) rfl (Nat.le_of_ble_eq_true rfl) rfl rfl rfl (c_at (i := i) rfl rfl (by first | omega | (simp only [List.length_set]; omega)) (by omega)) ?_
  exact b_ret (v := (some (.inl (f.getD i 0)))) ⟨rfl, Or.inl rfl⟩ ⟨rfl, rfl⟩ rfl
set_option maxHeartbeats 4000000 in
theorem c_cellOf_1 (hl : c.length < 65536) {i : Nat} (hi : i < 65536) : aEx mX3_cellOf 1 N [.inr 32, .inl (i : Int)] [A0, (moSeg 32 k f c n kp l nt w sh (p : Int) t d wa), B, A3, B4, A5, C6] (some (.inl (c.getD i 0))) [A0, (moSeg 32 k f c n kp l nt w sh (p : Int) t d wa), B, A3, B4, A5, C6] := by
  refine aEv_of okX3_cellOf caX3_cellOf (Nat.le_of_ble_eq_true rfl) ?_
  refine aGo okX3_cellOf 3 (f' := (5, [some (.inr 32), some (.inl (i : Int))], [.inl (i : Int), .inr 37], _)) rfl ?_
  refine b_vV (as := [.inl (i : Int)]) (rest := []) (k := 37) (.inl (c.getD i 0)) okX3_cellOf rfl lkX3_65 caX4_at (Nat.le_of_ble_eq_true rfl) rfl (Nat.le_of_ble_eq_true rfl) rfl rfl rfl (c_at (i := i) rfl rfl (by first | omega | (simp only [List.length_set]; omega)) (by omega)) ?_
  exact b_ret (v := (some (.inl (c.getD i 0)))) ⟨rfl, Or.inl rfl⟩ ⟨rfl, rfl⟩ rfl
set_option maxHeartbeats 4000000 in
theorem c_needOf_1 (hl : n.length < 65536) {i : Nat} (hi : i < 65536) : aEx mX3_needOf 1 N [.inr 32, .inl (i : Int)] [A0, (moSeg 32 k f c n kp l nt w sh (p : Int) t d wa), B, A3, B4, A5, C6] (some (.inl (n.getD i 0))) [A0, (moSeg 32 k f c n kp l nt w sh (p : Int) t d wa), B, A3, B4, A5, C6] := by
  refine aEv_of okX3_needOf caX3_needOf (Nat.le_of_ble_eq_true rfl) ?_
  refine aGo okX3_needOf 3 (f' := (5, [some (.inr 32), some (.inl (i : Int))], [.inl (i : Int), .inr 39], _)) rfl ?_
  refine b_vV (as := [.inl (i : Int)]) (rest := []) (k := 39) (.inl (n.getD i 0)) okX3_needOf rfl lkX3_65 caX4_at (Nat.le_of_ble_eq_true rfl) rfl (Nat.le_of_ble_eq_true rfl) rfl rfl rfl (c_at (i := i) rfl rfl (by first | omega | (simp only [List.length_set]; omega)) (by omega)) ?_
  exact b_ret (v := (some (.inl (n.getD i 0)))) ⟨rfl, Or.inl rfl⟩ ⟨rfl, rfl⟩ rfl
set_option maxHeartbeats 4000000 in
theorem c_keptOf_1 (hl : kp.length < 65536) {i : Nat} (hi : i < 65536) : aEx mX3_keptOf 1 N [.inr 32, .inl (i : Int)] [A0, (moSeg 32 k f c n kp l nt w sh (p : Int) t d wa), B, A3, B4, A5, C6] (some (.inl (kp.getD i 0))) [A0, (moSeg 32 k f c n kp l nt w sh (p : Int) t d wa), B, A3, B4, A5, C6] := by
  refine aEv_of okX3_keptOf caX3_keptOf (Nat.le_of_ble_eq_true rfl) ?_
  refine aGo okX3_keptOf 3 (f' := (5, [some (.inr 32), some (.inl (i : Int))], [.inl (i : Int), .inr 41], _)) rfl ?_
  refine b_vV (as := [.inl (i : Int)]) (rest := []) (k := 41) (.inl (kp.getD i 0)) okX3_keptOf rfl lkX3_65 caX4_at (Nat.le_of_ble_eq_true rfl) rfl (Nat.le_of_ble_eq_true rfl) rfl rfl rfl (c_at (i := i) rfl rfl (by first | omega | (simp only [List.length_set]; omega)) (by omega)) ?_
  exact b_ret (v := (some (.inl (kp.getD i 0)))) ⟨rfl, Or.inl rfl⟩ ⟨rfl, rfl⟩ rfl
set_option maxHeartbeats 4000000 in
theorem c_weightOf_1 (hl : w.length < 65536) {i : Nat} (hi : i < 65536) : aEx mX3_weightOf 1 N [.inr 32, .inl (i : Int)] [A0, (moSeg 32 k f c n kp l nt w sh (p : Int) t d wa), B, A3, B4, A5, C6] (some (.inl (w.getD i 0))) [A0, (moSeg 32 k f c n kp l nt w sh (p : Int) t d wa), B, A3, B4, A5, C6] := by
  refine aEv_of okX3_weightOf caX3_weightOf (Nat.le_of_ble_eq_true rfl) ?_
  refine aGo okX3_weightOf 3 (f' := (5, [some (.inr 32), some (.inl (i : Int))], [.inl (i : Int), .inr 47], _)) rfl ?_
  refine b_vV (as := [.inl (i : Int)]) (rest := []) (k := 47) (.inl (w.getD i 0)) okX3_weightOf rfl lkX3_65 caX4_at (Nat.le_of_ble_eq_true rfl) rfl (Nat.le_of_ble_eq_true rfl) rfl rfl rfl (c_at (i := i) rfl rfl (by first | omega | (simp only [List.length_set]; omega)) (by omega)) ?_
  exact b_ret (v := (some (.inl (w.getD i 0)))) ⟨rfl, Or.inl rfl⟩ ⟨rfl, rfl⟩ rfl
set_option maxHeartbeats 4000000 in
theorem c_shareOf_1 (hl : sh.length < 65536) {i : Nat} (hi : i < 65536) : aEx mX3_shareOf 1 N [.inr 32, .inl (i : Int)] [A0, (moSeg 32 k f c n kp l nt w sh (p : Int) t d wa), B, A3, B4, A5, C6] (some (.inl (sh.getD i 0))) [A0, (moSeg 32 k f c n kp l nt w sh (p : Int) t d wa), B, A3, B4, A5, C6] := by
  refine aEv_of okX3_shareOf caX3_shareOf (Nat.le_of_ble_eq_true rfl) ?_
  refine aGo okX3_shareOf 3 (f' := (5, [some (.inr 32), some (.inl (i : Int))], [.inl (i : Int), .inr 49], _)) rfl ?_
  refine b_vV (as := [.inl (i : Int)]) (rest := []) (k := 49) (.inl (sh.getD i 0)) okX3_shareOf rfl lkX3_65 caX4_at (Nat.le_of_ble_eq_true rfl) rfl (Nat.le_of_ble_eq_true rfl) rfl rfl rfl (c_at (i := i) rfl rfl (by first | omega | (simp only [List.length_set]; omega)) (by omega)) ?_
  exact b_ret (v := (some (.inl (sh.getD i 0)))) ⟨rfl, Or.inl rfl⟩ ⟨rfl, rfl⟩ rfl
set_option maxHeartbeats 4000000 in
theorem c_netOf_1 (hl : nt.length < 65536) {i : Nat} (hi : i < 65536) : aEx mX3_netOf 1 N [.inr 32, .inl (i : Int)] [A0, (moSeg 32 k f c n kp l nt w sh (p : Int) t d wa), B, A3, B4, A5, C6] (some (.inl (nt.getD i 0))) [A0, (moSeg 32 k f c n kp l nt w sh (p : Int) t d wa), B, A3, B4, A5, C6] := by
  refine aEv_of okX3_netOf caX3_netOf (Nat.le_of_ble_eq_true rfl) ?_
  refine aGo okX3_netOf 3 (f' := (5, [some (.inr 32), some (.inl (i : Int))], [.inl (i : Int), .inr 45], _)) rfl ?_
  refine b_vV (as := [.inl (i : Int)]) (rest := []) (k := 45) (.inl (nt.getD i 0)) okX3_netOf rfl lkX3_65 caX4_at (Nat.le_of_ble_eq_true rfl) rfl (Nat.le_of_ble_eq_true rfl) rfl rfl rfl (c_at (i := i) rfl rfl (by first | omega | (simp only [List.length_set]; omega)) (by omega)) ?_
  exact b_ret (v := (some (.inl (nt.getD i 0)))) ⟨rfl, Or.inl rfl⟩ ⟨rfl, rfl⟩ rfl
set_option maxHeartbeats 4000000 in
theorem c_people_1  : aEx mX3_people 0 N [.inr 32] [A0, (moSeg 32 k f c n kp l nt w sh (p : Int) t d wa), B, A3, B4, A5, C6] (some (.inl (p : Int))) [A0, (moSeg 32 k f c n kp l nt w sh (p : Int) t d wa), B, A3, B4, A5, C6] := by
  refine aEv_of okX3_people caX3_people (Nat.le_of_ble_eq_true rfl) ?_
  refine aGo okX3_people 2 (f' := (4, [some (.inr 32)], [.inl (p : Int)], _)) rfl ?_
  exact b_ret (v := (some (.inl (p : Int)))) ⟨rfl, Or.inl rfl⟩ ⟨rfl, rfl⟩ rfl
set_option maxHeartbeats 4000000 in
theorem c_total_1  : aEx mX3_total 0 N [.inr 32] [A0, (moSeg 32 k f c n kp l nt w sh (p : Int) t d wa), B, A3, B4, A5, C6] (some (.inl t)) [A0, (moSeg 32 k f c n kp l nt w sh (p : Int) t d wa), B, A3, B4, A5, C6] := by
  refine aEv_of okX3_total caX3_total (Nat.le_of_ble_eq_true rfl) ?_
  refine aGo okX3_total 2 (f' := (4, [some (.inr 32)], [.inl t], _)) rfl ?_
  exact b_ret (v := (some (.inl t))) ⟨rfl, Or.inl rfl⟩ ⟨rfl, rfl⟩ rfl
set_option maxHeartbeats 4000000 in
theorem c_day_1  : aEx mX3_day 0 N [.inr 32] [A0, (moSeg 32 k f c n kp l nt w sh (p : Int) t d wa), B, A3, B4, A5, C6] (some (.inl d)) [A0, (moSeg 32 k f c n kp l nt w sh (p : Int) t d wa), B, A3, B4, A5, C6] := by
  refine aEv_of okX3_day caX3_day (Nat.le_of_ble_eq_true rfl) ?_
  refine aGo okX3_day 2 (f' := (4, [some (.inr 32)], [.inl d], _)) rfl ?_
  exact b_ret (v := (some (.inl d))) ⟨rfl, Or.inl rfl⟩ ⟨rfl, rfl⟩ rfl
set_option maxHeartbeats 4000000 in
theorem c_allWeights_1  : aEx mX3_allWeights 0 N [.inr 32] [A0, (moSeg 32 k f c n kp l nt w sh (p : Int) t d wa), B, A3, B4, A5, C6] (some (.inl wa)) [A0, (moSeg 32 k f c n kp l nt w sh (p : Int) t d wa), B, A3, B4, A5, C6] := by
  refine aEv_of okX3_allWeights caX3_allWeights (Nat.le_of_ble_eq_true rfl) ?_
  refine aGo okX3_allWeights 2 (f' := (4, [some (.inr 32)], [.inl wa], _)) rfl ?_
  exact b_ret (v := (some (.inl wa))) ⟨rfl, Or.inl rfl⟩ ⟨rfl, rfl⟩ rfl
set_option maxHeartbeats 4000000 in
theorem c_hasOf_1 (h1 : sh.length < 65536) (h2 : nt.length < 65536) {i : Nat} (hi : i < 65536) : aEx mX3_hasOf 1 N [.inr 32, .inl (i : Int)] [A0, (moSeg 32 k f c n kp l nt w sh (p : Int) t d wa), B, A3, B4, A5, C6] (some (.inl (sh.getD i 0 - nt.getD i 0))) [A0, (moSeg 32 k f c n kp l nt w sh (p : Int) t d wa), B, A3, B4, A5, C6] := by
  refine aEv_of okX3_hasOf caX3_hasOf (Nat.le_of_ble_eq_true rfl) ?_
  refine aGo okX3_hasOf 3 (f' := (5, [some (.inr 32), some (.inl (i : Int))], [.inl (i : Int), .inr 49], _)) rfl ?_
  refine b_vV (as := [.inl (i : Int)]) (rest := []) (k := 49) (.inl (sh.getD i 0)) okX3_hasOf rfl lkX3_65 caX4_at (Nat.le_of_ble_eq_true rfl) rfl (Nat.le_of_ble_eq_true rfl) rfl rfl rfl (c_at (i := i) rfl rfl (by first | omega | (simp only [List.length_set]; omega)) (by omega)) ?_
  refine aGo okX3_hasOf 3 (f' := (13, [some (.inr 32), some (.inl (i : Int))], [.inl (i : Int), .inr 45, .inl (sh.getD i 0)], _)) rfl ?_
  refine b_vV (as := [.inl (i : Int)]) (rest := [.inl (sh.getD i 0)]) (k := 45) (.inl (nt.getD i 0)) okX3_hasOf rfl lkX3_65 caX4_at (Nat.le_of_ble_eq_true rfl) rfl (Nat.le_of_ble_eq_true rfl) rfl rfl rfl (c_at (i := i) rfl rfl (by first | omega | (simp only [List.length_set]; omega)) (by omega)) ?_
  refine aGo okX3_hasOf 1 (f' := (17, [some (.inr 32), some (.inl (i : Int))], [.inl ((sh.getD i 0) - (nt.getD i 0))], _)) rfl ?_
  exact b_ret (v := (some (.inl ((sh.getD i 0) - (nt.getD i 0))))) ⟨rfl, Or.inl rfl⟩ ⟨rfl, rfl⟩ rfl
set_option maxHeartbeats 4000000 in
theorem c_lentBy_1 (h1 : l.length < 65536) {i j : Nat} (hi : i < 100) (hj : j < 100) : aEx mX3_lentBy 1 N [.inr 32, .inl (i : Int), .inl (j : Int)] [A0, (moSeg 32 k f c n kp l nt w sh (p : Int) t d wa), B, A3, B4, A5, C6] (some (.inl (l.getD (7 * i + j) 0))) [A0, (moSeg 32 k f c n kp l nt w sh (p : Int) t d wa), B, A3, B4, A5, C6] := by
  refine aEv_of okX3_lentBy caX3_lentBy (Nat.le_of_ble_eq_true rfl) ?_
  refine aGo okX3_lentBy 7 (f' := (10, [some (.inr 32), some (.inl (i : Int)), some (.inl (j : Int))], [.inl (((i : Int) * 7) + (j : Int)), .inr 43], _)) rfl ?_
  refine b_vV (as := [.inl (((i : Int) * 7) + (j : Int))]) (rest := []) (k := 43) (.inl (l.getD ((i * 7) + j) 0)) okX3_lentBy rfl lkX3_65 caX4_at (Nat.le_of_ble_eq_true rfl) rfl (Nat.le_of_ble_eq_true rfl) rfl rfl rfl (c_at (i := ((i * 7) + j)) rfl rfl (by first | omega | (simp only [List.length_set]; omega)) (by omega)) ?_
  exact b_ret (v := (some (.inl (l.getD ((i * 7) + j) 0)))) ⟨rfl, Or.inl rfl⟩ ⟨by rw [show 7 * i + j = i * 7 + j by omega], rfl⟩ rfl
set_option maxHeartbeats 4000000 in
theorem c_putLent_1 (h1 : l.length = 49) {i j : Nat} (hi : i < 7) (hj : j < 7) (v : Int) : aEx mX3_putLent 1 N [.inr 32, .inl (i : Int), .inl (j : Int), .inl v] [A0, (moSeg 32 k f c n kp l nt w sh (p : Int) t d wa), B, A3, B4, A5, C6] (none) [A0, (moSeg 32 k f c n kp (l.set (7 * i + j) v) nt w sh (p : Int) t d wa), B, A3, B4, A5, C6] := by
  refine aEv_of okX3_putLent caX3_putLent (Nat.le_of_ble_eq_true rfl) ?_
  refine aGo okX3_putLent 8 (f' := (11, [some (.inr 32), some (.inl (i : Int)), some (.inl (j : Int)), some (.inl v)], [.inl v, .inl (((i : Int) * 7) + (j : Int)), .inr 43], _)) rfl ?_
  refine b_vN (as := [.inl (((i : Int) * 7) + (j : Int)), .inl v]) (rest := []) (k := 43) okX3_putLent rfl lkX3_98 caX4_put (Nat.le_of_ble_eq_true rfl) rfl (Nat.le_of_ble_eq_true rfl) rfl rfl rfl (c_put (i := ((i * 7) + j)) rfl rfl (by first | omega | (simp only [List.length_set]; omega)) (by first | omega | (simp only [List.length_set]; omega)) v) ?_
  refine b_cast (f' := (14, [some (.inr 32), some (.inl (i : Int)), some (.inl (j : Int)), some (.inl v)], [], [A0, (moSeg 32 k f c n kp (l.set ((i * 7) + j) v) nt w sh (p : Int) t d wa), B, A3, B4, A5, C6])) rfl ?_
  exact b_ret (v := none) ⟨rfl, rfl⟩ ⟨rfl, by rw [show 7 * i + j = i * 7 + j by omega]⟩ rfl
set_option maxHeartbeats 4000000 in
theorem c_isThere_1_t {x : Int} (hp : p ≤ 7) (h0 : 0 ≤ x) (h1 : x < p) : aEx mX3_isThere 0 N [.inr 32, .inl x] [A0, (moSeg 32 k f c n kp l nt w sh (p : Int) t d wa), B, A3, B4, A5, C6] (some (.inl 1)) [A0, (moSeg 32 k f c n kp l nt w sh (p : Int) t d wa), B, A3, B4, A5, C6] := by
  refine aEv_of okX3_isThere caX3_isThere (Nat.le_of_ble_eq_true rfl) ?_
  refine aGo okX3_isThere 1 (f' := (1, [some (.inr 32), some (.inl x)], [.inl x], _)) rfl ?_
  refine b0_lt (tgt := 16) okX3_isThere rfl rfl ⟨by omega, by omega⟩ (fun h1 => absurd h1 (by omega)) (fun h1 => ?_)
  refine aGo okX3_isThere 3 (f' := (9, [some (.inr 32), some (.inl x)], [.inl (p : Int), .inl x], _)) rfl ?_
  refine b_ge (tgt := 16) okX3_isThere rfl rfl ⟨by omega, by omega⟩ ⟨by omega, by omega⟩ (fun h9 => absurd h9 (by omega)) (fun h9 => ?_)
  refine aGo okX3_isThere 2 (f' := (17, [some (.inr 32), some (.inl x)], [.inl 1], _)) rfl ?_
  exact b_ret (v := (some (.inl 1))) ⟨rfl, Or.inr ⟨rfl, Or.inr rfl⟩⟩ ⟨rfl, rfl⟩ rfl
set_option maxHeartbeats 4000000 in
theorem c_isThere_1_f {x : Int} (hp : p ≤ 7) (hx : aI x) (h0 : ¬ (0 ≤ x ∧ x < p)) : aEx mX3_isThere 0 N [.inr 32, .inl x] [A0, (moSeg 32 k f c n kp l nt w sh (p : Int) t d wa), B, A3, B4, A5, C6] (some (.inl 0)) [A0, (moSeg 32 k f c n kp l nt w sh (p : Int) t d wa), B, A3, B4, A5, C6] := by
  refine aEv_of okX3_isThere caX3_isThere (Nat.le_of_ble_eq_true rfl) ?_
  obtain ⟨hx1, hx2⟩ := hx
  refine aGo okX3_isThere 1 (f' := (1, [some (.inr 32), some (.inl x)], [.inl x], _)) rfl ?_
  refine b0_lt (tgt := 16) okX3_isThere rfl rfl ⟨by omega, by omega⟩ (fun h1 => ?_) (fun h1 => ?_)
  · refine aGo okX3_isThere 1 (f' := (17, [some (.inr 32), some (.inl x)], [.inl 0], _)) rfl ?_
    exact b_ret (v := (some (.inl 0))) ⟨rfl, Or.inr ⟨rfl, Or.inl rfl⟩⟩ ⟨rfl, rfl⟩ rfl
  · refine aGo okX3_isThere 3 (f' := (9, [some (.inr 32), some (.inl x)], [.inl (p : Int), .inl x], _)) rfl ?_
    refine b_ge (tgt := 16) okX3_isThere rfl rfl ⟨by omega, by omega⟩ ⟨by omega, by omega⟩ (fun h9 => ?_) (fun h9 => absurd h9 (by omega))
    refine aGo okX3_isThere 1 (f' := (17, [some (.inr 32), some (.inl x)], [.inl 0], _)) rfl ?_
    exact b_ret (v := (some (.inl 0))) ⟨rfl, Or.inr ⟨rfl, Or.inl rfl⟩⟩ ⟨rfl, rfl⟩ rfl
set_option maxHeartbeats 4000000 in
theorem c_areTwo_1_t {x y : Int} (hp : p ≤ 7) (h0 : 0 ≤ x ∧ x < p) (h1 : 0 ≤ y ∧ y < p) (h2 : x ≠ y) : aEx mX3_areTwo 1 N [.inr 32, .inl x, .inl y] [A0, (moSeg 32 k f c n kp l nt w sh (p : Int) t d wa), B, A3, B4, A5, C6] (some (.inl 1)) [A0, (moSeg 32 k f c n kp l nt w sh (p : Int) t d wa), B, A3, B4, A5, C6] := by
  refine aEv_of okX3_areTwo caX3_areTwo (Nat.le_of_ble_eq_true rfl) ?_
  refine aGo okX3_areTwo 2 (f' := (2, [some (.inr 32), some (.inl x), some (.inl y)], [.inl x, .inr 32], _)) rfl ?_
  refine b_vV (as := [.inl x]) (rest := []) (k := 32) (.inl 1) okX3_areTwo rfl lkX3_61 caX3_isThere (Nat.le_of_ble_eq_true rfl) rfl (Nat.le_of_ble_eq_true rfl) rfl rfl rfl (c_isThere_1_t (x := x) hp h0.1 h0.2) ?_
  refine b0_eq (tgt := 25) okX3_areTwo rfl rfl ⟨by omega, by omega⟩ (fun h5 => absurd h5 (by omega)) (fun h5 => ?_)
  refine aGo okX3_areTwo 2 (f' := (10, [some (.inr 32), some (.inl x), some (.inl y)], [.inl y, .inr 32], _)) rfl ?_
  refine b_vV (as := [.inl y]) (rest := []) (k := 32) (.inl 1) okX3_areTwo rfl lkX3_61 caX3_isThere (Nat.le_of_ble_eq_true rfl) rfl (Nat.le_of_ble_eq_true rfl) rfl rfl rfl (c_isThere_1_t (x := y) hp h1.1 h1.2) ?_
  refine b0_eq (tgt := 25) okX3_areTwo rfl rfl ⟨by omega, by omega⟩ (fun h13 => absurd h13 (by omega)) (fun h13 => ?_)
  refine aGo okX3_areTwo 2 (f' := (18, [some (.inr 32), some (.inl x), some (.inl y)], [.inl y, .inl x], _)) rfl ?_
  refine b_eq (tgt := 25) okX3_areTwo rfl rfl ⟨by omega, by omega⟩ ⟨by omega, by omega⟩ (fun h18 => absurd h18 (h2)) (fun h18 => ?_)
  refine aGo okX3_areTwo 2 (f' := (26, [some (.inr 32), some (.inl x), some (.inl y)], [.inl 1], _)) rfl ?_
  exact b_ret (v := (some (.inl 1))) ⟨rfl, Or.inr ⟨rfl, Or.inr rfl⟩⟩ ⟨rfl, rfl⟩ rfl
set_option maxHeartbeats 4000000 in
theorem c_areTwo_1_f {x y : Int} (hp : p ≤ 7) (hx : aI x) (hy : aI y) (h0 : ¬ (0 ≤ x ∧ x < p ∧ 0 ≤ y ∧ y < p ∧ x ≠ y)) : aEx mX3_areTwo 1 N [.inr 32, .inl x, .inl y] [A0, (moSeg 32 k f c n kp l nt w sh (p : Int) t d wa), B, A3, B4, A5, C6] (some (.inl 0)) [A0, (moSeg 32 k f c n kp l nt w sh (p : Int) t d wa), B, A3, B4, A5, C6] := by
  refine aEv_of okX3_areTwo caX3_areTwo (Nat.le_of_ble_eq_true rfl) ?_
  obtain ⟨hx1, hx2⟩ := hx
  obtain ⟨hy1, hy2⟩ := hy
  refine aGo okX3_areTwo 2 (f' := (2, [some (.inr 32), some (.inl x), some (.inl y)], [.inl x, .inr 32], _)) rfl ?_
  by_cases hc2 : 0 ≤ x ∧ x < (p : Int)
  · refine b_vV (as := [.inl x]) (rest := []) (k := 32) (.inl 1) okX3_areTwo rfl lkX3_61 caX3_isThere (Nat.le_of_ble_eq_true rfl) rfl (Nat.le_of_ble_eq_true rfl) rfl rfl rfl (c_isThere_1_t (x := x) (by omega) hc2.1 hc2.2) ?_
    refine b0_eq (tgt := 25) okX3_areTwo rfl rfl ⟨by omega, by omega⟩ (fun h5 => absurd h5 (by omega)) (fun h5 => ?_)
    refine aGo okX3_areTwo 2 (f' := (10, [some (.inr 32), some (.inl x), some (.inl y)], [.inl y, .inr 32], _)) rfl ?_
    by_cases hc10 : 0 ≤ y ∧ y < (p : Int)
    · refine b_vV (as := [.inl y]) (rest := []) (k := 32) (.inl 1) okX3_areTwo rfl lkX3_61 caX3_isThere (Nat.le_of_ble_eq_true rfl) rfl (Nat.le_of_ble_eq_true rfl) rfl rfl rfl (c_isThere_1_t (x := y) (by omega) hc10.1 hc10.2) ?_
      refine b0_eq (tgt := 25) okX3_areTwo rfl rfl ⟨by omega, by omega⟩ (fun h13 => absurd h13 (by omega)) (fun h13 => ?_)
      refine aGo okX3_areTwo 2 (f' := (18, [some (.inr 32), some (.inl x), some (.inl y)], [.inl y, .inl x], _)) rfl ?_
      refine b_eq (tgt := 25) okX3_areTwo rfl rfl ⟨by omega, by omega⟩ ⟨by omega, by omega⟩ (fun h18 => ?_) (fun h18 => absurd h18 (by omega))
      refine aGo okX3_areTwo 1 (f' := (26, [some (.inr 32), some (.inl x), some (.inl y)], [.inl 0], _)) rfl ?_
      exact b_ret (v := (some (.inl 0))) ⟨rfl, Or.inr ⟨rfl, Or.inl rfl⟩⟩ ⟨rfl, rfl⟩ rfl
    · refine b_vV (as := [.inl y]) (rest := []) (k := 32) (.inl 0) okX3_areTwo rfl lkX3_61 caX3_isThere (Nat.le_of_ble_eq_true rfl) rfl (Nat.le_of_ble_eq_true rfl) rfl rfl rfl (c_isThere_1_f (x := y) (by omega) ⟨by omega, by omega⟩ hc10) ?_
      refine b0_eq (tgt := 25) okX3_areTwo rfl rfl ⟨by omega, by omega⟩ (fun h13 => ?_) (fun h13 => absurd h13 (by omega))
      refine aGo okX3_areTwo 1 (f' := (26, [some (.inr 32), some (.inl x), some (.inl y)], [.inl 0], _)) rfl ?_
      exact b_ret (v := (some (.inl 0))) ⟨rfl, Or.inr ⟨rfl, Or.inl rfl⟩⟩ ⟨rfl, rfl⟩ rfl
  · refine b_vV (as := [.inl x]) (rest := []) (k := 32) (.inl 0) okX3_areTwo rfl lkX3_61 caX3_isThere (Nat.le_of_ble_eq_true rfl) rfl (Nat.le_of_ble_eq_true rfl) rfl rfl rfl (c_isThere_1_f (x := x) (by omega) ⟨by omega, by omega⟩ hc2) ?_
    refine b0_eq (tgt := 25) okX3_areTwo rfl rfl ⟨by omega, by omega⟩ (fun h5 => ?_) (fun h5 => absurd h5 (by omega))
    refine aGo okX3_areTwo 1 (f' := (26, [some (.inr 32), some (.inl x), some (.inl y)], [.inl 0], _)) rfl ?_
    exact b_ret (v := (some (.inl 0))) ⟨rfl, Or.inr ⟨rfl, Or.inl rfl⟩⟩ ⟨rfl, rfl⟩ rfl
set_option maxHeartbeats 4000000 in
theorem c_stepsOf_1 (h1 : c.length < 65536) (rc : rng c 35) {i j : Nat} (hi : i < 65536) (hj : j < 65536) : aEx mX3_stepsOf 2 N [.inr 32, .inl (i : Int), .inl (j : Int)] [A0, (moSeg 32 k f c n kp l nt w sh (p : Int) t d wa), B, A3, B4, A5, C6] (some (.inl (stp (c.getD i 0) (c.getD j 0)))) [A0, (moSeg 32 k f c n kp l nt w sh (p : Int) t d wa), B, A3, B4, A5, C6] := by
  refine aEv_of okX3_stepsOf caX3_stepsOf (Nat.le_of_ble_eq_true rfl) ?_
  have r1 := rc i
  have r2 := rc j
  refine aGo okX3_stepsOf 3 (f' := (5, [some (.inr 32), some (.inl (i : Int)), some (.inl (j : Int))], [.inl (i : Int), .inr 37], _)) rfl ?_
  refine b_vV (as := [.inl (i : Int)]) (rest := []) (k := 37) (.inl (c.getD i 0)) okX3_stepsOf rfl lkX3_65 caX4_at (Nat.le_of_ble_eq_true rfl) rfl (Nat.le_of_ble_eq_true rfl) rfl rfl rfl (c_at (i := i) rfl rfl (by first | omega | (simp only [List.length_set]; omega)) (by omega)) ?_
  refine aGo okX3_stepsOf 3 (f' := (13, [some (.inr 32), some (.inl (i : Int)), some (.inl (j : Int))], [.inl (j : Int), .inr 37, .inl (c.getD i 0)], _)) rfl ?_
  refine b_vV (as := [.inl (j : Int)]) (rest := [.inl (c.getD i 0)]) (k := 37) (.inl (c.getD j 0)) okX3_stepsOf rfl lkX3_65 caX4_at (Nat.le_of_ble_eq_true rfl) rfl (Nat.le_of_ble_eq_true rfl) rfl rfl rfl (c_at (i := j) rfl rfl (by first | omega | (simp only [List.length_set]; omega)) (by omega)) ?_
  refine b_vT (as := [.inl (c.getD i 0), .inl (c.getD j 0)]) (rest := []) (.inl (stp (c.getD i 0) (c.getD j 0))) okX3_stepsOf rfl lkX3_69 caX7_steps (Nat.le_of_ble_eq_true rfl) rfl (Nat.le_of_ble_eq_true rfl) rfl (c_steps ⟨by omega, by omega⟩ ⟨by omega, by omega⟩) ?_
  exact b_ret (v := (some (.inl (stp (c.getD i 0) (c.getD j 0))))) ⟨rfl, Or.inl rfl⟩ ⟨rfl, rfl⟩ rfl
set_option maxHeartbeats 4000000 in
theorem c_setKept_1 (h1 : kp.length = 7) {i : Nat} (hi : i < 7) (v : Int) : aEx mX3_setKept 1 N [.inr 32, .inl (i : Int), .inl v] [A0, (moSeg 32 k f c n kp l nt w sh (p : Int) t d wa), B, A3, B4, A5, C6] (none) [A0, (moSeg 32 k f c n (kp.set i v) l nt w sh (p : Int) t d wa), B, A3, B4, A5, C6] := by
  refine aEv_of okX3_setKept caX3_setKept (Nat.le_of_ble_eq_true rfl) ?_
  refine aGo okX3_setKept 4 (f' := (6, [some (.inr 32), some (.inl (i : Int)), some (.inl v)], [.inl v, .inl (i : Int), .inr 41], _)) rfl ?_
  refine b_vN (as := [.inl (i : Int), .inl v]) (rest := []) (k := 41) okX3_setKept rfl lkX3_98 caX4_put (Nat.le_of_ble_eq_true rfl) rfl (Nat.le_of_ble_eq_true rfl) rfl rfl rfl (c_put (i := i) rfl rfl (by first | omega | (simp only [List.length_set]; omega)) (by first | omega | (simp only [List.length_set]; omega)) v) ?_
  refine b_cast (f' := (9, [some (.inr 32), some (.inl (i : Int)), some (.inl v)], [], [A0, (moSeg 32 k f c n (kp.set i v) l nt w sh (p : Int) t d wa), B, A3, B4, A5, C6])) rfl ?_
  exact b_ret (v := none) ⟨rfl, rfl⟩ ⟨rfl, rfl⟩ rfl
set_option maxHeartbeats 4000000 in
theorem c_setNeed_1 (h1 : n.length = 7) {i : Nat} (hi : i < 7) (v : Int) : aEx mX3_setNeed 1 N [.inr 32, .inl (i : Int), .inl v] [A0, (moSeg 32 k f c n kp l nt w sh (p : Int) t d wa), B, A3, B4, A5, C6] (none) [A0, (moSeg 32 k f c (n.set i v) kp l nt w sh (p : Int) t d wa), B, A3, B4, A5, C6] := by
  refine aEv_of okX3_setNeed caX3_setNeed (Nat.le_of_ble_eq_true rfl) ?_
  refine aGo okX3_setNeed 4 (f' := (6, [some (.inr 32), some (.inl (i : Int)), some (.inl v)], [.inl v, .inl (i : Int), .inr 39], _)) rfl ?_
  refine b_vN (as := [.inl (i : Int), .inl v]) (rest := []) (k := 39) okX3_setNeed rfl lkX3_98 caX4_put (Nat.le_of_ble_eq_true rfl) rfl (Nat.le_of_ble_eq_true rfl) rfl rfl rfl (c_put (i := i) rfl rfl (by first | omega | (simp only [List.length_set]; omega)) (by first | omega | (simp only [List.length_set]; omega)) v) ?_
  refine b_cast (f' := (9, [some (.inr 32), some (.inl (i : Int)), some (.inl v)], [], [A0, (moSeg 32 k f c (n.set i v) kp l nt w sh (p : Int) t d wa), B, A3, B4, A5, C6])) rfl ?_
  exact b_ret (v := none) ⟨rfl, rfl⟩ ⟨rfl, rfl⟩ rfl
set_option maxHeartbeats 4000000 in
theorem c_kindOf_2 (hl : k.length < 65536) {i : Nat} (hi : i < 65536) : aEx mX3_kindOf 1 N [.inr 64, .inl (i : Int)] [A0, B, (moSeg 64 k f c n kp l nt w sh (p : Int) t d wa), A3, B4, A5, C6] (some (.inl (k.getD i 0))) [A0, B, (moSeg 64 k f c n kp l nt w sh (p : Int) t d wa), A3, B4, A5, C6] := by
  refine aEv_of okX3_kindOf caX3_kindOf (Nat.le_of_ble_eq_true rfl) ?_
  refine aGo okX3_kindOf 3 (f' := (5, [some (.inr 64), some (.inl (i : Int))], [.inl (i : Int), .inr 65], _)) rfl ?_
  refine b_vV (as := [.inl (i : Int)]) (rest := []) (k := 65) (.inl (k.getD i 0)) okX3_kindOf rfl lkX3_65 caX4_at (Nat.le_of_ble_eq_true rfl) rfl (Nat.le_of_ble_eq_true rfl) rfl rfl rfl (c_at (i := i) rfl rfl (by first | omega | (simp only [List.length_set]; omega)) (by omega)) ?_
  exact b_ret (v := (some (.inl (k.getD i 0)))) ⟨rfl, Or.inl rfl⟩ ⟨rfl, rfl⟩ rfl
set_option maxHeartbeats 4000000 in
theorem c_figureOf_2 (hl : f.length < 65536) {i : Nat} (hi : i < 65536) : aEx mX3_figureOf 1 N [.inr 64, .inl (i : Int)] [A0, B, (moSeg 64 k f c n kp l nt w sh (p : Int) t d wa), A3, B4, A5, C6] (some (.inl (f.getD i 0))) [A0, B, (moSeg 64 k f c n kp l nt w sh (p : Int) t d wa), A3, B4, A5, C6] := by
  refine aEv_of okX3_figureOf caX3_figureOf (Nat.le_of_ble_eq_true rfl) ?_
  refine aGo okX3_figureOf 3 (f' := (5, [some (.inr 64), some (.inl (i : Int))], [.inl (i : Int), .inr 67], _)) rfl ?_
  refine b_vV (as := [.inl (i : Int)]) (rest := []) (k := 67) (.inl (f.getD i 0)) okX3_figureOf rfl lkX3_65 caX4_at (Nat.le_of_ble_eq_true rfl) rfl (Nat.le_of_ble_eq_true rfl) rfl rfl rfl (c_at (i := i) rfl rfl (by first | omega | (simp only [List.length_set]; omega)) (by omega)) ?_
  exact b_ret (v := (some (.inl (f.getD i 0)))) ⟨rfl, Or.inl rfl⟩ ⟨rfl, rfl⟩ rfl
set_option maxHeartbeats 4000000 in
theorem c_cellOf_2 (hl : c.length < 65536) {i : Nat} (hi : i < 65536) : aEx mX3_cellOf 1 N [.inr 64, .inl (i : Int)] [A0, B, (moSeg 64 k f c n kp l nt w sh (p : Int) t d wa), A3, B4, A5, C6] (some (.inl (c.getD i 0))) [A0, B, (moSeg 64 k f c n kp l nt w sh (p : Int) t d wa), A3, B4, A5, C6] := by
  refine aEv_of okX3_cellOf caX3_cellOf (Nat.le_of_ble_eq_true rfl) ?_
  refine aGo okX3_cellOf 3 (f' := (5, [some (.inr 64), some (.inl (i : Int))], [.inl (i : Int), .inr 69], _)) rfl ?_
  refine b_vV (as := [.inl (i : Int)]) (rest := []) (k := 69) (.inl (c.getD i 0)) okX3_cellOf rfl lkX3_65 caX4_at (Nat.le_of_ble_eq_true rfl) rfl (Nat.le_of_ble_eq_true rfl) rfl rfl rfl (c_at (i := i) rfl rfl (by first | omega | (simp only [List.length_set]; omega)) (by omega)) ?_
  exact b_ret (v := (some (.inl (c.getD i 0)))) ⟨rfl, Or.inl rfl⟩ ⟨rfl, rfl⟩ rfl
set_option maxHeartbeats 4000000 in
theorem c_needOf_2 (hl : n.length < 65536) {i : Nat} (hi : i < 65536) : aEx mX3_needOf 1 N [.inr 64, .inl (i : Int)] [A0, B, (moSeg 64 k f c n kp l nt w sh (p : Int) t d wa), A3, B4, A5, C6] (some (.inl (n.getD i 0))) [A0, B, (moSeg 64 k f c n kp l nt w sh (p : Int) t d wa), A3, B4, A5, C6] := by
  refine aEv_of okX3_needOf caX3_needOf (Nat.le_of_ble_eq_true rfl) ?_
  refine aGo okX3_needOf 3 (f' := (5, [some (.inr 64), some (.inl (i : Int))], [.inl (i : Int), .inr 71], _)) rfl ?_
  refine b_vV (as := [.inl (i : Int)]) (rest := []) (k := 71) (.inl (n.getD i 0)) okX3_needOf rfl lkX3_65 caX4_at (Nat.le_of_ble_eq_true rfl) rfl (Nat.le_of_ble_eq_true rfl) rfl rfl rfl (c_at (i := i) rfl rfl (by first | omega | (simp only [List.length_set]; omega)) (by omega)) ?_
  exact b_ret (v := (some (.inl (n.getD i 0)))) ⟨rfl, Or.inl rfl⟩ ⟨rfl, rfl⟩ rfl
set_option maxHeartbeats 4000000 in
theorem c_keptOf_2 (hl : kp.length < 65536) {i : Nat} (hi : i < 65536) : aEx mX3_keptOf 1 N [.inr 64, .inl (i : Int)] [A0, B, (moSeg 64 k f c n kp l nt w sh (p : Int) t d wa), A3, B4, A5, C6] (some (.inl (kp.getD i 0))) [A0, B, (moSeg 64 k f c n kp l nt w sh (p : Int) t d wa), A3, B4, A5, C6] := by
  refine aEv_of okX3_keptOf caX3_keptOf (Nat.le_of_ble_eq_true rfl) ?_
  refine aGo okX3_keptOf 3 (f' := (5, [some (.inr 64), some (.inl (i : Int))], [.inl (i : Int), .inr 73], _)) rfl ?_
  refine b_vV (as := [.inl (i : Int)]) (rest := []) (k := 73) (.inl (kp.getD i 0)) okX3_keptOf rfl lkX3_65 caX4_at (Nat.le_of_ble_eq_true rfl) rfl (Nat.le_of_ble_eq_true rfl) rfl rfl rfl (c_at (i := i) rfl rfl (by first | omega | (simp only [List.length_set]; omega)) (by omega)) ?_
  exact b_ret (v := (some (.inl (kp.getD i 0)))) ⟨rfl, Or.inl rfl⟩ ⟨rfl, rfl⟩ rfl
set_option maxHeartbeats 4000000 in
theorem c_weightOf_2 (hl : w.length < 65536) {i : Nat} (hi : i < 65536) : aEx mX3_weightOf 1 N [.inr 64, .inl (i : Int)] [A0, B, (moSeg 64 k f c n kp l nt w sh (p : Int) t d wa), A3, B4, A5, C6] (some (.inl (w.getD i 0))) [A0, B, (moSeg 64 k f c n kp l nt w sh (p : Int) t d wa), A3, B4, A5, C6] := by
  refine aEv_of okX3_weightOf caX3_weightOf (Nat.le_of_ble_eq_true rfl) ?_
  refine aGo okX3_weightOf 3 (f' := (5, [some (.inr 64), some (.inl (i : Int))], [.inl (i : Int), .inr 79], _)) rfl ?_
  refine b_vV (as := [.inl (i : Int)]) (rest := []) (k := 79) (.inl (w.getD i 0)) okX3_weightOf rfl lkX3_65 caX4_at (Nat.le_of_ble_eq_true rfl) rfl (Nat.le_of_ble_eq_true rfl) rfl rfl rfl (c_at (i := i) rfl rfl (by first | omega | (simp only [List.length_set]; omega)) (by omega)) ?_
  exact b_ret (v := (some (.inl (w.getD i 0)))) ⟨rfl, Or.inl rfl⟩ ⟨rfl, rfl⟩ rfl
set_option maxHeartbeats 4000000 in
theorem c_shareOf_2 (hl : sh.length < 65536) {i : Nat} (hi : i < 65536) : aEx mX3_shareOf 1 N [.inr 64, .inl (i : Int)] [A0, B, (moSeg 64 k f c n kp l nt w sh (p : Int) t d wa), A3, B4, A5, C6] (some (.inl (sh.getD i 0))) [A0, B, (moSeg 64 k f c n kp l nt w sh (p : Int) t d wa), A3, B4, A5, C6] := by
  refine aEv_of okX3_shareOf caX3_shareOf (Nat.le_of_ble_eq_true rfl) ?_
  refine aGo okX3_shareOf 3 (f' := (5, [some (.inr 64), some (.inl (i : Int))], [.inl (i : Int), .inr 81], _)) rfl ?_
  refine b_vV (as := [.inl (i : Int)]) (rest := []) (k := 81) (.inl (sh.getD i 0)) okX3_shareOf rfl lkX3_65 caX4_at (Nat.le_of_ble_eq_true rfl) rfl (Nat.le_of_ble_eq_true rfl) rfl rfl rfl (c_at (i := i) rfl rfl (by first | omega | (simp only [List.length_set]; omega)) (by omega)) ?_
  exact b_ret (v := (some (.inl (sh.getD i 0)))) ⟨rfl, Or.inl rfl⟩ ⟨rfl, rfl⟩ rfl
set_option maxHeartbeats 4000000 in
theorem c_netOf_2 (hl : nt.length < 65536) {i : Nat} (hi : i < 65536) : aEx mX3_netOf 1 N [.inr 64, .inl (i : Int)] [A0, B, (moSeg 64 k f c n kp l nt w sh (p : Int) t d wa), A3, B4, A5, C6] (some (.inl (nt.getD i 0))) [A0, B, (moSeg 64 k f c n kp l nt w sh (p : Int) t d wa), A3, B4, A5, C6] := by
  refine aEv_of okX3_netOf caX3_netOf (Nat.le_of_ble_eq_true rfl) ?_
  refine aGo okX3_netOf 3 (f' := (5, [some (.inr 64), some (.inl (i : Int))], [.inl (i : Int), .inr 77], _)) rfl ?_
  refine b_vV (as := [.inl (i : Int)]) (rest := []) (k := 77) (.inl (nt.getD i 0)) okX3_netOf rfl lkX3_65 caX4_at (Nat.le_of_ble_eq_true rfl) rfl (Nat.le_of_ble_eq_true rfl) rfl rfl rfl (c_at (i := i) rfl rfl (by first | omega | (simp only [List.length_set]; omega)) (by omega)) ?_
  exact b_ret (v := (some (.inl (nt.getD i 0)))) ⟨rfl, Or.inl rfl⟩ ⟨rfl, rfl⟩ rfl
set_option maxHeartbeats 4000000 in
theorem c_people_2  : aEx mX3_people 0 N [.inr 64] [A0, B, (moSeg 64 k f c n kp l nt w sh (p : Int) t d wa), A3, B4, A5, C6] (some (.inl (p : Int))) [A0, B, (moSeg 64 k f c n kp l nt w sh (p : Int) t d wa), A3, B4, A5, C6] := by
  refine aEv_of okX3_people caX3_people (Nat.le_of_ble_eq_true rfl) ?_
  refine aGo okX3_people 2 (f' := (4, [some (.inr 64)], [.inl (p : Int)], _)) rfl ?_
  exact b_ret (v := (some (.inl (p : Int)))) ⟨rfl, Or.inl rfl⟩ ⟨rfl, rfl⟩ rfl
set_option maxHeartbeats 4000000 in
theorem c_total_2  : aEx mX3_total 0 N [.inr 64] [A0, B, (moSeg 64 k f c n kp l nt w sh (p : Int) t d wa), A3, B4, A5, C6] (some (.inl t)) [A0, B, (moSeg 64 k f c n kp l nt w sh (p : Int) t d wa), A3, B4, A5, C6] := by
  refine aEv_of okX3_total caX3_total (Nat.le_of_ble_eq_true rfl) ?_
  refine aGo okX3_total 2 (f' := (4, [some (.inr 64)], [.inl t], _)) rfl ?_
  exact b_ret (v := (some (.inl t))) ⟨rfl, Or.inl rfl⟩ ⟨rfl, rfl⟩ rfl
set_option maxHeartbeats 4000000 in
theorem c_day_2  : aEx mX3_day 0 N [.inr 64] [A0, B, (moSeg 64 k f c n kp l nt w sh (p : Int) t d wa), A3, B4, A5, C6] (some (.inl d)) [A0, B, (moSeg 64 k f c n kp l nt w sh (p : Int) t d wa), A3, B4, A5, C6] := by
  refine aEv_of okX3_day caX3_day (Nat.le_of_ble_eq_true rfl) ?_
  refine aGo okX3_day 2 (f' := (4, [some (.inr 64)], [.inl d], _)) rfl ?_
  exact b_ret (v := (some (.inl d))) ⟨rfl, Or.inl rfl⟩ ⟨rfl, rfl⟩ rfl
set_option maxHeartbeats 4000000 in
theorem c_allWeights_2  : aEx mX3_allWeights 0 N [.inr 64] [A0, B, (moSeg 64 k f c n kp l nt w sh (p : Int) t d wa), A3, B4, A5, C6] (some (.inl wa)) [A0, B, (moSeg 64 k f c n kp l nt w sh (p : Int) t d wa), A3, B4, A5, C6] := by
  refine aEv_of okX3_allWeights caX3_allWeights (Nat.le_of_ble_eq_true rfl) ?_
  refine aGo okX3_allWeights 2 (f' := (4, [some (.inr 64)], [.inl wa], _)) rfl ?_
  exact b_ret (v := (some (.inl wa))) ⟨rfl, Or.inl rfl⟩ ⟨rfl, rfl⟩ rfl
set_option maxHeartbeats 4000000 in
theorem c_hasOf_2 (h1 : sh.length < 65536) (h2 : nt.length < 65536) {i : Nat} (hi : i < 65536) : aEx mX3_hasOf 1 N [.inr 64, .inl (i : Int)] [A0, B, (moSeg 64 k f c n kp l nt w sh (p : Int) t d wa), A3, B4, A5, C6] (some (.inl (sh.getD i 0 - nt.getD i 0))) [A0, B, (moSeg 64 k f c n kp l nt w sh (p : Int) t d wa), A3, B4, A5, C6] := by
  refine aEv_of okX3_hasOf caX3_hasOf (Nat.le_of_ble_eq_true rfl) ?_
  refine aGo okX3_hasOf 3 (f' := (5, [some (.inr 64), some (.inl (i : Int))], [.inl (i : Int), .inr 81], _)) rfl ?_
  refine b_vV (as := [.inl (i : Int)]) (rest := []) (k := 81) (.inl (sh.getD i 0)) okX3_hasOf rfl lkX3_65 caX4_at (Nat.le_of_ble_eq_true rfl) rfl (Nat.le_of_ble_eq_true rfl) rfl rfl rfl (c_at (i := i) rfl rfl (by first | omega | (simp only [List.length_set]; omega)) (by omega)) ?_
  refine aGo okX3_hasOf 3 (f' := (13, [some (.inr 64), some (.inl (i : Int))], [.inl (i : Int), .inr 77, .inl (sh.getD i 0)], _)) rfl ?_
  refine b_vV (as := [.inl (i : Int)]) (rest := [.inl (sh.getD i 0)]) (k := 77) (.inl (nt.getD i 0)) okX3_hasOf rfl lkX3_65 caX4_at (Nat.le_of_ble_eq_true rfl) rfl (Nat.le_of_ble_eq_true rfl) rfl rfl rfl (c_at (i := i) rfl rfl (by first | omega | (simp only [List.length_set]; omega)) (by omega)) ?_
  refine aGo okX3_hasOf 1 (f' := (17, [some (.inr 64), some (.inl (i : Int))], [.inl ((sh.getD i 0) - (nt.getD i 0))], _)) rfl ?_
  exact b_ret (v := (some (.inl ((sh.getD i 0) - (nt.getD i 0))))) ⟨rfl, Or.inl rfl⟩ ⟨rfl, rfl⟩ rfl
set_option maxHeartbeats 4000000 in
theorem c_lentBy_2 (h1 : l.length < 65536) {i j : Nat} (hi : i < 100) (hj : j < 100) : aEx mX3_lentBy 1 N [.inr 64, .inl (i : Int), .inl (j : Int)] [A0, B, (moSeg 64 k f c n kp l nt w sh (p : Int) t d wa), A3, B4, A5, C6] (some (.inl (l.getD (7 * i + j) 0))) [A0, B, (moSeg 64 k f c n kp l nt w sh (p : Int) t d wa), A3, B4, A5, C6] := by
  refine aEv_of okX3_lentBy caX3_lentBy (Nat.le_of_ble_eq_true rfl) ?_
  refine aGo okX3_lentBy 7 (f' := (10, [some (.inr 64), some (.inl (i : Int)), some (.inl (j : Int))], [.inl (((i : Int) * 7) + (j : Int)), .inr 75], _)) rfl ?_
  refine b_vV (as := [.inl (((i : Int) * 7) + (j : Int))]) (rest := []) (k := 75) (.inl (l.getD ((i * 7) + j) 0)) okX3_lentBy rfl lkX3_65 caX4_at (Nat.le_of_ble_eq_true rfl) rfl (Nat.le_of_ble_eq_true rfl) rfl rfl rfl (c_at (i := ((i * 7) + j)) rfl rfl (by first | omega | (simp only [List.length_set]; omega)) (by omega)) ?_
  exact b_ret (v := (some (.inl (l.getD ((i * 7) + j) 0)))) ⟨rfl, Or.inl rfl⟩ ⟨by rw [show 7 * i + j = i * 7 + j by omega], rfl⟩ rfl
set_option maxHeartbeats 4000000 in
theorem c_putLent_2 (h1 : l.length = 49) {i j : Nat} (hi : i < 7) (hj : j < 7) (v : Int) : aEx mX3_putLent 1 N [.inr 64, .inl (i : Int), .inl (j : Int), .inl v] [A0, B, (moSeg 64 k f c n kp l nt w sh (p : Int) t d wa), A3, B4, A5, C6] (none) [A0, B, (moSeg 64 k f c n kp (l.set (7 * i + j) v) nt w sh (p : Int) t d wa), A3, B4, A5, C6] := by
  refine aEv_of okX3_putLent caX3_putLent (Nat.le_of_ble_eq_true rfl) ?_
  refine aGo okX3_putLent 8 (f' := (11, [some (.inr 64), some (.inl (i : Int)), some (.inl (j : Int)), some (.inl v)], [.inl v, .inl (((i : Int) * 7) + (j : Int)), .inr 75], _)) rfl ?_
  refine b_vN (as := [.inl (((i : Int) * 7) + (j : Int)), .inl v]) (rest := []) (k := 75) okX3_putLent rfl lkX3_98 caX4_put (Nat.le_of_ble_eq_true rfl) rfl (Nat.le_of_ble_eq_true rfl) rfl rfl rfl (c_put (i := ((i * 7) + j)) rfl rfl (by first | omega | (simp only [List.length_set]; omega)) (by first | omega | (simp only [List.length_set]; omega)) v) ?_
  refine b_cast (f' := (14, [some (.inr 64), some (.inl (i : Int)), some (.inl (j : Int)), some (.inl v)], [], [A0, B, (moSeg 64 k f c n kp (l.set ((i * 7) + j) v) nt w sh (p : Int) t d wa), A3, B4, A5, C6])) rfl ?_
  exact b_ret (v := none) ⟨rfl, rfl⟩ ⟨rfl, by rw [show 7 * i + j = i * 7 + j by omega]⟩ rfl
set_option maxHeartbeats 4000000 in
theorem c_isThere_2_t {x : Int} (hp : p ≤ 7) (h0 : 0 ≤ x) (h1 : x < p) : aEx mX3_isThere 0 N [.inr 64, .inl x] [A0, B, (moSeg 64 k f c n kp l nt w sh (p : Int) t d wa), A3, B4, A5, C6] (some (.inl 1)) [A0, B, (moSeg 64 k f c n kp l nt w sh (p : Int) t d wa), A3, B4, A5, C6] := by
  refine aEv_of okX3_isThere caX3_isThere (Nat.le_of_ble_eq_true rfl) ?_
  refine aGo okX3_isThere 1 (f' := (1, [some (.inr 64), some (.inl x)], [.inl x], _)) rfl ?_
  refine b0_lt (tgt := 16) okX3_isThere rfl rfl ⟨by omega, by omega⟩ (fun h1 => absurd h1 (by omega)) (fun h1 => ?_)
  refine aGo okX3_isThere 3 (f' := (9, [some (.inr 64), some (.inl x)], [.inl (p : Int), .inl x], _)) rfl ?_
  refine b_ge (tgt := 16) okX3_isThere rfl rfl ⟨by omega, by omega⟩ ⟨by omega, by omega⟩ (fun h9 => absurd h9 (by omega)) (fun h9 => ?_)
  refine aGo okX3_isThere 2 (f' := (17, [some (.inr 64), some (.inl x)], [.inl 1], _)) rfl ?_
  exact b_ret (v := (some (.inl 1))) ⟨rfl, Or.inr ⟨rfl, Or.inr rfl⟩⟩ ⟨rfl, rfl⟩ rfl
set_option maxHeartbeats 4000000 in
theorem c_isThere_2_f {x : Int} (hp : p ≤ 7) (hx : aI x) (h0 : ¬ (0 ≤ x ∧ x < p)) : aEx mX3_isThere 0 N [.inr 64, .inl x] [A0, B, (moSeg 64 k f c n kp l nt w sh (p : Int) t d wa), A3, B4, A5, C6] (some (.inl 0)) [A0, B, (moSeg 64 k f c n kp l nt w sh (p : Int) t d wa), A3, B4, A5, C6] := by
  refine aEv_of okX3_isThere caX3_isThere (Nat.le_of_ble_eq_true rfl) ?_
  obtain ⟨hx1, hx2⟩ := hx
  refine aGo okX3_isThere 1 (f' := (1, [some (.inr 64), some (.inl x)], [.inl x], _)) rfl ?_
  refine b0_lt (tgt := 16) okX3_isThere rfl rfl ⟨by omega, by omega⟩ (fun h1 => ?_) (fun h1 => ?_)
  · refine aGo okX3_isThere 1 (f' := (17, [some (.inr 64), some (.inl x)], [.inl 0], _)) rfl ?_
    exact b_ret (v := (some (.inl 0))) ⟨rfl, Or.inr ⟨rfl, Or.inl rfl⟩⟩ ⟨rfl, rfl⟩ rfl
  · refine aGo okX3_isThere 3 (f' := (9, [some (.inr 64), some (.inl x)], [.inl (p : Int), .inl x], _)) rfl ?_
    refine b_ge (tgt := 16) okX3_isThere rfl rfl ⟨by omega, by omega⟩ ⟨by omega, by omega⟩ (fun h9 => ?_) (fun h9 => absurd h9 (by omega))
    refine aGo okX3_isThere 1 (f' := (17, [some (.inr 64), some (.inl x)], [.inl 0], _)) rfl ?_
    exact b_ret (v := (some (.inl 0))) ⟨rfl, Or.inr ⟨rfl, Or.inl rfl⟩⟩ ⟨rfl, rfl⟩ rfl
set_option maxHeartbeats 4000000 in
theorem c_areTwo_2_t {x y : Int} (hp : p ≤ 7) (h0 : 0 ≤ x ∧ x < p) (h1 : 0 ≤ y ∧ y < p) (h2 : x ≠ y) : aEx mX3_areTwo 1 N [.inr 64, .inl x, .inl y] [A0, B, (moSeg 64 k f c n kp l nt w sh (p : Int) t d wa), A3, B4, A5, C6] (some (.inl 1)) [A0, B, (moSeg 64 k f c n kp l nt w sh (p : Int) t d wa), A3, B4, A5, C6] := by
  refine aEv_of okX3_areTwo caX3_areTwo (Nat.le_of_ble_eq_true rfl) ?_
  refine aGo okX3_areTwo 2 (f' := (2, [some (.inr 64), some (.inl x), some (.inl y)], [.inl x, .inr 64], _)) rfl ?_
  refine b_vV (as := [.inl x]) (rest := []) (k := 64) (.inl 1) okX3_areTwo rfl lkX3_61 caX3_isThere (Nat.le_of_ble_eq_true rfl) rfl (Nat.le_of_ble_eq_true rfl) rfl rfl rfl (c_isThere_2_t (x := x) hp h0.1 h0.2) ?_
  refine b0_eq (tgt := 25) okX3_areTwo rfl rfl ⟨by omega, by omega⟩ (fun h5 => absurd h5 (by omega)) (fun h5 => ?_)
  refine aGo okX3_areTwo 2 (f' := (10, [some (.inr 64), some (.inl x), some (.inl y)], [.inl y, .inr 64], _)) rfl ?_
  refine b_vV (as := [.inl y]) (rest := []) (k := 64) (.inl 1) okX3_areTwo rfl lkX3_61 caX3_isThere (Nat.le_of_ble_eq_true rfl) rfl (Nat.le_of_ble_eq_true rfl) rfl rfl rfl (c_isThere_2_t (x := y) hp h1.1 h1.2) ?_
  refine b0_eq (tgt := 25) okX3_areTwo rfl rfl ⟨by omega, by omega⟩ (fun h13 => absurd h13 (by omega)) (fun h13 => ?_)
  refine aGo okX3_areTwo 2 (f' := (18, [some (.inr 64), some (.inl x), some (.inl y)], [.inl y, .inl x], _)) rfl ?_
  refine b_eq (tgt := 25) okX3_areTwo rfl rfl ⟨by omega, by omega⟩ ⟨by omega, by omega⟩ (fun h18 => absurd h18 (h2)) (fun h18 => ?_)
  refine aGo okX3_areTwo 2 (f' := (26, [some (.inr 64), some (.inl x), some (.inl y)], [.inl 1], _)) rfl ?_
  exact b_ret (v := (some (.inl 1))) ⟨rfl, Or.inr ⟨rfl, Or.inr rfl⟩⟩ ⟨rfl, rfl⟩ rfl
set_option maxHeartbeats 4000000 in
theorem c_areTwo_2_f {x y : Int} (hp : p ≤ 7) (hx : aI x) (hy : aI y) (h0 : ¬ (0 ≤ x ∧ x < p ∧ 0 ≤ y ∧ y < p ∧ x ≠ y)) : aEx mX3_areTwo 1 N [.inr 64, .inl x, .inl y] [A0, B, (moSeg 64 k f c n kp l nt w sh (p : Int) t d wa), A3, B4, A5, C6] (some (.inl 0)) [A0, B, (moSeg 64 k f c n kp l nt w sh (p : Int) t d wa), A3, B4, A5, C6] := by
  refine aEv_of okX3_areTwo caX3_areTwo (Nat.le_of_ble_eq_true rfl) ?_
  obtain ⟨hx1, hx2⟩ := hx
  obtain ⟨hy1, hy2⟩ := hy
  refine aGo okX3_areTwo 2 (f' := (2, [some (.inr 64), some (.inl x), some (.inl y)], [.inl x, .inr 64], _)) rfl ?_
  by_cases hc2 : 0 ≤ x ∧ x < (p : Int)
  · refine b_vV (as := [.inl x]) (rest := []) (k := 64) (.inl 1) okX3_areTwo rfl lkX3_61 caX3_isThere (Nat.le_of_ble_eq_true rfl) rfl (Nat.le_of_ble_eq_true rfl) rfl rfl rfl (c_isThere_2_t (x := x) (by omega) hc2.1 hc2.2) ?_
    refine b0_eq (tgt := 25) okX3_areTwo rfl rfl ⟨by omega, by omega⟩ (fun h5 => absurd h5 (by omega)) (fun h5 => ?_)
    refine aGo okX3_areTwo 2 (f' := (10, [some (.inr 64), some (.inl x), some (.inl y)], [.inl y, .inr 64], _)) rfl ?_
    by_cases hc10 : 0 ≤ y ∧ y < (p : Int)
    · refine b_vV (as := [.inl y]) (rest := []) (k := 64) (.inl 1) okX3_areTwo rfl lkX3_61 caX3_isThere (Nat.le_of_ble_eq_true rfl) rfl (Nat.le_of_ble_eq_true rfl) rfl rfl rfl (c_isThere_2_t (x := y) (by omega) hc10.1 hc10.2) ?_
      refine b0_eq (tgt := 25) okX3_areTwo rfl rfl ⟨by omega, by omega⟩ (fun h13 => absurd h13 (by omega)) (fun h13 => ?_)
      refine aGo okX3_areTwo 2 (f' := (18, [some (.inr 64), some (.inl x), some (.inl y)], [.inl y, .inl x], _)) rfl ?_
      refine b_eq (tgt := 25) okX3_areTwo rfl rfl ⟨by omega, by omega⟩ ⟨by omega, by omega⟩ (fun h18 => ?_) (fun h18 => absurd h18 (by omega))
      refine aGo okX3_areTwo 1 (f' := (26, [some (.inr 64), some (.inl x), some (.inl y)], [.inl 0], _)) rfl ?_
      exact b_ret (v := (some (.inl 0))) ⟨rfl, Or.inr ⟨rfl, Or.inl rfl⟩⟩ ⟨rfl, rfl⟩ rfl
    · refine b_vV (as := [.inl y]) (rest := []) (k := 64) (.inl 0) okX3_areTwo rfl lkX3_61 caX3_isThere (Nat.le_of_ble_eq_true rfl) rfl (Nat.le_of_ble_eq_true rfl) rfl rfl rfl (c_isThere_2_f (x := y) (by omega) ⟨by omega, by omega⟩ hc10) ?_
      refine b0_eq (tgt := 25) okX3_areTwo rfl rfl ⟨by omega, by omega⟩ (fun h13 => ?_) (fun h13 => absurd h13 (by omega))
      refine aGo okX3_areTwo 1 (f' := (26, [some (.inr 64), some (.inl x), some (.inl y)], [.inl 0], _)) rfl ?_
      exact b_ret (v := (some (.inl 0))) ⟨rfl, Or.inr ⟨rfl, Or.inl rfl⟩⟩ ⟨rfl, rfl⟩ rfl
  · refine b_vV (as := [.inl x]) (rest := []) (k := 64) (.inl 0) okX3_areTwo rfl lkX3_61 caX3_isThere (Nat.le_of_ble_eq_true rfl) rfl (Nat.le_of_ble_eq_true rfl) rfl rfl rfl (c_isThere_2_f (x := x) (by omega) ⟨by omega, by omega⟩ hc2) ?_
    refine b0_eq (tgt := 25) okX3_areTwo rfl rfl ⟨by omega, by omega⟩ (fun h5 => ?_) (fun h5 => absurd h5 (by omega))
    refine aGo okX3_areTwo 1 (f' := (26, [some (.inr 64), some (.inl x), some (.inl y)], [.inl 0], _)) rfl ?_
    exact b_ret (v := (some (.inl 0))) ⟨rfl, Or.inr ⟨rfl, Or.inl rfl⟩⟩ ⟨rfl, rfl⟩ rfl
set_option maxHeartbeats 4000000 in
theorem c_stepsOf_2 (h1 : c.length < 65536) (rc : rng c 35) {i j : Nat} (hi : i < 65536) (hj : j < 65536) : aEx mX3_stepsOf 2 N [.inr 64, .inl (i : Int), .inl (j : Int)] [A0, B, (moSeg 64 k f c n kp l nt w sh (p : Int) t d wa), A3, B4, A5, C6] (some (.inl (stp (c.getD i 0) (c.getD j 0)))) [A0, B, (moSeg 64 k f c n kp l nt w sh (p : Int) t d wa), A3, B4, A5, C6] := by
  refine aEv_of okX3_stepsOf caX3_stepsOf (Nat.le_of_ble_eq_true rfl) ?_
  have r1 := rc i
  have r2 := rc j
  refine aGo okX3_stepsOf 3 (f' := (5, [some (.inr 64), some (.inl (i : Int)), some (.inl (j : Int))], [.inl (i : Int), .inr 69], _)) rfl ?_
  refine b_vV (as := [.inl (i : Int)]) (rest := []) (k := 69) (.inl (c.getD i 0)) okX3_stepsOf rfl lkX3_65 caX4_at (Nat.le_of_ble_eq_true rfl) rfl (Nat.le_of_ble_eq_true rfl) rfl rfl rfl (c_at (i := i) rfl rfl (by first | omega | (simp only [List.length_set]; omega)) (by omega)) ?_
  refine aGo okX3_stepsOf 3 (f' := (13, [some (.inr 64), some (.inl (i : Int)), some (.inl (j : Int))], [.inl (j : Int), .inr 69, .inl (c.getD i 0)], _)) rfl ?_
  refine b_vV (as := [.inl (j : Int)]) (rest := [.inl (c.getD i 0)]) (k := 69) (.inl (c.getD j 0)) okX3_stepsOf rfl lkX3_65 caX4_at (Nat.le_of_ble_eq_true rfl) rfl (Nat.le_of_ble_eq_true rfl) rfl rfl rfl (c_at (i := j) rfl rfl (by first | omega | (simp only [List.length_set]; omega)) (by omega)) ?_
  refine b_vT (as := [.inl (c.getD i 0), .inl (c.getD j 0)]) (rest := []) (.inl (stp (c.getD i 0) (c.getD j 0))) okX3_stepsOf rfl lkX3_69 caX7_steps (Nat.le_of_ble_eq_true rfl) rfl (Nat.le_of_ble_eq_true rfl) rfl (c_steps ⟨by omega, by omega⟩ ⟨by omega, by omega⟩) ?_
  exact b_ret (v := (some (.inl (stp (c.getD i 0) (c.getD j 0))))) ⟨rfl, Or.inl rfl⟩ ⟨rfl, rfl⟩ rfl
set_option maxHeartbeats 4000000 in
theorem c_setKept_2 (h1 : kp.length = 7) {i : Nat} (hi : i < 7) (v : Int) : aEx mX3_setKept 1 N [.inr 64, .inl (i : Int), .inl v] [A0, B, (moSeg 64 k f c n kp l nt w sh (p : Int) t d wa), A3, B4, A5, C6] (none) [A0, B, (moSeg 64 k f c n (kp.set i v) l nt w sh (p : Int) t d wa), A3, B4, A5, C6] := by
  refine aEv_of okX3_setKept caX3_setKept (Nat.le_of_ble_eq_true rfl) ?_
  refine aGo okX3_setKept 4 (f' := (6, [some (.inr 64), some (.inl (i : Int)), some (.inl v)], [.inl v, .inl (i : Int), .inr 73], _)) rfl ?_
  refine b_vN (as := [.inl (i : Int), .inl v]) (rest := []) (k := 73) okX3_setKept rfl lkX3_98 caX4_put (Nat.le_of_ble_eq_true rfl) rfl (Nat.le_of_ble_eq_true rfl) rfl rfl rfl (c_put (i := i) rfl rfl (by first | omega | (simp only [List.length_set]; omega)) (by first | omega | (simp only [List.length_set]; omega)) v) ?_
  refine b_cast (f' := (9, [some (.inr 64), some (.inl (i : Int)), some (.inl v)], [], [A0, B, (moSeg 64 k f c n (kp.set i v) l nt w sh (p : Int) t d wa), A3, B4, A5, C6])) rfl ?_
  exact b_ret (v := none) ⟨rfl, rfl⟩ ⟨rfl, rfl⟩ rfl
set_option maxHeartbeats 4000000 in
theorem c_setNeed_2 (h1 : n.length = 7) {i : Nat} (hi : i < 7) (v : Int) : aEx mX3_setNeed 1 N [.inr 64, .inl (i : Int), .inl v] [A0, B, (moSeg 64 k f c n kp l nt w sh (p : Int) t d wa), A3, B4, A5, C6] (none) [A0, B, (moSeg 64 k f c (n.set i v) kp l nt w sh (p : Int) t d wa), A3, B4, A5, C6] := by
  refine aEv_of okX3_setNeed caX3_setNeed (Nat.le_of_ble_eq_true rfl) ?_
  refine aGo okX3_setNeed 4 (f' := (6, [some (.inr 64), some (.inl (i : Int)), some (.inl v)], [.inl v, .inl (i : Int), .inr 71], _)) rfl ?_
  refine b_vN (as := [.inl (i : Int), .inl v]) (rest := []) (k := 71) okX3_setNeed rfl lkX3_98 caX4_put (Nat.le_of_ble_eq_true rfl) rfl (Nat.le_of_ble_eq_true rfl) rfl rfl rfl (c_put (i := i) rfl rfl (by first | omega | (simp only [List.length_set]; omega)) (by first | omega | (simp only [List.length_set]; omega)) v) ?_
  refine b_cast (f' := (9, [some (.inr 64), some (.inl (i : Int)), some (.inl v)], [], [A0, B, (moSeg 64 k f c (n.set i v) kp l nt w sh (p : Int) t d wa), A3, B4, A5, C6])) rfl ?_
  exact b_ret (v := none) ⟨rfl, rfl⟩ ⟨rfl, rfl⟩ rfl
end AMO
end
section
theorem lose5 (a0 a1 a2 a3 a4 a5 : Option aV) : ∀ (i : Nat) (v : aV), [a0, a1, a2, a3, a4, none][i]? = some (some v) → [a0, a1, a2, a3, a4, a5][i]? = some (some v) := by
  intro i v h
  match i, h with
  | 0, h => exact h
  | 1, h => exact h
  | 2, h => exact h
  | 3, h => exact h
  | 4, h => exact h
  | 5, h => cases h
  | i + 6, h => exact h
theorem lose4 (a0 a1 a2 a3 a4 : Option aV) : ∀ (i : Nat) (v : aV), [a0, a1, a2, a3, none, none][i]? = some (some v) → [a0, a1, a2, a3, a4, none][i]? = some (some v) := by
  intro i v h
  match i, h with
  | 0, h => exact h
  | 1, h => exact h
  | 2, h => exact h
  | 3, h => exact h
  | 4, h => cases h
  | 5, h => exact h
  | i + 6, h => exact h
/-! The Moor's methods with loops; laid by gen_moor2.py -/
/-- the ground on which weights and shares are told -/
def wH (p : Nat) (k f c w sh : List Int) (t : Int) : Prop := p ≤ 7 ∧ k.length = 7 ∧ f.length = 7 ∧ c.length = 7 ∧ w.length = 7 ∧ sh.length = 7 ∧ rng k 5 ∧ rng f 9 ∧ rng c 35 ∧ 0 ≤ t ∧ t ≤ 999
theorem wtOf4 {fg pe ne : Int} : wtOf 4 fg pe ne = if ne < 3 then pe + fg else pe + fg + 5 := rfl
theorem mulB {t w : Int} (ht : 0 ≤ t ∧ t ≤ 999) (hw : 1 ≤ w ∧ w ≤ 200) : 0 ≤ t * w ∧ t * w ≤ 199800 := by
  refine ⟨Int.mul_nonneg ht.1 (by omega), Int.le_trans (Int.mul_le_mul ht.2 hw.2 (by omega) (by omega)) (by decide)⟩
section AMP
variable {A0 B A3 B4 A5 C6 : List (Option aE)} {k f c n kp l nt w sh : List Int} {p : Nat} {t d wa : Int} {N : Nat}
set_option maxHeartbeats 4000000 in
theorem c_allOf_1_n (hp : p ≤ 7) (hl : n.length = 7) : aEv mX3_allOf 1 0 0 N [.inr 32, .inr 39] [A0, (moSeg 32 k f c n kp l nt w sh (p : Int) t d wa), B, A3, B4, A5, C6] ((aQx (some (.inl (sumN p (fun q => n.getD q 0)))) [A0, (moSeg 32 k f c n kp l nt w sh (p : Int) t d wa), B, A3, B4, A5, C6])) := by
  refine aEv_of okX3_allOf caX3_allOf (Nat.le_of_ble_eq_true rfl) ?_
  have lp : ∀ (j i : Nat), i + j = p → AW mX3_allOf 1 0 0 N none (aQx (some (.inl (sumN p (fun q => n.getD q 0)))) [A0, (moSeg 32 k f c n kp l nt w sh (p : Int) t d wa), B, A3, B4, A5, C6]) (4, [some (.inr 32), some (.inr 39), some (.inl (sumN i (fun q => n.getD q 0))), some (.inl (i : Int))], [], [A0, (moSeg 32 k f c n kp l nt w sh (p : Int) t d wa), B, A3, B4, A5, C6]) := by
    intro j
    induction j with
    | zero =>
      intro i  hij 
      obtain rfl : p = i := by omega
      refine aGo okX3_allOf 3 (f' := (9, [some (.inr 32), some (.inr 39), some (.inl (sumN p (fun q => n.getD q 0))), some (.inl (p : Int))], [.inl (p : Int), .inl (p : Int)], _)) rfl ?_
      refine b_ge (tgt := 26) okX3_allOf rfl rfl ⟨by omega, by omega⟩ ⟨by omega, by omega⟩ (fun h9 => ?_) (fun h9 => absurd h9 (by omega))
      refine aGo okX3_allOf 1 (f' := (27, [some (.inr 32), some (.inr 39), some (.inl (sumN p (fun q => n.getD q 0))), some (.inl (p : Int))], [.inl (sumN p (fun q => n.getD q 0))], _)) rfl ?_
      exact b_ret (v := (some (.inl (sumN p (fun q => n.getD q 0))))) ⟨rfl, Or.inl rfl⟩ ⟨rfl, rfl⟩ rfl
    | succ j ih =>
      intro i  hij 
      refine aGo okX3_allOf 3 (f' := (9, [some (.inr 32), some (.inr 39), some (.inl (sumN i (fun q => n.getD q 0))), some (.inl (i : Int))], [.inl (p : Int), .inl (i : Int)], _)) rfl ?_
      refine b_ge (tgt := 26) okX3_allOf rfl rfl ⟨by omega, by omega⟩ ⟨by omega, by omega⟩ (fun h9 => absurd h9 (by omega)) (fun h9 => ?_)
      refine aGo okX3_allOf 3 (f' := (15, [some (.inr 32), some (.inr 39), some (.inl (sumN i (fun q => n.getD q 0))), some (.inl (i : Int))], [.inl (i : Int), .inr 39, .inl (sumN i (fun q => n.getD q 0))], _)) rfl ?_
      refine b_vV (as := [.inl (i : Int)]) (rest := [.inl (sumN i (fun q => n.getD q 0))]) (k := 39) (.inl (n.getD i 0)) okX3_allOf rfl lkX3_65 caX4_at (Nat.le_of_ble_eq_true rfl) rfl (Nat.le_of_ble_eq_true rfl) rfl rfl rfl (c_at (i := i) rfl rfl (by first | omega | (simp only [List.length_set]; omega)) (by omega)) ?_
      refine aGo okX3_allOf 4 (f' := (4, [some (.inr 32), some (.inr 39), some (.inl ((sumN i (fun q => n.getD q 0)) + (n.getD i 0))), some (.inl ((i : Int) + 1))], [], _)) rfl ?_
      exact ih (i + 1) (by omega)
  refine aGo okX3_allOf 4 (f' := (4, [some (.inr 32), some (.inr 39), some (.inl 0), some (.inl 0)], [], _)) rfl ?_
  exact lp p 0 (by omega)
set_option maxHeartbeats 4000000 in
theorem c_allNeeds_1 (hp : p ≤ 7) (hl : n.length = 7) : aEv mX3_allNeeds 2 0 0 N [.inr 32] [A0, (moSeg 32 k f c n kp l nt w sh (p : Int) t d wa), B, A3, B4, A5, C6] (aQx (some (.inl (sumN p (fun q => n.getD q 0)))) [A0, (moSeg 32 k f c n kp l nt w sh (p : Int) t d wa), B, A3, B4, A5, C6]) := by
  refine aEv_of okX3_allNeeds caX3_allNeeds (Nat.le_of_ble_eq_true rfl) ?_
  refine aGo okX3_allNeeds 3 (f' := (5, [some (.inr 32)], [.inr 39, .inr 32], _)) rfl ?_
  refine b_vV (as := [.inr 39]) (rest := []) (k := 32) (.inl (sumN p (fun q => n.getD q 0))) okX3_allNeeds rfl lkX3_73 caX3_allOf (Nat.le_of_ble_eq_true rfl) rfl (Nat.le_of_ble_eq_true rfl) rfl rfl rfl (c_allOf_1_n hp hl) ?_
  exact b_ret (v := (some (.inl (sumN p (fun q => n.getD q 0))))) ⟨rfl, Or.inl rfl⟩ ⟨rfl, rfl⟩ rfl
set_option maxHeartbeats 4000000 in
theorem c_allOf_1_kp (hp : p ≤ 7) (hl : kp.length = 7) : aEv mX3_allOf 1 0 0 N [.inr 32, .inr 41] [A0, (moSeg 32 k f c n kp l nt w sh (p : Int) t d wa), B, A3, B4, A5, C6] ((aQx (some (.inl (sumN p (fun q => kp.getD q 0)))) [A0, (moSeg 32 k f c n kp l nt w sh (p : Int) t d wa), B, A3, B4, A5, C6])) := by
  refine aEv_of okX3_allOf caX3_allOf (Nat.le_of_ble_eq_true rfl) ?_
  have lp : ∀ (j i : Nat), i + j = p → AW mX3_allOf 1 0 0 N none (aQx (some (.inl (sumN p (fun q => kp.getD q 0)))) [A0, (moSeg 32 k f c n kp l nt w sh (p : Int) t d wa), B, A3, B4, A5, C6]) (4, [some (.inr 32), some (.inr 41), some (.inl (sumN i (fun q => kp.getD q 0))), some (.inl (i : Int))], [], [A0, (moSeg 32 k f c n kp l nt w sh (p : Int) t d wa), B, A3, B4, A5, C6]) := by
    intro j
    induction j with
    | zero =>
      intro i  hij 
      obtain rfl : p = i := by omega
      refine aGo okX3_allOf 3 (f' := (9, [some (.inr 32), some (.inr 41), some (.inl (sumN p (fun q => kp.getD q 0))), some (.inl (p : Int))], [.inl (p : Int), .inl (p : Int)], _)) rfl ?_
      refine b_ge (tgt := 26) okX3_allOf rfl rfl ⟨by omega, by omega⟩ ⟨by omega, by omega⟩ (fun h9 => ?_) (fun h9 => absurd h9 (by omega))
      refine aGo okX3_allOf 1 (f' := (27, [some (.inr 32), some (.inr 41), some (.inl (sumN p (fun q => kp.getD q 0))), some (.inl (p : Int))], [.inl (sumN p (fun q => kp.getD q 0))], _)) rfl ?_
      exact b_ret (v := (some (.inl (sumN p (fun q => kp.getD q 0))))) ⟨rfl, Or.inl rfl⟩ ⟨rfl, rfl⟩ rfl
    | succ j ih =>
      intro i  hij 
      refine aGo okX3_allOf 3 (f' := (9, [some (.inr 32), some (.inr 41), some (.inl (sumN i (fun q => kp.getD q 0))), some (.inl (i : Int))], [.inl (p : Int), .inl (i : Int)], _)) rfl ?_
      refine b_ge (tgt := 26) okX3_allOf rfl rfl ⟨by omega, by omega⟩ ⟨by omega, by omega⟩ (fun h9 => absurd h9 (by omega)) (fun h9 => ?_)
      refine aGo okX3_allOf 3 (f' := (15, [some (.inr 32), some (.inr 41), some (.inl (sumN i (fun q => kp.getD q 0))), some (.inl (i : Int))], [.inl (i : Int), .inr 41, .inl (sumN i (fun q => kp.getD q 0))], _)) rfl ?_
      refine b_vV (as := [.inl (i : Int)]) (rest := [.inl (sumN i (fun q => kp.getD q 0))]) (k := 41) (.inl (kp.getD i 0)) okX3_allOf rfl lkX3_65 caX4_at (Nat.le_of_ble_eq_true rfl) rfl (Nat.le_of_ble_eq_true rfl) rfl rfl rfl (c_at (i := i) rfl rfl (by first | omega | (simp only [List.length_set]; omega)) (by omega)) ?_
      refine aGo okX3_allOf 4 (f' := (4, [some (.inr 32), some (.inr 41), some (.inl ((sumN i (fun q => kp.getD q 0)) + (kp.getD i 0))), some (.inl ((i : Int) + 1))], [], _)) rfl ?_
      exact ih (i + 1) (by omega)
  refine aGo okX3_allOf 4 (f' := (4, [some (.inr 32), some (.inr 41), some (.inl 0), some (.inl 0)], [], _)) rfl ?_
  exact lp p 0 (by omega)
set_option maxHeartbeats 4000000 in
theorem c_allKept_1 (hp : p ≤ 7) (hl : kp.length = 7) : aEv mX3_allKept 2 0 0 N [.inr 32] [A0, (moSeg 32 k f c n kp l nt w sh (p : Int) t d wa), B, A3, B4, A5, C6] (aQx (some (.inl (sumN p (fun q => kp.getD q 0)))) [A0, (moSeg 32 k f c n kp l nt w sh (p : Int) t d wa), B, A3, B4, A5, C6]) := by
  refine aEv_of okX3_allKept caX3_allKept (Nat.le_of_ble_eq_true rfl) ?_
  refine aGo okX3_allKept 3 (f' := (5, [some (.inr 32)], [.inr 41, .inr 32], _)) rfl ?_
  refine b_vV (as := [.inr 41]) (rest := []) (k := 32) (.inl (sumN p (fun q => kp.getD q 0))) okX3_allKept rfl lkX3_73 caX3_allOf (Nat.le_of_ble_eq_true rfl) rfl (Nat.le_of_ble_eq_true rfl) rfl rfl rfl (c_allOf_1_kp hp hl) ?_
  exact b_ret (v := (some (.inl (sumN p (fun q => kp.getD q 0))))) ⟨rfl, Or.inl rfl⟩ ⟨rfl, rfl⟩ rfl
set_option maxHeartbeats 4000000 in
theorem c_contentBits_1 (hp : p ≤ 7) (hn0 : n.length = 7) (hs0 : sh.length = 7) (ht0 : nt.length = 7) (hn : rng n 99) (h2 : ∀ q, q < p → -10000 ≤ sh.getD q 0 - nt.getD q 0 ∧ sh.getD q 0 - nt.getD q 0 ≤ 10000) : aEv mX3_contentBits 2 0 0 N [.inr 32] [A0, (moSeg 32 k f c n kp l nt w sh (p : Int) t d wa), B, A3, B4, A5, C6] ((aQx (some (.inl (bitsN p (fun q => decide (n.getD q 0 ≤ sh.getD q 0 - nt.getD q 0))))) [A0, (moSeg 32 k f c n kp l nt w sh (p : Int) t d wa), B, A3, B4, A5, C6])) := by
  refine aEv_of okX3_contentBits caX3_contentBits (Nat.le_of_ble_eq_true rfl) ?_
  have lp : ∀ (j i : Nat), i + j = p → AW mX3_contentBits 2 0 0 N none (aQx (some (.inl (bitsN p (fun q => decide (n.getD q 0 ≤ sh.getD q 0 - nt.getD q 0))))) [A0, (moSeg 32 k f c n kp l nt w sh (p : Int) t d wa), B, A3, B4, A5, C6]) (4, [some (.inr 32), some (.inl (bitsN i (fun q => decide (n.getD q 0 ≤ sh.getD q 0 - nt.getD q 0)))), some (.inl (i : Int))], [], [A0, (moSeg 32 k f c n kp l nt w sh (p : Int) t d wa), B, A3, B4, A5, C6]) := by
    intro j
    induction j with
    | zero =>
      intro i  hij 
      obtain rfl : p = i := by omega
      refine aGo okX3_contentBits 3 (f' := (9, [some (.inr 32), some (.inl (bitsN p (fun q => decide (n.getD q 0 ≤ sh.getD q 0 - nt.getD q 0)))), some (.inl (p : Int))], [.inl (p : Int), .inl (p : Int)], _)) rfl ?_
      refine b_ge (tgt := 40) okX3_contentBits rfl rfl ⟨by omega, by omega⟩ ⟨by omega, by omega⟩ (fun h9 => ?_) (fun h9 => absurd h9 (by omega))
      refine aGo okX3_contentBits 1 (f' := (41, [some (.inr 32), some (.inl (bitsN p (fun q => decide (n.getD q 0 ≤ sh.getD q 0 - nt.getD q 0)))), some (.inl (p : Int))], [.inl (bitsN p (fun q => decide (n.getD q 0 ≤ sh.getD q 0 - nt.getD q 0)))], _)) rfl ?_
      exact b_ret (v := (some (.inl (bitsN p (fun q => decide (n.getD q 0 ≤ sh.getD q 0 - nt.getD q 0)))))) ⟨rfl, Or.inl rfl⟩ ⟨rfl, rfl⟩ rfl
    | succ j ih =>
      intro i  hij 
      have q1 := hn i
      have q2 := h2 i (by omega)
      refine aGo okX3_contentBits 3 (f' := (9, [some (.inr 32), some (.inl (bitsN i (fun q => decide (n.getD q 0 ≤ sh.getD q 0 - nt.getD q 0)))), some (.inl (i : Int))], [.inl (p : Int), .inl (i : Int)], _)) rfl ?_
      refine b_ge (tgt := 40) okX3_contentBits rfl rfl ⟨by omega, by omega⟩ ⟨by omega, by omega⟩ (fun h9 => absurd h9 (by omega)) (fun h9 => ?_)
      refine aGo okX3_contentBits 2 (f' := (14, [some (.inr 32), some (.inl (bitsN i (fun q => decide (n.getD q 0 ≤ sh.getD q 0 - nt.getD q 0)))), some (.inl (i : Int))], [.inl (i : Int), .inr 32], _)) rfl ?_
      refine b_vV (as := [.inl (i : Int)]) (rest := []) (k := 32) (.inl ((sh.getD i 0) - (nt.getD i 0))) okX3_contentBits rfl lkX3_77 caX3_hasOf (Nat.le_of_ble_eq_true rfl) rfl (Nat.le_of_ble_eq_true rfl) rfl rfl rfl (c_hasOf_1 (i := i) (by first | omega | (simp only [List.length_set]; omega)) (by first | omega | (simp only [List.length_set]; omega)) (by omega)) ?_
      refine aGo okX3_contentBits 3 (f' := (22, [some (.inr 32), some (.inl (bitsN i (fun q => decide (n.getD q 0 ≤ sh.getD q 0 - nt.getD q 0)))), some (.inl (i : Int))], [.inl (i : Int), .inr 39, .inl ((sh.getD i 0) - (nt.getD i 0))], _)) rfl ?_
      refine b_vV (as := [.inl (i : Int)]) (rest := [.inl ((sh.getD i 0) - (nt.getD i 0))]) (k := 39) (.inl (n.getD i 0)) okX3_contentBits rfl lkX3_65 caX4_at (Nat.le_of_ble_eq_true rfl) rfl (Nat.le_of_ble_eq_true rfl) rfl rfl rfl (c_at (i := i) rfl rfl (by first | omega | (simp only [List.length_set]; omega)) (by omega)) ?_
      refine b_lt (tgt := 34) okX3_contentBits rfl rfl ⟨by omega, by omega⟩ ⟨by omega, by omega⟩ (fun h25 => ?_) (fun h25 => ?_)
      · refine aGo okX3_contentBits 2 (f' := (4, [some (.inr 32), some (.inl (bitsN i (fun q => decide (n.getD q 0 ≤ sh.getD q 0 - nt.getD q 0)))), some (.inl ((i : Int) + 1))], [], _)) rfl ?_
        refine b_cast (f' := (4, [some (.inr 32), some (.inl (bitsN (i + 1) (fun q => decide (n.getD q 0 ≤ sh.getD q 0 - nt.getD q 0)))), some (.inl ((i : Int) + 1))], [], [A0, (moSeg 32 k f c n kp l nt w sh (p : Int) t d wa), B, A3, B4, A5, C6])) (by rw [bitsN_f (P := (fun q => decide (n.getD q 0 ≤ sh.getD q 0 - nt.getD q 0))) (i := i) (decide_eq_false (by omega))]) ?_
        exact ih (i + 1) (by omega)
      · refine aGo okX3_contentBits 8 (f' := (4, [some (.inr 32), some (.inl (aOr (bitsN i (fun q => decide (n.getD q 0 ≤ sh.getD q 0 - nt.getD q 0))) (aShl 1 (i : Int)))), some (.inl ((i : Int) + 1))], [], _)) rfl ?_
        refine b_cast (f' := (4, [some (.inr 32), some (.inl (bitsN (i + 1) (fun q => decide (n.getD q 0 ≤ sh.getD q 0 - nt.getD q 0)))), some (.inl ((i : Int) + 1))], [], [A0, (moSeg 32 k f c n kp l nt w sh (p : Int) t d wa), B, A3, B4, A5, C6])) (by rw [bitsN_t (P := (fun q => decide (n.getD q 0 ≤ sh.getD q 0 - nt.getD q 0))) (i := i) (decide_eq_true (by omega))]) ?_
        exact ih (i + 1) (by omega)
  refine aGo okX3_contentBits 4 (f' := (4, [some (.inr 32), some (.inl 0), some (.inl 0)], [], _)) rfl ?_
  exact lp p 0 (by omega)
set_option maxHeartbeats 4000000 in
theorem c_passDays_1 {m : Nat} (hp : p ≤ 7) (hm : m ≤ 1000) (hkp : kp.length = 7) (hn0 : n.length = 7) (hs0 : sh.length = 7) (ht0 : nt.length = 7) (rkp : rng kp 9999) (hn : rng n 99) (h2 : ∀ q, q < p → -10000 ≤ sh.getD q 0 - nt.getD q 0 ∧ sh.getD q 0 - nt.getD q 0 ≤ 10000) : aEv mX3_passDays 2 0 0 N [.inr 32, .inl (m : Int)] [A0, (moSeg 32 k f c n kp l nt w sh (p : Int) t d wa), B, A3, B4, A5, C6] ((aQx (some (.inl (dayB p (hasL sh nt) n kp m))) [A0, (moSeg 32 k f c n (dayIt p (hasL sh nt) n m kp) l nt w sh (p : Int) t (d + (m : Int)) wa), B, A3, B4, A5, C6])) := by
  have hV : ∀ i q, q < p → -30000 ≤ dayV (dayIt p (hasL sh nt) n i kp) (hasL sh nt) n q ∧ dayV (dayIt p (hasL sh nt) n i kp) (hasL sh nt) n q ≤ 30000 := fun i q hq => by have r1 := dayIt_rng (p := p) (has := (hasL sh nt)) (n := n) (m := i) rkp q; have r2 := hn q; have r3 := h2 q hq; unfold dayV hasL; unfold hasL at r1; omega
  refine aEv_of okX3_passDays caX3_passDays (Nat.le_of_ble_eq_true rfl) ?_
  have lp : ∀ (j i : Nat), i + j = m → AW mX3_passDays 2 0 0 N none (aQx (some (.inl (dayB p (hasL sh nt) n kp m))) [A0, (moSeg 32 k f c n (dayIt p (hasL sh nt) n m kp) l nt w sh (p : Int) t (d + (m : Int)) wa), B, A3, B4, A5, C6]) (4, [some (.inr 32), some (.inl (m : Int)), some (.inl (dayB p (hasL sh nt) n kp i)), some (.inl (i : Int)), none, none], [], [A0, (moSeg 32 k f c n (dayIt p (hasL sh nt) n i kp) l nt w sh (p : Int) t (d + (i : Int)) wa), B, A3, B4, A5, C6]) := by
    intro j
    induction j with
    | zero =>
      intro i  hij 
      obtain rfl : m = i := by omega
      refine aGo okX3_passDays 2 (f' := (6, [some (.inr 32), some (.inl (m : Int)), some (.inl (dayB p (hasL sh nt) n kp m)), some (.inl (m : Int)), none, none], [.inl (m : Int), .inl (m : Int)], _)) rfl ?_
      refine b_ge (tgt := 106) okX3_passDays rfl rfl ⟨by omega, by omega⟩ ⟨by omega, by omega⟩ (fun h6 => ?_) (fun h6 => absurd h6 (by omega))
      refine aGo okX3_passDays 1 (f' := (107, [some (.inr 32), some (.inl (m : Int)), some (.inl (dayB p (hasL sh nt) n kp m)), some (.inl (m : Int)), none, none], [.inl (dayB p (hasL sh nt) n kp m)], _)) rfl ?_
      exact b_ret (v := (some (.inl (dayB p (hasL sh nt) n kp m)))) ⟨rfl, Or.inl rfl⟩ ⟨rfl, rfl⟩ rfl
    | succ j ih =>
      intro i  hij 
      have lq : ∀ (j2 q : Nat), q + j2 = p → AW mX3_passDays 2 0 0 N none (aQx (some (.inl (dayB p (hasL sh nt) n kp m))) [A0, (moSeg 32 k f c n (dayIt p (hasL sh nt) n m kp) l nt w sh (p : Int) t (d + (m : Int)) wa), B, A3, B4, A5, C6]) (24, [some (.inr 32), some (.inl (m : Int)), some (.inl (bitsN q (fun q => decide (dayV (dayIt p (hasL sh nt) n i kp) (hasL sh nt) n q < 0)))), some (.inl (i : Int)), some (.inl (q : Int)), none], [], [A0, (moSeg 32 k f c n (dayL q (dayIt p (hasL sh nt) n i kp) (hasL sh nt) n) l nt w sh (p : Int) t ((d + (i : Int)) + 1) wa), B, A3, B4, A5, C6]) := by
        intro j2
        induction j2 with
        | zero =>
          intro q  hij2 
          obtain rfl : p = q := by omega
          refine aGo okX3_passDays 3 (f' := (30, [some (.inr 32), some (.inl (m : Int)), some (.inl (bitsN p (fun q => decide (dayV (dayIt p (hasL sh nt) n i kp) (hasL sh nt) n q < 0)))), some (.inl (i : Int)), some (.inl (p : Int)), none], [.inl (p : Int), .inl (p : Int)], _)) rfl ?_
          refine b_ge (tgt := 100) okX3_passDays rfl rfl ⟨by omega, by omega⟩ ⟨by omega, by omega⟩ (fun h30 => ?_) (fun h30 => absurd h30 (by omega))
          refine aGo okX3_passDays 2 (f' := (4, [some (.inr 32), some (.inl (m : Int)), some (.inl (bitsN p (fun q => decide (dayV (dayIt p (hasL sh nt) n i kp) (hasL sh nt) n q < 0)))), some (.inl ((i : Int) + 1)), some (.inl (p : Int)), none], [], _)) rfl ?_
          refine b_cast (f' := (4, [some (.inr 32), some (.inl (m : Int)), some (.inl (bitsN p (fun q => decide (dayV (dayIt p (hasL sh nt) n i kp) (hasL sh nt) n q < 0)))), some (.inl ((i : Int) + 1)), some (.inl (p : Int)), none], [], [A0, (moSeg 32 k f c n (dayL p (dayIt p (hasL sh nt) n i kp) (hasL sh nt) n) l nt w sh (p : Int) t (d + (((i + 1) : Nat) : Int)) wa), B, A3, B4, A5, C6])) (by rw [show d + (i : Int) + 1 = d + ((i + 1 : Nat) : Int) by omega]) ?_
          refine b_lose (ls' := [some (.inr 32), some (.inl (m : Int)), some (.inl (bitsN p (fun q => decide (dayV (dayIt p (hasL sh nt) n i kp) (hasL sh nt) n q < 0)))), some (.inl ((i : Int) + 1)), none, none]) (lose4 _ _ _ _ _) ?_
          exact ih (i + 1) (by omega)
        | succ j2 ih2 =>
          intro q  hij2 
          have e0 : (dayL q (dayIt p (hasL sh nt) n i kp) (hasL sh nt) n).length = 7 := by rw [dayL_len, dayIt_len]; exact hkp
          refine aGo okX3_passDays 3 (f' := (30, [some (.inr 32), some (.inl (m : Int)), some (.inl (bitsN q (fun q => decide (dayV (dayIt p (hasL sh nt) n i kp) (hasL sh nt) n q < 0)))), some (.inl (i : Int)), some (.inl (q : Int)), none], [.inl (p : Int), .inl (q : Int)], _)) rfl ?_
          refine b_ge (tgt := 100) okX3_passDays rfl rfl ⟨by omega, by omega⟩ ⟨by omega, by omega⟩ (fun h30 => absurd h30 (by omega)) (fun h30 => ?_)
          refine aGo okX3_passDays 3 (f' := (39, [some (.inr 32), some (.inl (m : Int)), some (.inl (bitsN q (fun q => decide (dayV (dayIt p (hasL sh nt) n i kp) (hasL sh nt) n q < 0)))), some (.inl (i : Int)), some (.inl (q : Int)), none], [.inl (q : Int), .inr 41], _)) rfl ?_
          refine b_vV (as := [.inl (q : Int)]) (rest := []) (k := 41) (.inl ((dayL q (dayIt p (hasL sh nt) n i kp) (hasL sh nt) n).getD q 0)) okX3_passDays rfl lkX3_65 caX4_at (Nat.le_of_ble_eq_true rfl) rfl (Nat.le_of_ble_eq_true rfl) rfl rfl rfl (c_at (i := q) rfl rfl (by first | omega | (simp only [List.length_set]; omega)) (by omega)) ?_
          refine b_cast (f' := (42, [some (.inr 32), some (.inl (m : Int)), some (.inl (bitsN q (fun q => decide (dayV (dayIt p (hasL sh nt) n i kp) (hasL sh nt) n q < 0)))), some (.inl (i : Int)), some (.inl (q : Int)), none], [.inl ((dayIt p (hasL sh nt) n i kp).getD q 0)], [A0, (moSeg 32 k f c n (dayL q (dayIt p (hasL sh nt) n i kp) (hasL sh nt) n) l nt w sh (p : Int) t ((d + (i : Int)) + 1) wa), B, A3, B4, A5, C6])) (by rw [dayL_at (Nat.le_refl q)]) ?_
          refine aGo okX3_passDays 2 (f' := (45, [some (.inr 32), some (.inl (m : Int)), some (.inl (bitsN q (fun q => decide (dayV (dayIt p (hasL sh nt) n i kp) (hasL sh nt) n q < 0)))), some (.inl (i : Int)), some (.inl (q : Int)), none], [.inl (q : Int), .inr 32, .inl ((dayIt p (hasL sh nt) n i kp).getD q 0)], _)) rfl ?_
          refine b_vV (as := [.inl (q : Int)]) (rest := [.inl ((dayIt p (hasL sh nt) n i kp).getD q 0)]) (k := 32) (.inl ((sh.getD q 0) - (nt.getD q 0))) okX3_passDays rfl lkX3_77 caX3_hasOf (Nat.le_of_ble_eq_true rfl) rfl (Nat.le_of_ble_eq_true rfl) rfl rfl rfl (c_hasOf_1 (i := q) (by first | omega | (simp only [List.length_set]; omega)) (by first | omega | (simp only [List.length_set]; omega)) (by omega)) ?_
          refine aGo okX3_passDays 4 (f' := (55, [some (.inr 32), some (.inl (m : Int)), some (.inl (bitsN q (fun q => decide (dayV (dayIt p (hasL sh nt) n i kp) (hasL sh nt) n q < 0)))), some (.inl (i : Int)), some (.inl (q : Int)), none], [.inl (q : Int), .inr 39, .inl (((dayIt p (hasL sh nt) n i kp).getD q 0) + ((sh.getD q 0) - (nt.getD q 0)))], _)) rfl ?_
          refine b_vV (as := [.inl (q : Int)]) (rest := [.inl (((dayIt p (hasL sh nt) n i kp).getD q 0) + ((sh.getD q 0) - (nt.getD q 0)))]) (k := 39) (.inl (n.getD q 0)) okX3_passDays rfl lkX3_65 caX4_at (Nat.le_of_ble_eq_true rfl) rfl (Nat.le_of_ble_eq_true rfl) rfl rfl rfl (c_at (i := q) rfl rfl (by first | omega | (simp only [List.length_set]; omega)) (by omega)) ?_
          refine aGo okX3_passDays 2 (f' := (61, [some (.inr 32), some (.inl (m : Int)), some (.inl (bitsN q (fun q => decide (dayV (dayIt p (hasL sh nt) n i kp) (hasL sh nt) n q < 0)))), some (.inl (i : Int)), some (.inl (q : Int)), some (.inl ((((dayIt p (hasL sh nt) n i kp).getD q 0) + ((sh.getD q 0) - (nt.getD q 0))) - (n.getD q 0)))], [], _)) rfl ?_
          refine b_cast (f' := (61, [some (.inr 32), some (.inl (m : Int)), some (.inl (bitsN q (fun q => decide (dayV (dayIt p (hasL sh nt) n i kp) (hasL sh nt) n q < 0)))), some (.inl (i : Int)), some (.inl (q : Int)), some (.inl (dayV (dayIt p (hasL sh nt) n i kp) (hasL sh nt) n q))], [], [A0, (moSeg 32 k f c n (dayL q (dayIt p (hasL sh nt) n i kp) (hasL sh nt) n) l nt w sh (p : Int) t ((d + (i : Int)) + 1) wa), B, A3, B4, A5, C6])) (rfl) ?_
          have hv0 := hV i q (by omega)
          refine aGo okX3_passDays 1 (f' := (63, [some (.inr 32), some (.inl (m : Int)), some (.inl (bitsN q (fun q => decide (dayV (dayIt p (hasL sh nt) n i kp) (hasL sh nt) n q < 0)))), some (.inl (i : Int)), some (.inl (q : Int)), some (.inl (dayV (dayIt p (hasL sh nt) n i kp) (hasL sh nt) n q))], [.inl (dayV (dayIt p (hasL sh nt) n i kp) (hasL sh nt) n q)], _)) rfl ?_
          refine b0_ge (tgt := 73) okX3_passDays rfl rfl ⟨by omega, by omega⟩ (fun h63 => ?_) (fun h63 => ?_)
          · refine aGo okX3_passDays 6 (f' := (85, [some (.inr 32), some (.inl (m : Int)), some (.inl (bitsN q (fun q => decide (dayV (dayIt p (hasL sh nt) n i kp) (hasL sh nt) n q < 0)))), some (.inl (i : Int)), some (.inl (q : Int)), some (.inl (dayV (dayIt p (hasL sh nt) n i kp) (hasL sh nt) n q))], [.inl 9999, .inl (dayV (dayIt p (hasL sh nt) n i kp) (hasL sh nt) n q), .inl 0, .inl (q : Int), .inr 41], _)) rfl ?_
            refine b_min okX3_passDays rfl lkX3_112 ma_min_s ma_min_c (Nat.le_of_ble_eq_true rfl) (Nat.le_of_ble_eq_true rfl) ⟨by omega, by omega⟩ ⟨by omega, by omega⟩ ?_
            refine b_max okX3_passDays rfl lkX3_86 ma_max_s ma_max_c (Nat.le_of_ble_eq_true rfl) (Nat.le_of_ble_eq_true rfl) ⟨by omega, by omega⟩ ⟨by omega, by omega⟩ ?_
            refine b_vN (as := [.inl (q : Int), .inl (max 0 (min (dayV (dayIt p (hasL sh nt) n i kp) (hasL sh nt) n q) 9999))]) (rest := []) (k := 41) okX3_passDays rfl lkX3_98 caX4_put (Nat.le_of_ble_eq_true rfl) rfl (Nat.le_of_ble_eq_true rfl) rfl rfl rfl (c_put (i := q) rfl rfl (by first | omega | (simp only [List.length_set]; omega)) (by first | omega | (simp only [List.length_set]; omega)) (max 0 (min (dayV (dayIt p (hasL sh nt) n i kp) (hasL sh nt) n q) 9999))) ?_
            refine b_cast (f' := (94, [some (.inr 32), some (.inl (m : Int)), some (.inl (bitsN q (fun q => decide (dayV (dayIt p (hasL sh nt) n i kp) (hasL sh nt) n q < 0)))), some (.inl (i : Int)), some (.inl (q : Int)), some (.inl (dayV (dayIt p (hasL sh nt) n i kp) (hasL sh nt) n q))], [], [A0, (moSeg 32 k f c n ((dayL q (dayIt p (hasL sh nt) n i kp) (hasL sh nt) n).set q (max 0 (min (dayV (dayIt p (hasL sh nt) n i kp) (hasL sh nt) n q) 9999))) l nt w sh (p : Int) t ((d + (i : Int)) + 1) wa), B, A3, B4, A5, C6])) rfl ?_
            refine aGo okX3_passDays 2 (f' := (24, [some (.inr 32), some (.inl (m : Int)), some (.inl (bitsN q (fun q => decide (dayV (dayIt p (hasL sh nt) n i kp) (hasL sh nt) n q < 0)))), some (.inl (i : Int)), some (.inl ((q : Int) + 1)), some (.inl (dayV (dayIt p (hasL sh nt) n i kp) (hasL sh nt) n q))], [], _)) rfl ?_
            refine b_cast (f' := (24, [some (.inr 32), some (.inl (m : Int)), some (.inl (bitsN (q + 1) (fun q => decide (dayV (dayIt p (hasL sh nt) n i kp) (hasL sh nt) n q < 0)))), some (.inl (i : Int)), some (.inl ((q : Int) + 1)), some (.inl (dayV (dayIt p (hasL sh nt) n i kp) (hasL sh nt) n q))], [], [A0, (moSeg 32 k f c n ((dayL q (dayIt p (hasL sh nt) n i kp) (hasL sh nt) n).set q (max 0 (min (dayV (dayIt p (hasL sh nt) n i kp) (hasL sh nt) n q) 9999))) l nt w sh (p : Int) t ((d + (i : Int)) + 1) wa), B, A3, B4, A5, C6])) (by rw [bitsN_f (P := (fun q => decide (dayV (dayIt p (hasL sh nt) n i kp) (hasL sh nt) n q < 0))) (i := q) (decide_eq_false (by omega))]) ?_
            refine b_lose (ls' := [some (.inr 32), some (.inl (m : Int)), some (.inl (bitsN (q + 1) (fun q => decide (dayV (dayIt p (hasL sh nt) n i kp) (hasL sh nt) n q < 0)))), some (.inl (i : Int)), some (.inl ((q : Int) + 1)), none]) (lose5 _ _ _ _ _ _) ?_
            exact ih2 (q + 1) (by omega)
          · refine aGo okX3_passDays 12 (f' := (85, [some (.inr 32), some (.inl (m : Int)), some (.inl (aOr (bitsN q (fun q => decide (dayV (dayIt p (hasL sh nt) n i kp) (hasL sh nt) n q < 0))) (aShl 1 (q : Int)))), some (.inl (i : Int)), some (.inl (q : Int)), some (.inl (dayV (dayIt p (hasL sh nt) n i kp) (hasL sh nt) n q))], [.inl 9999, .inl (dayV (dayIt p (hasL sh nt) n i kp) (hasL sh nt) n q), .inl 0, .inl (q : Int), .inr 41], _)) rfl ?_
            refine b_min okX3_passDays rfl lkX3_112 ma_min_s ma_min_c (Nat.le_of_ble_eq_true rfl) (Nat.le_of_ble_eq_true rfl) ⟨by omega, by omega⟩ ⟨by omega, by omega⟩ ?_
            refine b_max okX3_passDays rfl lkX3_86 ma_max_s ma_max_c (Nat.le_of_ble_eq_true rfl) (Nat.le_of_ble_eq_true rfl) ⟨by omega, by omega⟩ ⟨by omega, by omega⟩ ?_
            refine b_vN (as := [.inl (q : Int), .inl (max 0 (min (dayV (dayIt p (hasL sh nt) n i kp) (hasL sh nt) n q) 9999))]) (rest := []) (k := 41) okX3_passDays rfl lkX3_98 caX4_put (Nat.le_of_ble_eq_true rfl) rfl (Nat.le_of_ble_eq_true rfl) rfl rfl rfl (c_put (i := q) rfl rfl (by first | omega | (simp only [List.length_set]; omega)) (by first | omega | (simp only [List.length_set]; omega)) (max 0 (min (dayV (dayIt p (hasL sh nt) n i kp) (hasL sh nt) n q) 9999))) ?_
            refine b_cast (f' := (94, [some (.inr 32), some (.inl (m : Int)), some (.inl (aOr (bitsN q (fun q => decide (dayV (dayIt p (hasL sh nt) n i kp) (hasL sh nt) n q < 0))) (aShl 1 (q : Int)))), some (.inl (i : Int)), some (.inl (q : Int)), some (.inl (dayV (dayIt p (hasL sh nt) n i kp) (hasL sh nt) n q))], [], [A0, (moSeg 32 k f c n ((dayL q (dayIt p (hasL sh nt) n i kp) (hasL sh nt) n).set q (max 0 (min (dayV (dayIt p (hasL sh nt) n i kp) (hasL sh nt) n q) 9999))) l nt w sh (p : Int) t ((d + (i : Int)) + 1) wa), B, A3, B4, A5, C6])) rfl ?_
            refine aGo okX3_passDays 2 (f' := (24, [some (.inr 32), some (.inl (m : Int)), some (.inl (aOr (bitsN q (fun q => decide (dayV (dayIt p (hasL sh nt) n i kp) (hasL sh nt) n q < 0))) (aShl 1 (q : Int)))), some (.inl (i : Int)), some (.inl ((q : Int) + 1)), some (.inl (dayV (dayIt p (hasL sh nt) n i kp) (hasL sh nt) n q))], [], _)) rfl ?_
            refine b_cast (f' := (24, [some (.inr 32), some (.inl (m : Int)), some (.inl (bitsN (q + 1) (fun q => decide (dayV (dayIt p (hasL sh nt) n i kp) (hasL sh nt) n q < 0)))), some (.inl (i : Int)), some (.inl ((q : Int) + 1)), some (.inl (dayV (dayIt p (hasL sh nt) n i kp) (hasL sh nt) n q))], [], [A0, (moSeg 32 k f c n ((dayL q (dayIt p (hasL sh nt) n i kp) (hasL sh nt) n).set q (max 0 (min (dayV (dayIt p (hasL sh nt) n i kp) (hasL sh nt) n q) 9999))) l nt w sh (p : Int) t ((d + (i : Int)) + 1) wa), B, A3, B4, A5, C6])) (by rw [bitsN_t (P := (fun q => decide (dayV (dayIt p (hasL sh nt) n i kp) (hasL sh nt) n q < 0))) (i := q) (decide_eq_true (by omega))]) ?_
            refine b_lose (ls' := [some (.inr 32), some (.inl (m : Int)), some (.inl (bitsN (q + 1) (fun q => decide (dayV (dayIt p (hasL sh nt) n i kp) (hasL sh nt) n q < 0)))), some (.inl (i : Int)), some (.inl ((q : Int) + 1)), none]) (lose5 _ _ _ _ _ _) ?_
            exact ih2 (q + 1) (by omega)
      refine aGo okX3_passDays 2 (f' := (6, [some (.inr 32), some (.inl (m : Int)), some (.inl (dayB p (hasL sh nt) n kp i)), some (.inl (i : Int)), none, none], [.inl (m : Int), .inl (i : Int)], _)) rfl ?_
      refine b_ge (tgt := 106) okX3_passDays rfl rfl ⟨by omega, by omega⟩ ⟨by omega, by omega⟩ (fun h6 => absurd h6 (by omega)) (fun h6 => ?_)
      refine aGo okX3_passDays 10 (f' := (24, [some (.inr 32), some (.inl (m : Int)), some (.inl 0), some (.inl (i : Int)), some (.inl 0), none], [], [A0, (moSeg 32 k f c n (dayIt p (hasL sh nt) n i kp) l nt w sh (p : Int) t ((d + (i : Int)) + 1) wa), B, A3, B4, A5, C6])) rfl ?_
      refine b_lose (ls' := [some (.inr 32), some (.inl (m : Int)), some (.inl 0), some (.inl (i : Int)), some (.inl 0), none]) (fun _ _ z => z) ?_
      exact lq p 0 (by omega)
  refine aGo okX3_passDays 4 (f' := (4, [some (.inr 32), some (.inl (m : Int)), some (.inl 0), some (.inl 0), none, none], [], _)) rfl ?_
  refine b_cast (f' := (4, [some (.inr 32), some (.inl (m : Int)), some (.inl 0), some (.inl 0), none, none], [], [A0, (moSeg 32 k f c n kp l nt w sh (p : Int) t (d + ((0 : Nat) : Int)) wa), B, A3, B4, A5, C6])) (by rw [show d + ((0 : Nat) : Int) = d by omega]) ?_
  exact lp m 0 (by omega)
set_option maxHeartbeats 4000000 in
theorem c_allOf_2_n (hp : p ≤ 7) (hl : n.length = 7) : aEv mX3_allOf 1 0 0 N [.inr 64, .inr 71] [A0, B, (moSeg 64 k f c n kp l nt w sh (p : Int) t d wa), A3, B4, A5, C6] ((aQx (some (.inl (sumN p (fun q => n.getD q 0)))) [A0, B, (moSeg 64 k f c n kp l nt w sh (p : Int) t d wa), A3, B4, A5, C6])) := by
  refine aEv_of okX3_allOf caX3_allOf (Nat.le_of_ble_eq_true rfl) ?_
  have lp : ∀ (j i : Nat), i + j = p → AW mX3_allOf 1 0 0 N none (aQx (some (.inl (sumN p (fun q => n.getD q 0)))) [A0, B, (moSeg 64 k f c n kp l nt w sh (p : Int) t d wa), A3, B4, A5, C6]) (4, [some (.inr 64), some (.inr 71), some (.inl (sumN i (fun q => n.getD q 0))), some (.inl (i : Int))], [], [A0, B, (moSeg 64 k f c n kp l nt w sh (p : Int) t d wa), A3, B4, A5, C6]) := by
    intro j
    induction j with
    | zero =>
      intro i  hij 
      obtain rfl : p = i := by omega
      refine aGo okX3_allOf 3 (f' := (9, [some (.inr 64), some (.inr 71), some (.inl (sumN p (fun q => n.getD q 0))), some (.inl (p : Int))], [.inl (p : Int), .inl (p : Int)], _)) rfl ?_
      refine b_ge (tgt := 26) okX3_allOf rfl rfl ⟨by omega, by omega⟩ ⟨by omega, by omega⟩ (fun h9 => ?_) (fun h9 => absurd h9 (by omega))
      refine aGo okX3_allOf 1 (f' := (27, [some (.inr 64), some (.inr 71), some (.inl (sumN p (fun q => n.getD q 0))), some (.inl (p : Int))], [.inl (sumN p (fun q => n.getD q 0))], _)) rfl ?_
      exact b_ret (v := (some (.inl (sumN p (fun q => n.getD q 0))))) ⟨rfl, Or.inl rfl⟩ ⟨rfl, rfl⟩ rfl
    | succ j ih =>
      intro i  hij 
      refine aGo okX3_allOf 3 (f' := (9, [some (.inr 64), some (.inr 71), some (.inl (sumN i (fun q => n.getD q 0))), some (.inl (i : Int))], [.inl (p : Int), .inl (i : Int)], _)) rfl ?_
      refine b_ge (tgt := 26) okX3_allOf rfl rfl ⟨by omega, by omega⟩ ⟨by omega, by omega⟩ (fun h9 => absurd h9 (by omega)) (fun h9 => ?_)
      refine aGo okX3_allOf 3 (f' := (15, [some (.inr 64), some (.inr 71), some (.inl (sumN i (fun q => n.getD q 0))), some (.inl (i : Int))], [.inl (i : Int), .inr 71, .inl (sumN i (fun q => n.getD q 0))], _)) rfl ?_
      refine b_vV (as := [.inl (i : Int)]) (rest := [.inl (sumN i (fun q => n.getD q 0))]) (k := 71) (.inl (n.getD i 0)) okX3_allOf rfl lkX3_65 caX4_at (Nat.le_of_ble_eq_true rfl) rfl (Nat.le_of_ble_eq_true rfl) rfl rfl rfl (c_at (i := i) rfl rfl (by first | omega | (simp only [List.length_set]; omega)) (by omega)) ?_
      refine aGo okX3_allOf 4 (f' := (4, [some (.inr 64), some (.inr 71), some (.inl ((sumN i (fun q => n.getD q 0)) + (n.getD i 0))), some (.inl ((i : Int) + 1))], [], _)) rfl ?_
      exact ih (i + 1) (by omega)
  refine aGo okX3_allOf 4 (f' := (4, [some (.inr 64), some (.inr 71), some (.inl 0), some (.inl 0)], [], _)) rfl ?_
  exact lp p 0 (by omega)
set_option maxHeartbeats 4000000 in
theorem c_allNeeds_2 (hp : p ≤ 7) (hl : n.length = 7) : aEv mX3_allNeeds 2 0 0 N [.inr 64] [A0, B, (moSeg 64 k f c n kp l nt w sh (p : Int) t d wa), A3, B4, A5, C6] (aQx (some (.inl (sumN p (fun q => n.getD q 0)))) [A0, B, (moSeg 64 k f c n kp l nt w sh (p : Int) t d wa), A3, B4, A5, C6]) := by
  refine aEv_of okX3_allNeeds caX3_allNeeds (Nat.le_of_ble_eq_true rfl) ?_
  refine aGo okX3_allNeeds 3 (f' := (5, [some (.inr 64)], [.inr 71, .inr 64], _)) rfl ?_
  refine b_vV (as := [.inr 71]) (rest := []) (k := 64) (.inl (sumN p (fun q => n.getD q 0))) okX3_allNeeds rfl lkX3_73 caX3_allOf (Nat.le_of_ble_eq_true rfl) rfl (Nat.le_of_ble_eq_true rfl) rfl rfl rfl (c_allOf_2_n hp hl) ?_
  exact b_ret (v := (some (.inl (sumN p (fun q => n.getD q 0))))) ⟨rfl, Or.inl rfl⟩ ⟨rfl, rfl⟩ rfl
set_option maxHeartbeats 4000000 in
theorem c_allOf_2_kp (hp : p ≤ 7) (hl : kp.length = 7) : aEv mX3_allOf 1 0 0 N [.inr 64, .inr 73] [A0, B, (moSeg 64 k f c n kp l nt w sh (p : Int) t d wa), A3, B4, A5, C6] ((aQx (some (.inl (sumN p (fun q => kp.getD q 0)))) [A0, B, (moSeg 64 k f c n kp l nt w sh (p : Int) t d wa), A3, B4, A5, C6])) := by
  refine aEv_of okX3_allOf caX3_allOf (Nat.le_of_ble_eq_true rfl) ?_
  have lp : ∀ (j i : Nat), i + j = p → AW mX3_allOf 1 0 0 N none (aQx (some (.inl (sumN p (fun q => kp.getD q 0)))) [A0, B, (moSeg 64 k f c n kp l nt w sh (p : Int) t d wa), A3, B4, A5, C6]) (4, [some (.inr 64), some (.inr 73), some (.inl (sumN i (fun q => kp.getD q 0))), some (.inl (i : Int))], [], [A0, B, (moSeg 64 k f c n kp l nt w sh (p : Int) t d wa), A3, B4, A5, C6]) := by
    intro j
    induction j with
    | zero =>
      intro i  hij 
      obtain rfl : p = i := by omega
      refine aGo okX3_allOf 3 (f' := (9, [some (.inr 64), some (.inr 73), some (.inl (sumN p (fun q => kp.getD q 0))), some (.inl (p : Int))], [.inl (p : Int), .inl (p : Int)], _)) rfl ?_
      refine b_ge (tgt := 26) okX3_allOf rfl rfl ⟨by omega, by omega⟩ ⟨by omega, by omega⟩ (fun h9 => ?_) (fun h9 => absurd h9 (by omega))
      refine aGo okX3_allOf 1 (f' := (27, [some (.inr 64), some (.inr 73), some (.inl (sumN p (fun q => kp.getD q 0))), some (.inl (p : Int))], [.inl (sumN p (fun q => kp.getD q 0))], _)) rfl ?_
      exact b_ret (v := (some (.inl (sumN p (fun q => kp.getD q 0))))) ⟨rfl, Or.inl rfl⟩ ⟨rfl, rfl⟩ rfl
    | succ j ih =>
      intro i  hij 
      refine aGo okX3_allOf 3 (f' := (9, [some (.inr 64), some (.inr 73), some (.inl (sumN i (fun q => kp.getD q 0))), some (.inl (i : Int))], [.inl (p : Int), .inl (i : Int)], _)) rfl ?_
      refine b_ge (tgt := 26) okX3_allOf rfl rfl ⟨by omega, by omega⟩ ⟨by omega, by omega⟩ (fun h9 => absurd h9 (by omega)) (fun h9 => ?_)
      refine aGo okX3_allOf 3 (f' := (15, [some (.inr 64), some (.inr 73), some (.inl (sumN i (fun q => kp.getD q 0))), some (.inl (i : Int))], [.inl (i : Int), .inr 73, .inl (sumN i (fun q => kp.getD q 0))], _)) rfl ?_
      refine b_vV (as := [.inl (i : Int)]) (rest := [.inl (sumN i (fun q => kp.getD q 0))]) (k := 73) (.inl (kp.getD i 0)) okX3_allOf rfl lkX3_65 caX4_at (Nat.le_of_ble_eq_true rfl) rfl (Nat.le_of_ble_eq_true rfl) rfl rfl rfl (c_at (i := i) rfl rfl (by first | omega | (simp only [List.length_set]; omega)) (by omega)) ?_
      refine aGo okX3_allOf 4 (f' := (4, [some (.inr 64), some (.inr 73), some (.inl ((sumN i (fun q => kp.getD q 0)) + (kp.getD i 0))), some (.inl ((i : Int) + 1))], [], _)) rfl ?_
      exact ih (i + 1) (by omega)
  refine aGo okX3_allOf 4 (f' := (4, [some (.inr 64), some (.inr 73), some (.inl 0), some (.inl 0)], [], _)) rfl ?_
  exact lp p 0 (by omega)
set_option maxHeartbeats 4000000 in
theorem c_allKept_2 (hp : p ≤ 7) (hl : kp.length = 7) : aEv mX3_allKept 2 0 0 N [.inr 64] [A0, B, (moSeg 64 k f c n kp l nt w sh (p : Int) t d wa), A3, B4, A5, C6] (aQx (some (.inl (sumN p (fun q => kp.getD q 0)))) [A0, B, (moSeg 64 k f c n kp l nt w sh (p : Int) t d wa), A3, B4, A5, C6]) := by
  refine aEv_of okX3_allKept caX3_allKept (Nat.le_of_ble_eq_true rfl) ?_
  refine aGo okX3_allKept 3 (f' := (5, [some (.inr 64)], [.inr 73, .inr 64], _)) rfl ?_
  refine b_vV (as := [.inr 73]) (rest := []) (k := 64) (.inl (sumN p (fun q => kp.getD q 0))) okX3_allKept rfl lkX3_73 caX3_allOf (Nat.le_of_ble_eq_true rfl) rfl (Nat.le_of_ble_eq_true rfl) rfl rfl rfl (c_allOf_2_kp hp hl) ?_
  exact b_ret (v := (some (.inl (sumN p (fun q => kp.getD q 0))))) ⟨rfl, Or.inl rfl⟩ ⟨rfl, rfl⟩ rfl
set_option maxHeartbeats 4000000 in
theorem c_contentBits_2 (hp : p ≤ 7) (hn0 : n.length = 7) (hs0 : sh.length = 7) (ht0 : nt.length = 7) (hn : rng n 99) (h2 : ∀ q, q < p → -10000 ≤ sh.getD q 0 - nt.getD q 0 ∧ sh.getD q 0 - nt.getD q 0 ≤ 10000) : aEv mX3_contentBits 2 0 0 N [.inr 64] [A0, B, (moSeg 64 k f c n kp l nt w sh (p : Int) t d wa), A3, B4, A5, C6] ((aQx (some (.inl (bitsN p (fun q => decide (n.getD q 0 ≤ sh.getD q 0 - nt.getD q 0))))) [A0, B, (moSeg 64 k f c n kp l nt w sh (p : Int) t d wa), A3, B4, A5, C6])) := by
  refine aEv_of okX3_contentBits caX3_contentBits (Nat.le_of_ble_eq_true rfl) ?_
  have lp : ∀ (j i : Nat), i + j = p → AW mX3_contentBits 2 0 0 N none (aQx (some (.inl (bitsN p (fun q => decide (n.getD q 0 ≤ sh.getD q 0 - nt.getD q 0))))) [A0, B, (moSeg 64 k f c n kp l nt w sh (p : Int) t d wa), A3, B4, A5, C6]) (4, [some (.inr 64), some (.inl (bitsN i (fun q => decide (n.getD q 0 ≤ sh.getD q 0 - nt.getD q 0)))), some (.inl (i : Int))], [], [A0, B, (moSeg 64 k f c n kp l nt w sh (p : Int) t d wa), A3, B4, A5, C6]) := by
    intro j
    induction j with
    | zero =>
      intro i  hij 
      obtain rfl : p = i := by omega
      refine aGo okX3_contentBits 3 (f' := (9, [some (.inr 64), some (.inl (bitsN p (fun q => decide (n.getD q 0 ≤ sh.getD q 0 - nt.getD q 0)))), some (.inl (p : Int))], [.inl (p : Int), .inl (p : Int)], _)) rfl ?_
      refine b_ge (tgt := 40) okX3_contentBits rfl rfl ⟨by omega, by omega⟩ ⟨by omega, by omega⟩ (fun h9 => ?_) (fun h9 => absurd h9 (by omega))
      refine aGo okX3_contentBits 1 (f' := (41, [some (.inr 64), some (.inl (bitsN p (fun q => decide (n.getD q 0 ≤ sh.getD q 0 - nt.getD q 0)))), some (.inl (p : Int))], [.inl (bitsN p (fun q => decide (n.getD q 0 ≤ sh.getD q 0 - nt.getD q 0)))], _)) rfl ?_
      exact b_ret (v := (some (.inl (bitsN p (fun q => decide (n.getD q 0 ≤ sh.getD q 0 - nt.getD q 0)))))) ⟨rfl, Or.inl rfl⟩ ⟨rfl, rfl⟩ rfl
    | succ j ih =>
      intro i  hij 
      have q1 := hn i
      have q2 := h2 i (by omega)
      refine aGo okX3_contentBits 3 (f' := (9, [some (.inr 64), some (.inl (bitsN i (fun q => decide (n.getD q 0 ≤ sh.getD q 0 - nt.getD q 0)))), some (.inl (i : Int))], [.inl (p : Int), .inl (i : Int)], _)) rfl ?_
      refine b_ge (tgt := 40) okX3_contentBits rfl rfl ⟨by omega, by omega⟩ ⟨by omega, by omega⟩ (fun h9 => absurd h9 (by omega)) (fun h9 => ?_)
      refine aGo okX3_contentBits 2 (f' := (14, [some (.inr 64), some (.inl (bitsN i (fun q => decide (n.getD q 0 ≤ sh.getD q 0 - nt.getD q 0)))), some (.inl (i : Int))], [.inl (i : Int), .inr 64], _)) rfl ?_
      refine b_vV (as := [.inl (i : Int)]) (rest := []) (k := 64) (.inl ((sh.getD i 0) - (nt.getD i 0))) okX3_contentBits rfl lkX3_77 caX3_hasOf (Nat.le_of_ble_eq_true rfl) rfl (Nat.le_of_ble_eq_true rfl) rfl rfl rfl (c_hasOf_2 (i := i) (by first | omega | (simp only [List.length_set]; omega)) (by first | omega | (simp only [List.length_set]; omega)) (by omega)) ?_
      refine aGo okX3_contentBits 3 (f' := (22, [some (.inr 64), some (.inl (bitsN i (fun q => decide (n.getD q 0 ≤ sh.getD q 0 - nt.getD q 0)))), some (.inl (i : Int))], [.inl (i : Int), .inr 71, .inl ((sh.getD i 0) - (nt.getD i 0))], _)) rfl ?_
      refine b_vV (as := [.inl (i : Int)]) (rest := [.inl ((sh.getD i 0) - (nt.getD i 0))]) (k := 71) (.inl (n.getD i 0)) okX3_contentBits rfl lkX3_65 caX4_at (Nat.le_of_ble_eq_true rfl) rfl (Nat.le_of_ble_eq_true rfl) rfl rfl rfl (c_at (i := i) rfl rfl (by first | omega | (simp only [List.length_set]; omega)) (by omega)) ?_
      refine b_lt (tgt := 34) okX3_contentBits rfl rfl ⟨by omega, by omega⟩ ⟨by omega, by omega⟩ (fun h25 => ?_) (fun h25 => ?_)
      · refine aGo okX3_contentBits 2 (f' := (4, [some (.inr 64), some (.inl (bitsN i (fun q => decide (n.getD q 0 ≤ sh.getD q 0 - nt.getD q 0)))), some (.inl ((i : Int) + 1))], [], _)) rfl ?_
        refine b_cast (f' := (4, [some (.inr 64), some (.inl (bitsN (i + 1) (fun q => decide (n.getD q 0 ≤ sh.getD q 0 - nt.getD q 0)))), some (.inl ((i : Int) + 1))], [], [A0, B, (moSeg 64 k f c n kp l nt w sh (p : Int) t d wa), A3, B4, A5, C6])) (by rw [bitsN_f (P := (fun q => decide (n.getD q 0 ≤ sh.getD q 0 - nt.getD q 0))) (i := i) (decide_eq_false (by omega))]) ?_
        exact ih (i + 1) (by omega)
      · refine aGo okX3_contentBits 8 (f' := (4, [some (.inr 64), some (.inl (aOr (bitsN i (fun q => decide (n.getD q 0 ≤ sh.getD q 0 - nt.getD q 0))) (aShl 1 (i : Int)))), some (.inl ((i : Int) + 1))], [], _)) rfl ?_
        refine b_cast (f' := (4, [some (.inr 64), some (.inl (bitsN (i + 1) (fun q => decide (n.getD q 0 ≤ sh.getD q 0 - nt.getD q 0)))), some (.inl ((i : Int) + 1))], [], [A0, B, (moSeg 64 k f c n kp l nt w sh (p : Int) t d wa), A3, B4, A5, C6])) (by rw [bitsN_t (P := (fun q => decide (n.getD q 0 ≤ sh.getD q 0 - nt.getD q 0))) (i := i) (decide_eq_true (by omega))]) ?_
        exact ih (i + 1) (by omega)
  refine aGo okX3_contentBits 4 (f' := (4, [some (.inr 64), some (.inl 0), some (.inl 0)], [], _)) rfl ?_
  exact lp p 0 (by omega)
set_option maxHeartbeats 4000000 in
theorem c_passDays_2 {m : Nat} (hp : p ≤ 7) (hm : m ≤ 1000) (hkp : kp.length = 7) (hn0 : n.length = 7) (hs0 : sh.length = 7) (ht0 : nt.length = 7) (rkp : rng kp 9999) (hn : rng n 99) (h2 : ∀ q, q < p → -10000 ≤ sh.getD q 0 - nt.getD q 0 ∧ sh.getD q 0 - nt.getD q 0 ≤ 10000) : aEv mX3_passDays 2 0 0 N [.inr 64, .inl (m : Int)] [A0, B, (moSeg 64 k f c n kp l nt w sh (p : Int) t d wa), A3, B4, A5, C6] ((aQx (some (.inl (dayB p (hasL sh nt) n kp m))) [A0, B, (moSeg 64 k f c n (dayIt p (hasL sh nt) n m kp) l nt w sh (p : Int) t (d + (m : Int)) wa), A3, B4, A5, C6])) := by
  have hV : ∀ i q, q < p → -30000 ≤ dayV (dayIt p (hasL sh nt) n i kp) (hasL sh nt) n q ∧ dayV (dayIt p (hasL sh nt) n i kp) (hasL sh nt) n q ≤ 30000 := fun i q hq => by have r1 := dayIt_rng (p := p) (has := (hasL sh nt)) (n := n) (m := i) rkp q; have r2 := hn q; have r3 := h2 q hq; unfold dayV hasL; unfold hasL at r1; omega
  refine aEv_of okX3_passDays caX3_passDays (Nat.le_of_ble_eq_true rfl) ?_
  have lp : ∀ (j i : Nat), i + j = m → AW mX3_passDays 2 0 0 N none (aQx (some (.inl (dayB p (hasL sh nt) n kp m))) [A0, B, (moSeg 64 k f c n (dayIt p (hasL sh nt) n m kp) l nt w sh (p : Int) t (d + (m : Int)) wa), A3, B4, A5, C6]) (4, [some (.inr 64), some (.inl (m : Int)), some (.inl (dayB p (hasL sh nt) n kp i)), some (.inl (i : Int)), none, none], [], [A0, B, (moSeg 64 k f c n (dayIt p (hasL sh nt) n i kp) l nt w sh (p : Int) t (d + (i : Int)) wa), A3, B4, A5, C6]) := by
    intro j
    induction j with
    | zero =>
      intro i  hij 
      obtain rfl : m = i := by omega
      refine aGo okX3_passDays 2 (f' := (6, [some (.inr 64), some (.inl (m : Int)), some (.inl (dayB p (hasL sh nt) n kp m)), some (.inl (m : Int)), none, none], [.inl (m : Int), .inl (m : Int)], _)) rfl ?_
      refine b_ge (tgt := 106) okX3_passDays rfl rfl ⟨by omega, by omega⟩ ⟨by omega, by omega⟩ (fun h6 => ?_) (fun h6 => absurd h6 (by omega))
      refine aGo okX3_passDays 1 (f' := (107, [some (.inr 64), some (.inl (m : Int)), some (.inl (dayB p (hasL sh nt) n kp m)), some (.inl (m : Int)), none, none], [.inl (dayB p (hasL sh nt) n kp m)], _)) rfl ?_
      exact b_ret (v := (some (.inl (dayB p (hasL sh nt) n kp m)))) ⟨rfl, Or.inl rfl⟩ ⟨rfl, rfl⟩ rfl
    | succ j ih =>
      intro i  hij 
      have lq : ∀ (j2 q : Nat), q + j2 = p → AW mX3_passDays 2 0 0 N none (aQx (some (.inl (dayB p (hasL sh nt) n kp m))) [A0, B, (moSeg 64 k f c n (dayIt p (hasL sh nt) n m kp) l nt w sh (p : Int) t (d + (m : Int)) wa), A3, B4, A5, C6]) (24, [some (.inr 64), some (.inl (m : Int)), some (.inl (bitsN q (fun q => decide (dayV (dayIt p (hasL sh nt) n i kp) (hasL sh nt) n q < 0)))), some (.inl (i : Int)), some (.inl (q : Int)), none], [], [A0, B, (moSeg 64 k f c n (dayL q (dayIt p (hasL sh nt) n i kp) (hasL sh nt) n) l nt w sh (p : Int) t ((d + (i : Int)) + 1) wa), A3, B4, A5, C6]) := by
        intro j2
        induction j2 with
        | zero =>
          intro q  hij2 
          obtain rfl : p = q := by omega
          refine aGo okX3_passDays 3 (f' := (30, [some (.inr 64), some (.inl (m : Int)), some (.inl (bitsN p (fun q => decide (dayV (dayIt p (hasL sh nt) n i kp) (hasL sh nt) n q < 0)))), some (.inl (i : Int)), some (.inl (p : Int)), none], [.inl (p : Int), .inl (p : Int)], _)) rfl ?_
          refine b_ge (tgt := 100) okX3_passDays rfl rfl ⟨by omega, by omega⟩ ⟨by omega, by omega⟩ (fun h30 => ?_) (fun h30 => absurd h30 (by omega))
          refine aGo okX3_passDays 2 (f' := (4, [some (.inr 64), some (.inl (m : Int)), some (.inl (bitsN p (fun q => decide (dayV (dayIt p (hasL sh nt) n i kp) (hasL sh nt) n q < 0)))), some (.inl ((i : Int) + 1)), some (.inl (p : Int)), none], [], _)) rfl ?_
          refine b_cast (f' := (4, [some (.inr 64), some (.inl (m : Int)), some (.inl (bitsN p (fun q => decide (dayV (dayIt p (hasL sh nt) n i kp) (hasL sh nt) n q < 0)))), some (.inl ((i : Int) + 1)), some (.inl (p : Int)), none], [], [A0, B, (moSeg 64 k f c n (dayL p (dayIt p (hasL sh nt) n i kp) (hasL sh nt) n) l nt w sh (p : Int) t (d + (((i + 1) : Nat) : Int)) wa), A3, B4, A5, C6])) (by rw [show d + (i : Int) + 1 = d + ((i + 1 : Nat) : Int) by omega]) ?_
          refine b_lose (ls' := [some (.inr 64), some (.inl (m : Int)), some (.inl (bitsN p (fun q => decide (dayV (dayIt p (hasL sh nt) n i kp) (hasL sh nt) n q < 0)))), some (.inl ((i : Int) + 1)), none, none]) (lose4 _ _ _ _ _) ?_
          exact ih (i + 1) (by omega)
        | succ j2 ih2 =>
          intro q  hij2 
          have e0 : (dayL q (dayIt p (hasL sh nt) n i kp) (hasL sh nt) n).length = 7 := by rw [dayL_len, dayIt_len]; exact hkp
          refine aGo okX3_passDays 3 (f' := (30, [some (.inr 64), some (.inl (m : Int)), some (.inl (bitsN q (fun q => decide (dayV (dayIt p (hasL sh nt) n i kp) (hasL sh nt) n q < 0)))), some (.inl (i : Int)), some (.inl (q : Int)), none], [.inl (p : Int), .inl (q : Int)], _)) rfl ?_
          refine b_ge (tgt := 100) okX3_passDays rfl rfl ⟨by omega, by omega⟩ ⟨by omega, by omega⟩ (fun h30 => absurd h30 (by omega)) (fun h30 => ?_)
          refine aGo okX3_passDays 3 (f' := (39, [some (.inr 64), some (.inl (m : Int)), some (.inl (bitsN q (fun q => decide (dayV (dayIt p (hasL sh nt) n i kp) (hasL sh nt) n q < 0)))), some (.inl (i : Int)), some (.inl (q : Int)), none], [.inl (q : Int), .inr 73], _)) rfl ?_
          refine b_vV (as := [.inl (q : Int)]) (rest := []) (k := 73) (.inl ((dayL q (dayIt p (hasL sh nt) n i kp) (hasL sh nt) n).getD q 0)) okX3_passDays rfl lkX3_65 caX4_at (Nat.le_of_ble_eq_true rfl) rfl (Nat.le_of_ble_eq_true rfl) rfl rfl rfl (c_at (i := q) rfl rfl (by first | omega | (simp only [List.length_set]; omega)) (by omega)) ?_
          refine b_cast (f' := (42, [some (.inr 64), some (.inl (m : Int)), some (.inl (bitsN q (fun q => decide (dayV (dayIt p (hasL sh nt) n i kp) (hasL sh nt) n q < 0)))), some (.inl (i : Int)), some (.inl (q : Int)), none], [.inl ((dayIt p (hasL sh nt) n i kp).getD q 0)], [A0, B, (moSeg 64 k f c n (dayL q (dayIt p (hasL sh nt) n i kp) (hasL sh nt) n) l nt w sh (p : Int) t ((d + (i : Int)) + 1) wa), A3, B4, A5, C6])) (by rw [dayL_at (Nat.le_refl q)]) ?_
          refine aGo okX3_passDays 2 (f' := (45, [some (.inr 64), some (.inl (m : Int)), some (.inl (bitsN q (fun q => decide (dayV (dayIt p (hasL sh nt) n i kp) (hasL sh nt) n q < 0)))), some (.inl (i : Int)), some (.inl (q : Int)), none], [.inl (q : Int), .inr 64, .inl ((dayIt p (hasL sh nt) n i kp).getD q 0)], _)) rfl ?_
          refine b_vV (as := [.inl (q : Int)]) (rest := [.inl ((dayIt p (hasL sh nt) n i kp).getD q 0)]) (k := 64) (.inl ((sh.getD q 0) - (nt.getD q 0))) okX3_passDays rfl lkX3_77 caX3_hasOf (Nat.le_of_ble_eq_true rfl) rfl (Nat.le_of_ble_eq_true rfl) rfl rfl rfl (c_hasOf_2 (i := q) (by first | omega | (simp only [List.length_set]; omega)) (by first | omega | (simp only [List.length_set]; omega)) (by omega)) ?_
          refine aGo okX3_passDays 4 (f' := (55, [some (.inr 64), some (.inl (m : Int)), some (.inl (bitsN q (fun q => decide (dayV (dayIt p (hasL sh nt) n i kp) (hasL sh nt) n q < 0)))), some (.inl (i : Int)), some (.inl (q : Int)), none], [.inl (q : Int), .inr 71, .inl (((dayIt p (hasL sh nt) n i kp).getD q 0) + ((sh.getD q 0) - (nt.getD q 0)))], _)) rfl ?_
          refine b_vV (as := [.inl (q : Int)]) (rest := [.inl (((dayIt p (hasL sh nt) n i kp).getD q 0) + ((sh.getD q 0) - (nt.getD q 0)))]) (k := 71) (.inl (n.getD q 0)) okX3_passDays rfl lkX3_65 caX4_at (Nat.le_of_ble_eq_true rfl) rfl (Nat.le_of_ble_eq_true rfl) rfl rfl rfl (c_at (i := q) rfl rfl (by first | omega | (simp only [List.length_set]; omega)) (by omega)) ?_
          refine aGo okX3_passDays 2 (f' := (61, [some (.inr 64), some (.inl (m : Int)), some (.inl (bitsN q (fun q => decide (dayV (dayIt p (hasL sh nt) n i kp) (hasL sh nt) n q < 0)))), some (.inl (i : Int)), some (.inl (q : Int)), some (.inl ((((dayIt p (hasL sh nt) n i kp).getD q 0) + ((sh.getD q 0) - (nt.getD q 0))) - (n.getD q 0)))], [], _)) rfl ?_
          refine b_cast (f' := (61, [some (.inr 64), some (.inl (m : Int)), some (.inl (bitsN q (fun q => decide (dayV (dayIt p (hasL sh nt) n i kp) (hasL sh nt) n q < 0)))), some (.inl (i : Int)), some (.inl (q : Int)), some (.inl (dayV (dayIt p (hasL sh nt) n i kp) (hasL sh nt) n q))], [], [A0, B, (moSeg 64 k f c n (dayL q (dayIt p (hasL sh nt) n i kp) (hasL sh nt) n) l nt w sh (p : Int) t ((d + (i : Int)) + 1) wa), A3, B4, A5, C6])) (rfl) ?_
          have hv0 := hV i q (by omega)
          refine aGo okX3_passDays 1 (f' := (63, [some (.inr 64), some (.inl (m : Int)), some (.inl (bitsN q (fun q => decide (dayV (dayIt p (hasL sh nt) n i kp) (hasL sh nt) n q < 0)))), some (.inl (i : Int)), some (.inl (q : Int)), some (.inl (dayV (dayIt p (hasL sh nt) n i kp) (hasL sh nt) n q))], [.inl (dayV (dayIt p (hasL sh nt) n i kp) (hasL sh nt) n q)], _)) rfl ?_
          refine b0_ge (tgt := 73) okX3_passDays rfl rfl ⟨by omega, by omega⟩ (fun h63 => ?_) (fun h63 => ?_)
          · refine aGo okX3_passDays 6 (f' := (85, [some (.inr 64), some (.inl (m : Int)), some (.inl (bitsN q (fun q => decide (dayV (dayIt p (hasL sh nt) n i kp) (hasL sh nt) n q < 0)))), some (.inl (i : Int)), some (.inl (q : Int)), some (.inl (dayV (dayIt p (hasL sh nt) n i kp) (hasL sh nt) n q))], [.inl 9999, .inl (dayV (dayIt p (hasL sh nt) n i kp) (hasL sh nt) n q), .inl 0, .inl (q : Int), .inr 73], _)) rfl ?_
            refine b_min okX3_passDays rfl lkX3_112 ma_min_s ma_min_c (Nat.le_of_ble_eq_true rfl) (Nat.le_of_ble_eq_true rfl) ⟨by omega, by omega⟩ ⟨by omega, by omega⟩ ?_
            refine b_max okX3_passDays rfl lkX3_86 ma_max_s ma_max_c (Nat.le_of_ble_eq_true rfl) (Nat.le_of_ble_eq_true rfl) ⟨by omega, by omega⟩ ⟨by omega, by omega⟩ ?_
            refine b_vN (as := [.inl (q : Int), .inl (max 0 (min (dayV (dayIt p (hasL sh nt) n i kp) (hasL sh nt) n q) 9999))]) (rest := []) (k := 73) okX3_passDays rfl lkX3_98 caX4_put (Nat.le_of_ble_eq_true rfl) rfl (Nat.le_of_ble_eq_true rfl) rfl rfl rfl (c_put (i := q) rfl rfl (by first | omega | (simp only [List.length_set]; omega)) (by first | omega | (simp only [List.length_set]; omega)) (max 0 (min (dayV (dayIt p (hasL sh nt) n i kp) (hasL sh nt) n q) 9999))) ?_
            refine b_cast (f' := (94, [some (.inr 64), some (.inl (m : Int)), some (.inl (bitsN q (fun q => decide (dayV (dayIt p (hasL sh nt) n i kp) (hasL sh nt) n q < 0)))), some (.inl (i : Int)), some (.inl (q : Int)), some (.inl (dayV (dayIt p (hasL sh nt) n i kp) (hasL sh nt) n q))], [], [A0, B, (moSeg 64 k f c n ((dayL q (dayIt p (hasL sh nt) n i kp) (hasL sh nt) n).set q (max 0 (min (dayV (dayIt p (hasL sh nt) n i kp) (hasL sh nt) n q) 9999))) l nt w sh (p : Int) t ((d + (i : Int)) + 1) wa), A3, B4, A5, C6])) rfl ?_
            refine aGo okX3_passDays 2 (f' := (24, [some (.inr 64), some (.inl (m : Int)), some (.inl (bitsN q (fun q => decide (dayV (dayIt p (hasL sh nt) n i kp) (hasL sh nt) n q < 0)))), some (.inl (i : Int)), some (.inl ((q : Int) + 1)), some (.inl (dayV (dayIt p (hasL sh nt) n i kp) (hasL sh nt) n q))], [], _)) rfl ?_
            refine b_cast (f' := (24, [some (.inr 64), some (.inl (m : Int)), some (.inl (bitsN (q + 1) (fun q => decide (dayV (dayIt p (hasL sh nt) n i kp) (hasL sh nt) n q < 0)))), some (.inl (i : Int)), some (.inl ((q : Int) + 1)), some (.inl (dayV (dayIt p (hasL sh nt) n i kp) (hasL sh nt) n q))], [], [A0, B, (moSeg 64 k f c n ((dayL q (dayIt p (hasL sh nt) n i kp) (hasL sh nt) n).set q (max 0 (min (dayV (dayIt p (hasL sh nt) n i kp) (hasL sh nt) n q) 9999))) l nt w sh (p : Int) t ((d + (i : Int)) + 1) wa), A3, B4, A5, C6])) (by rw [bitsN_f (P := (fun q => decide (dayV (dayIt p (hasL sh nt) n i kp) (hasL sh nt) n q < 0))) (i := q) (decide_eq_false (by omega))]) ?_
            refine b_lose (ls' := [some (.inr 64), some (.inl (m : Int)), some (.inl (bitsN (q + 1) (fun q => decide (dayV (dayIt p (hasL sh nt) n i kp) (hasL sh nt) n q < 0)))), some (.inl (i : Int)), some (.inl ((q : Int) + 1)), none]) (lose5 _ _ _ _ _ _) ?_
            exact ih2 (q + 1) (by omega)
          · refine aGo okX3_passDays 12 (f' := (85, [some (.inr 64), some (.inl (m : Int)), some (.inl (aOr (bitsN q (fun q => decide (dayV (dayIt p (hasL sh nt) n i kp) (hasL sh nt) n q < 0))) (aShl 1 (q : Int)))), some (.inl (i : Int)), some (.inl (q : Int)), some (.inl (dayV (dayIt p (hasL sh nt) n i kp) (hasL sh nt) n q))], [.inl 9999, .inl (dayV (dayIt p (hasL sh nt) n i kp) (hasL sh nt) n q), .inl 0, .inl (q : Int), .inr 73], _)) rfl ?_
            refine b_min okX3_passDays rfl lkX3_112 ma_min_s ma_min_c (Nat.le_of_ble_eq_true rfl) (Nat.le_of_ble_eq_true rfl) ⟨by omega, by omega⟩ ⟨by omega, by omega⟩ ?_
            refine b_max okX3_passDays rfl lkX3_86 ma_max_s ma_max_c (Nat.le_of_ble_eq_true rfl) (Nat.le_of_ble_eq_true rfl) ⟨by omega, by omega⟩ ⟨by omega, by omega⟩ ?_
            refine b_vN (as := [.inl (q : Int), .inl (max 0 (min (dayV (dayIt p (hasL sh nt) n i kp) (hasL sh nt) n q) 9999))]) (rest := []) (k := 73) okX3_passDays rfl lkX3_98 caX4_put (Nat.le_of_ble_eq_true rfl) rfl (Nat.le_of_ble_eq_true rfl) rfl rfl rfl (c_put (i := q) rfl rfl (by first | omega | (simp only [List.length_set]; omega)) (by first | omega | (simp only [List.length_set]; omega)) (max 0 (min (dayV (dayIt p (hasL sh nt) n i kp) (hasL sh nt) n q) 9999))) ?_
            refine b_cast (f' := (94, [some (.inr 64), some (.inl (m : Int)), some (.inl (aOr (bitsN q (fun q => decide (dayV (dayIt p (hasL sh nt) n i kp) (hasL sh nt) n q < 0))) (aShl 1 (q : Int)))), some (.inl (i : Int)), some (.inl (q : Int)), some (.inl (dayV (dayIt p (hasL sh nt) n i kp) (hasL sh nt) n q))], [], [A0, B, (moSeg 64 k f c n ((dayL q (dayIt p (hasL sh nt) n i kp) (hasL sh nt) n).set q (max 0 (min (dayV (dayIt p (hasL sh nt) n i kp) (hasL sh nt) n q) 9999))) l nt w sh (p : Int) t ((d + (i : Int)) + 1) wa), A3, B4, A5, C6])) rfl ?_
            refine aGo okX3_passDays 2 (f' := (24, [some (.inr 64), some (.inl (m : Int)), some (.inl (aOr (bitsN q (fun q => decide (dayV (dayIt p (hasL sh nt) n i kp) (hasL sh nt) n q < 0))) (aShl 1 (q : Int)))), some (.inl (i : Int)), some (.inl ((q : Int) + 1)), some (.inl (dayV (dayIt p (hasL sh nt) n i kp) (hasL sh nt) n q))], [], _)) rfl ?_
            refine b_cast (f' := (24, [some (.inr 64), some (.inl (m : Int)), some (.inl (bitsN (q + 1) (fun q => decide (dayV (dayIt p (hasL sh nt) n i kp) (hasL sh nt) n q < 0)))), some (.inl (i : Int)), some (.inl ((q : Int) + 1)), some (.inl (dayV (dayIt p (hasL sh nt) n i kp) (hasL sh nt) n q))], [], [A0, B, (moSeg 64 k f c n ((dayL q (dayIt p (hasL sh nt) n i kp) (hasL sh nt) n).set q (max 0 (min (dayV (dayIt p (hasL sh nt) n i kp) (hasL sh nt) n q) 9999))) l nt w sh (p : Int) t ((d + (i : Int)) + 1) wa), A3, B4, A5, C6])) (by rw [bitsN_t (P := (fun q => decide (dayV (dayIt p (hasL sh nt) n i kp) (hasL sh nt) n q < 0))) (i := q) (decide_eq_true (by omega))]) ?_
            refine b_lose (ls' := [some (.inr 64), some (.inl (m : Int)), some (.inl (bitsN (q + 1) (fun q => decide (dayV (dayIt p (hasL sh nt) n i kp) (hasL sh nt) n q < 0)))), some (.inl (i : Int)), some (.inl ((q : Int) + 1)), none]) (lose5 _ _ _ _ _ _) ?_
            exact ih2 (q + 1) (by omega)
      refine aGo okX3_passDays 2 (f' := (6, [some (.inr 64), some (.inl (m : Int)), some (.inl (dayB p (hasL sh nt) n kp i)), some (.inl (i : Int)), none, none], [.inl (m : Int), .inl (i : Int)], _)) rfl ?_
      refine b_ge (tgt := 106) okX3_passDays rfl rfl ⟨by omega, by omega⟩ ⟨by omega, by omega⟩ (fun h6 => absurd h6 (by omega)) (fun h6 => ?_)
      refine aGo okX3_passDays 10 (f' := (24, [some (.inr 64), some (.inl (m : Int)), some (.inl 0), some (.inl (i : Int)), some (.inl 0), none], [], [A0, B, (moSeg 64 k f c n (dayIt p (hasL sh nt) n i kp) l nt w sh (p : Int) t ((d + (i : Int)) + 1) wa), A3, B4, A5, C6])) rfl ?_
      refine b_lose (ls' := [some (.inr 64), some (.inl (m : Int)), some (.inl 0), some (.inl (i : Int)), some (.inl 0), none]) (fun _ _ z => z) ?_
      exact lq p 0 (by omega)
  refine aGo okX3_passDays 4 (f' := (4, [some (.inr 64), some (.inl (m : Int)), some (.inl 0), some (.inl 0), none, none], [], _)) rfl ?_
  refine b_cast (f' := (4, [some (.inr 64), some (.inl (m : Int)), some (.inl 0), some (.inl 0), none, none], [], [A0, B, (moSeg 64 k f c n kp l nt w sh (p : Int) t (d + ((0 : Nat) : Int)) wa), A3, B4, A5, C6])) (by rw [show d + ((0 : Nat) : Int) = d by omega]) ?_
  exact lp m 0 (by omega)
end AMP
end
section
theorem lose23 (a0 a1 a2 a3 : Option aV) : ∀ (i : Nat) (v : aV), [a0, a1, none, none][i]? = some (some v) → [a0, a1, a2, a3][i]? = some (some v) := by
  intro i v h
  match i, h with
  | 0, h => exact h
  | 1, h => exact h
  | 2, h => cases h
  | 3, h => cases h
  | i + 4, h => exact h
theorem lose5g (a0 a1 a2 a3 a4 a5 a6 : Option aV) : ∀ (i : Nat) (v : aV), [a0, a1, a2, a3, a4, none, a6][i]? = some (some v) → [a0, a1, a2, a3, a4, a5, a6][i]? = some (some v) := by
  intro i v h
  match i, h with
  | 0, h => exact h
  | 1, h => exact h
  | 2, h => exact h
  | 3, h => exact h
  | 4, h => exact h
  | 5, h => cases h
  | 6, h => exact h
  | i + 7, h => exact h
theorem lose3 (a0 a1 a2 a3 : Option aV) : ∀ (i : Nat) (v : aV), [a0, a1, a2, none][i]? = some (some v) → [a0, a1, a2, a3][i]? = some (some v) := by
  intro i v h
  match i, h with
  | 0, h => exact h
  | 1, h => exact h
  | 2, h => exact h
  | 3, h => cases h
  | i + 4, h => exact h
theorem lose2 (a0 a1 a2 : Option aV) : ∀ (i : Nat) (v : aV), [a0, a1, none][i]? = some (some v) → [a0, a1, a2][i]? = some (some v) := by
  intro i v h
  match i, h with
  | 0, h => exact h
  | 1, h => exact h
  | 2, h => cases h
  | i + 3, h => exact h
/-! Nets, weights, shares, and the changes that bring them up to date; laid by gen_moor3.py -/
section AMQ
variable {A0 B A3 B4 A5 C6 : List (Option aE)} {k f c n kp l nt w sh : List Int} {p : Nat} {t d wa : Int} {N : Nat}
set_option maxHeartbeats 4000000 in
theorem c_netLoans_1 (hp : p ≤ 7) (hnt : nt.length = 7) (hl : l.length = 49) : aEv mX3_netLoans 2 0 0 N [.inr 32] [A0, (moSeg 32 k f c n kp l nt w sh (p : Int) t d wa), B, A3, B4, A5, C6] ((fun rv h => rv = none ∧ ∃ nt2 : List Int, nOK p l nt2 ∧ h = [A0, (moSeg 32 k f c n kp l nt2 w sh (p : Int) t d wa), B, A3, B4, A5, C6])) := by
  refine aEv_of okX3_netLoans caX3_netLoans (Nat.le_of_ble_eq_true rfl) ?_
  have lp : ∀ (j i : Nat) (m : List Int), i + j = p → (m.length = 7) → (∀ q, q < i → m.getD q 0 = net p l q) → AW mX3_netLoans 2 0 0 N none (fun rv h => rv = none ∧ ∃ nt2 : List Int, nOK p l nt2 ∧ h = [A0, (moSeg 32 k f c n kp l nt2 w sh (p : Int) t d wa), B, A3, B4, A5, C6]) (2, [some (.inr 32), some (.inl (i : Int)), none, none], [], [A0, (moSeg 32 k f c n kp l m w sh (p : Int) t d wa), B, A3, B4, A5, C6]) := by
    intro j
    induction j with
    | zero =>
      intro i m hij h1 h2
      obtain rfl : p = i := by omega
      refine aGo okX3_netLoans 3 (f' := (7, [some (.inr 32), some (.inl (p : Int)), none, none], [.inl (p : Int), .inl (p : Int)], _)) rfl ?_
      refine b_ge (tgt := 59) okX3_netLoans rfl rfl ⟨by omega, by omega⟩ ⟨by omega, by omega⟩ (fun h7 => ?_) (fun h7 => absurd h7 (by omega))
      exact b_ret (v := none) ⟨rfl, rfl⟩ ⟨rfl, m, ⟨h1, h2⟩, rfl⟩ rfl
    | succ j ih =>
      intro i m hij h1 h2
      have lq : ∀ (j2 q : Nat), q + j2 = p → AW mX3_netLoans 2 0 0 N none (fun rv h => rv = none ∧ ∃ nt2 : List Int, nOK p l nt2 ∧ h = [A0, (moSeg 32 k f c n kp l nt2 w sh (p : Int) t d wa), B, A3, B4, A5, C6]) (14, [some (.inr 32), some (.inl (i : Int)), some (.inl (sumN q (fun j => l.getD (7 * i + j) 0 - l.getD (7 * j + i) 0))), some (.inl (q : Int))], [], [A0, (moSeg 32 k f c n kp l m w sh (p : Int) t d wa), B, A3, B4, A5, C6]) := by
        intro j2
        induction j2 with
        | zero =>
          intro q  hij2 
          obtain rfl : p = q := by omega
          refine aGo okX3_netLoans 3 (f' := (19, [some (.inr 32), some (.inl (i : Int)), some (.inl (sumN p (fun j => l.getD (7 * i + j) 0 - l.getD (7 * j + i) 0))), some (.inl (p : Int))], [.inl (p : Int), .inl (p : Int)], _)) rfl ?_
          refine b_ge (tgt := 44) okX3_netLoans rfl rfl ⟨by omega, by omega⟩ ⟨by omega, by omega⟩ (fun h19 => ?_) (fun h19 => absurd h19 (by omega))
          refine b_cast (f' := (44, [some (.inr 32), some (.inl (i : Int)), some (.inl (net p l i)), some (.inl (p : Int))], [], [A0, (moSeg 32 k f c n kp l m w sh (p : Int) t d wa), B, A3, B4, A5, C6])) (rfl) ?_
          refine aGo okX3_netLoans 4 (f' := (50, [some (.inr 32), some (.inl (i : Int)), some (.inl (net p l i)), some (.inl (p : Int))], [.inl (net p l i), .inl (i : Int), .inr 45], _)) rfl ?_
          refine b_vN (as := [.inl (i : Int), .inl (net p l i)]) (rest := []) (k := 45) okX3_netLoans rfl lkX3_98 caX4_put (Nat.le_of_ble_eq_true rfl) rfl (Nat.le_of_ble_eq_true rfl) rfl rfl rfl (c_put (i := i) rfl rfl (by first | omega | (simp only [List.length_set]; omega)) (by first | omega | (simp only [List.length_set]; omega)) (net p l i)) ?_
          refine b_cast (f' := (53, [some (.inr 32), some (.inl (i : Int)), some (.inl (net p l i)), some (.inl (p : Int))], [], [A0, (moSeg 32 k f c n kp l (m.set i (net p l i)) w sh (p : Int) t d wa), B, A3, B4, A5, C6])) rfl ?_
          refine aGo okX3_netLoans 2 (f' := (2, [some (.inr 32), some (.inl ((i : Int) + 1)), some (.inl (net p l i)), some (.inl (p : Int))], [], _)) rfl ?_
          refine b_lose (ls' := [some (.inr 32), some (.inl ((i : Int) + 1)), none, none]) (lose23 _ _ _ _) ?_
          exact ih (i + 1) (m.set i (net p l i)) (by omega) (by rw [List.length_set]; exact h1) (set_upto (by omega) rfl h2)
        | succ j2 ih2 =>
          intro q  hij2 
          refine aGo okX3_netLoans 3 (f' := (19, [some (.inr 32), some (.inl (i : Int)), some (.inl (sumN q (fun j => l.getD (7 * i + j) 0 - l.getD (7 * j + i) 0))), some (.inl (q : Int))], [.inl (p : Int), .inl (q : Int)], _)) rfl ?_
          refine b_ge (tgt := 44) okX3_netLoans rfl rfl ⟨by omega, by omega⟩ ⟨by omega, by omega⟩ (fun h19 => absurd h19 (by omega)) (fun h19 => ?_)
          refine aGo okX3_netLoans 4 (f' := (26, [some (.inr 32), some (.inl (i : Int)), some (.inl (sumN q (fun j => l.getD (7 * i + j) 0 - l.getD (7 * j + i) 0))), some (.inl (q : Int))], [.inl (q : Int), .inl (i : Int), .inr 32, .inl (sumN q (fun j => l.getD (7 * i + j) 0 - l.getD (7 * j + i) 0))], _)) rfl ?_
          refine b_vV (as := [.inl (i : Int), .inl (q : Int)]) (rest := [.inl (sumN q (fun j => l.getD (7 * i + j) 0 - l.getD (7 * j + i) 0))]) (k := 32) (.inl (l.getD (7 * i + q) 0)) okX3_netLoans rfl lkX3_80 caX3_lentBy (Nat.le_of_ble_eq_true rfl) rfl (Nat.le_of_ble_eq_true rfl) rfl rfl rfl (c_lentBy_1 (i := i) (j := q) (by first | omega | (simp only [List.length_set]; omega)) (by omega) (by omega)) ?_
          refine aGo okX3_netLoans 3 (f' := (32, [some (.inr 32), some (.inl (i : Int)), some (.inl (sumN q (fun j => l.getD (7 * i + j) 0 - l.getD (7 * j + i) 0))), some (.inl (q : Int))], [.inl (i : Int), .inl (q : Int), .inr 32, .inl (l.getD (7 * i + q) 0), .inl (sumN q (fun j => l.getD (7 * i + j) 0 - l.getD (7 * j + i) 0))], _)) rfl ?_
          refine b_vV (as := [.inl (q : Int), .inl (i : Int)]) (rest := [.inl (l.getD (7 * i + q) 0), .inl (sumN q (fun j => l.getD (7 * i + j) 0 - l.getD (7 * j + i) 0))]) (k := 32) (.inl (l.getD (7 * q + i) 0)) okX3_netLoans rfl lkX3_80 caX3_lentBy (Nat.le_of_ble_eq_true rfl) rfl (Nat.le_of_ble_eq_true rfl) rfl rfl rfl (c_lentBy_1 (i := q) (j := i) (by first | omega | (simp only [List.length_set]; omega)) (by omega) (by omega)) ?_
          refine aGo okX3_netLoans 5 (f' := (14, [some (.inr 32), some (.inl (i : Int)), some (.inl ((sumN q (fun j => l.getD (7 * i + j) 0 - l.getD (7 * j + i) 0)) + ((l.getD (7 * i + q) 0) - (l.getD (7 * q + i) 0)))), some (.inl ((q : Int) + 1))], [], _)) rfl ?_
          exact ih2 (q + 1) (by omega)
      refine aGo okX3_netLoans 3 (f' := (7, [some (.inr 32), some (.inl (i : Int)), none, none], [.inl (p : Int), .inl (i : Int)], _)) rfl ?_
      refine b_ge (tgt := 59) okX3_netLoans rfl rfl ⟨by omega, by omega⟩ ⟨by omega, by omega⟩ (fun h7 => absurd h7 (by omega)) (fun h7 => ?_)
      refine aGo okX3_netLoans 4 (f' := (14, [some (.inr 32), some (.inl (i : Int)), some (.inl 0), some (.inl 0)], [], _)) rfl ?_
      exact lq p 0 (by omega)
  refine aGo okX3_netLoans 2 (f' := (2, [some (.inr 32), some (.inl 0), none, none], [], _)) rfl ?_
  exact lp p 0 nt (by omega) hnt (fun q hq => by omega)
set_option maxHeartbeats 4000000 in
theorem c_weightNow_1 (hb : wH p k f c w sh t) {i : Nat} (hi : i < p) : aEv mX3_weightNow 2 0 0 N [.inr 32, .inl (i : Int)] [A0, (moSeg 32 k f c n kp l nt w sh (p : Int) t d wa), B, A3, B4, A5, C6] ((aQx (some (.inl (wt p k f c i))) [A0, (moSeg 32 k f c n kp l nt w sh (p : Int) t d wa), B, A3, B4, A5, C6])) := by
  obtain ⟨hp7, hk, hf, hc, hw, hsh, rk, rf, rc, ht0, ht1⟩ := hb
  refine aEv_of okX3_weightNow caX3_weightNow (Nat.le_of_ble_eq_true rfl) ?_
  have lp : ∀ (j q : Nat), q + j = p → AW mX3_weightNow 2 0 0 N none (aQx (some (.inl (wt p k f c i))) [A0, (moSeg 32 k f c n kp l nt w sh (p : Int) t d wa), B, A3, B4, A5, C6]) (8, [some (.inr 32), some (.inl (i : Int)), some (.inl (sumN q (fun q => stp (c.getD i 0) (c.getD q 0)))), some (.inl (near q c i)), some (.inl (q : Int)), none, none], [], [A0, (moSeg 32 k f c n kp l nt w sh (p : Int) t d wa), B, A3, B4, A5, C6]) := by
    intro j
    induction j with
    | zero =>
      intro q  hij 
      obtain rfl : p = q := by omega
      refine aGo okX3_weightNow 3 (f' := (14, [some (.inr 32), some (.inl (i : Int)), some (.inl (sumN p (fun q => stp (c.getD i 0) (c.getD q 0)))), some (.inl (near p c i)), some (.inl (p : Int)), none, none], [.inl (p : Int), .inl (p : Int)], _)) rfl ?_
      refine b_ge (tgt := 63) okX3_weightNow rfl rfl ⟨by omega, by omega⟩ ⟨by omega, by omega⟩ (fun h14 => ?_) (fun h14 => absurd h14 (by omega))
      refine b_cast (f' := (63, [some (.inr 32), some (.inl (i : Int)), some (.inl (far p c i)), some (.inl (near p c i)), some (.inl (p : Int)), none, none], [], [A0, (moSeg 32 k f c n kp l nt w sh (p : Int) t d wa), B, A3, B4, A5, C6])) (rfl) ?_
      have q1 := far_le (p := p) rc i
      have q2 := rf i
      have q3 := rk i
      have q4 := near_le (p := p) rc i
      have q5 : (p : Int) ≤ 7 := by omega
      refine aGo okX3_weightNow 2 (f' := (65, [some (.inr 32), some (.inl (i : Int)), some (.inl (far p c i)), some (.inl (near p c i)), some (.inl (p : Int)), none, none], [.inl (far p c i), .inl 1], _)) rfl ?_
      refine b_max okX3_weightNow rfl lkX3_86 ma_max_s ma_max_c (Nat.le_of_ble_eq_true rfl) (Nat.le_of_ble_eq_true rfl) ⟨by omega, by omega⟩ ⟨by omega, by omega⟩ ?_
      refine aGo okX3_weightNow 5 (f' := (77, [some (.inr 32), some (.inl (i : Int)), some (.inl (far p c i)), some (.inl (near p c i)), some (.inl (max 1 (far p c i))), none, none], [.inl (i : Int), .inr 35, .inl (max 1 (far p c i))], _)) rfl ?_
      refine b_vV (as := [.inl (i : Int)]) (rest := [.inl (max 1 (far p c i))]) (k := 35) (.inl (f.getD i 0)) okX3_weightNow rfl lkX3_65 caX4_at (Nat.le_of_ble_eq_true rfl) rfl (Nat.le_of_ble_eq_true rfl) rfl rfl rfl (c_at (i := i) rfl rfl (by first | omega | (simp only [List.length_set]; omega)) (by omega)) ?_
      refine aGo okX3_weightNow 5 (f' := (87, [some (.inr 32), some (.inl (i : Int)), some (.inl (far p c i)), some (.inl (near p c i)), some (.inl (max 1 (far p c i))), some (.inl ((max 1 (far p c i)) + (f.getD i 0))), none], [.inl 2, .inl (max 1 (far p c i)), .inl 1], _)) rfl ?_
      refine b_div okX3_weightNow rfl ⟨by omega, by omega⟩ ⟨by omega, by omega⟩ ?_
      refine b_max okX3_weightNow rfl lkX3_86 ma_max_s ma_max_c (Nat.le_of_ble_eq_true rfl) (Nat.le_of_ble_eq_true rfl) ⟨by omega, by omega⟩ ⟨by omega, by omega⟩ ?_
      refine aGo okX3_weightNow 4 (f' := (98, [some (.inr 32), some (.inl (i : Int)), some (.inl (far p c i)), some (.inl (near p c i)), some (.inl (max 1 (far p c i))), some (.inl ((max 1 (far p c i)) + (f.getD i 0))), some (.inl (max 1 ((max 1 (far p c i)) / 2)))], [.inl (i : Int), .inr 33], _)) rfl ?_
      refine b_vV (as := [.inl (i : Int)]) (rest := []) (k := 33) (.inl (k.getD i 0)) okX3_weightNow rfl lkX3_65 caX4_at (Nat.le_of_ble_eq_true rfl) rfl (Nat.le_of_ble_eq_true rfl) rfl rfl rfl (c_at (i := i) rfl rfl (by first | omega | (simp only [List.length_set]; omega)) (by omega)) ?_
      have hsx := (six (rk i))
      rcases hsx with hsw | hsw | hsw | hsw | hsw | hsw
      · refine b_cast (f' := (101, [some (.inr 32), some (.inl (i : Int)), some (.inl (far p c i)), some (.inl (near p c i)), some (.inl (max 1 (far p c i))), some (.inl ((max 1 (far p c i)) + (f.getD i 0))), some (.inl (max 1 ((max 1 (far p c i)) / 2)))], [.inl 0], [A0, (moSeg 32 k f c n kp l nt w sh (p : Int) t d wa), B, A3, B4, A5, C6])) (congrArg (fun z : Int => ((101, [some (.inr 32), some (.inl (i : Int)), some (.inl (far p c i)), some (.inl (near p c i)), some (.inl (max 1 (far p c i))), some (.inl ((max 1 (far p c i)) + (f.getD i 0))), some (.inl (max 1 ((max 1 (far p c i)) / 2)))], .inl z :: [], [A0, (moSeg 32 k f c n kp l nt w sh (p : Int) t d wa), B, A3, B4, A5, C6]) : aF)) hsw) ?_
        refine b_swOut (tgt := 178) okX3_weightNow rfl ⟨by decide, by decide⟩ (by decide) rfl ?_
        refine aGo okX3_weightNow 1 (f' := (180, [some (.inr 32), some (.inl (i : Int)), some (.inl (far p c i)), some (.inl (near p c i)), some (.inl (max 1 (far p c i))), some (.inl ((max 1 (far p c i)) + (f.getD i 0))), some (.inl (max 1 ((max 1 (far p c i)) / 2)))], [.inl (max 1 (far p c i))], _)) rfl ?_
        exact b_ret (v := (some (.inl (max 1 (far p c i))))) ⟨rfl, Or.inl rfl⟩ ⟨by rw [wt_0 hsw], rfl⟩ rfl
      · refine b_cast (f' := (101, [some (.inr 32), some (.inl (i : Int)), some (.inl (far p c i)), some (.inl (near p c i)), some (.inl (max 1 (far p c i))), some (.inl ((max 1 (far p c i)) + (f.getD i 0))), some (.inl (max 1 ((max 1 (far p c i)) / 2)))], [.inl 1], [A0, (moSeg 32 k f c n kp l nt w sh (p : Int) t d wa), B, A3, B4, A5, C6])) (congrArg (fun z : Int => ((101, [some (.inr 32), some (.inl (i : Int)), some (.inl (far p c i)), some (.inl (near p c i)), some (.inl (max 1 (far p c i))), some (.inl ((max 1 (far p c i)) + (f.getD i 0))), some (.inl (max 1 ((max 1 (far p c i)) / 2)))], .inl z :: [], [A0, (moSeg 32 k f c n kp l nt w sh (p : Int) t d wa), B, A3, B4, A5, C6]) : aF)) hsw) ?_
        refine b_swIn (tgt := 136) okX3_weightNow rfl ⟨by decide, by decide⟩ (by decide) (by decide) rfl rfl ?_
        refine aGo okX3_weightNow 1 (f' := (138, [some (.inr 32), some (.inl (i : Int)), some (.inl (far p c i)), some (.inl (near p c i)), some (.inl (max 1 (far p c i))), some (.inl ((max 1 (far p c i)) + (f.getD i 0))), some (.inl (max 1 ((max 1 (far p c i)) / 2)))], [.inl ((max 1 (far p c i)) + (f.getD i 0))], _)) rfl ?_
        exact b_ret (v := (some (.inl ((max 1 (far p c i)) + (f.getD i 0))))) ⟨rfl, Or.inl rfl⟩ ⟨by rw [wt_1 hsw], rfl⟩ rfl
      · refine b_cast (f' := (101, [some (.inr 32), some (.inl (i : Int)), some (.inl (far p c i)), some (.inl (near p c i)), some (.inl (max 1 (far p c i))), some (.inl ((max 1 (far p c i)) + (f.getD i 0))), some (.inl (max 1 ((max 1 (far p c i)) / 2)))], [.inl 2], [A0, (moSeg 32 k f c n kp l nt w sh (p : Int) t d wa), B, A3, B4, A5, C6])) (congrArg (fun z : Int => ((101, [some (.inr 32), some (.inl (i : Int)), some (.inl (far p c i)), some (.inl (near p c i)), some (.inl (max 1 (far p c i))), some (.inl ((max 1 (far p c i)) + (f.getD i 0))), some (.inl (max 1 ((max 1 (far p c i)) / 2)))], .inl z :: [], [A0, (moSeg 32 k f c n kp l nt w sh (p : Int) t d wa), B, A3, B4, A5, C6]) : aF)) hsw) ?_
        refine b_swIn (tgt := 139) okX3_weightNow rfl ⟨by decide, by decide⟩ (by decide) (by decide) rfl rfl ?_
        refine aGo okX3_weightNow 3 (f' := (143, [some (.inr 32), some (.inl (i : Int)), some (.inl (far p c i)), some (.inl (near p c i)), some (.inl (max 1 (far p c i))), some (.inl ((max 1 (far p c i)) + (f.getD i 0))), some (.inl (max 1 ((max 1 (far p c i)) / 2)))], [.inl (2 * (max 1 (far p c i)))], _)) rfl ?_
        exact b_ret (v := (some (.inl (2 * (max 1 (far p c i)))))) ⟨rfl, Or.inl rfl⟩ ⟨by rw [wt_2 hsw], rfl⟩ rfl
      · refine b_cast (f' := (101, [some (.inr 32), some (.inl (i : Int)), some (.inl (far p c i)), some (.inl (near p c i)), some (.inl (max 1 (far p c i))), some (.inl ((max 1 (far p c i)) + (f.getD i 0))), some (.inl (max 1 ((max 1 (far p c i)) / 2)))], [.inl 3], [A0, (moSeg 32 k f c n kp l nt w sh (p : Int) t d wa), B, A3, B4, A5, C6])) (congrArg (fun z : Int => ((101, [some (.inr 32), some (.inl (i : Int)), some (.inl (far p c i)), some (.inl (near p c i)), some (.inl (max 1 (far p c i))), some (.inl ((max 1 (far p c i)) + (f.getD i 0))), some (.inl (max 1 ((max 1 (far p c i)) / 2)))], .inl z :: [], [A0, (moSeg 32 k f c n kp l nt w sh (p : Int) t d wa), B, A3, B4, A5, C6]) : aF)) hsw) ?_
        refine b_swIn (tgt := 144) okX3_weightNow rfl ⟨by decide, by decide⟩ (by decide) (by decide) rfl rfl ?_
        refine aGo okX3_weightNow 1 (f' := (146, [some (.inr 32), some (.inl (i : Int)), some (.inl (far p c i)), some (.inl (near p c i)), some (.inl (max 1 (far p c i))), some (.inl ((max 1 (far p c i)) + (f.getD i 0))), some (.inl (max 1 ((max 1 (far p c i)) / 2)))], [.inl (max 1 ((max 1 (far p c i)) / 2))], _)) rfl ?_
        exact b_ret (v := (some (.inl (max 1 ((max 1 (far p c i)) / 2))))) ⟨rfl, Or.inl rfl⟩ ⟨by rw [wt_3 hsw], rfl⟩ rfl
      · refine b_cast (f' := (101, [some (.inr 32), some (.inl (i : Int)), some (.inl (far p c i)), some (.inl (near p c i)), some (.inl (max 1 (far p c i))), some (.inl ((max 1 (far p c i)) + (f.getD i 0))), some (.inl (max 1 ((max 1 (far p c i)) / 2)))], [.inl 4], [A0, (moSeg 32 k f c n kp l nt w sh (p : Int) t d wa), B, A3, B4, A5, C6])) (congrArg (fun z : Int => ((101, [some (.inr 32), some (.inl (i : Int)), some (.inl (far p c i)), some (.inl (near p c i)), some (.inl (max 1 (far p c i))), some (.inl ((max 1 (far p c i)) + (f.getD i 0))), some (.inl (max 1 ((max 1 (far p c i)) / 2)))], .inl z :: [], [A0, (moSeg 32 k f c n kp l nt w sh (p : Int) t d wa), B, A3, B4, A5, C6]) : aF)) hsw) ?_
        refine b_swIn (tgt := 147) okX3_weightNow rfl ⟨by decide, by decide⟩ (by decide) (by decide) rfl rfl ?_
        refine aGo okX3_weightNow 2 (f' := (149, [some (.inr 32), some (.inl (i : Int)), some (.inl (far p c i)), some (.inl (near p c i)), some (.inl (max 1 (far p c i))), some (.inl ((max 1 (far p c i)) + (f.getD i 0))), some (.inl (max 1 ((max 1 (far p c i)) / 2)))], [.inl 3, .inl (near p c i)], _)) rfl ?_
        refine b_ge (tgt := 157) okX3_weightNow rfl rfl ⟨by omega, by omega⟩ ⟨by omega, by omega⟩ (fun h149 => ?_) (fun h149 => ?_)
        · refine aGo okX3_weightNow 3 (f' := (161, [some (.inr 32), some (.inl (i : Int)), some (.inl (far p c i)), some (.inl (near p c i)), some (.inl (max 1 (far p c i))), some (.inl ((max 1 (far p c i)) + (f.getD i 0))), some (.inl (max 1 ((max 1 (far p c i)) / 2)))], [.inl (((max 1 (far p c i)) + (f.getD i 0)) + 5)], _)) rfl ?_
          exact b_ret (v := (some (.inl (((max 1 (far p c i)) + (f.getD i 0)) + 5)))) ⟨rfl, Or.inl rfl⟩ ⟨by rw [wt_4f hsw (by omega)], rfl⟩ rfl
        · refine aGo okX3_weightNow 2 (f' := (161, [some (.inr 32), some (.inl (i : Int)), some (.inl (far p c i)), some (.inl (near p c i)), some (.inl (max 1 (far p c i))), some (.inl ((max 1 (far p c i)) + (f.getD i 0))), some (.inl (max 1 ((max 1 (far p c i)) / 2)))], [.inl ((max 1 (far p c i)) + (f.getD i 0))], _)) rfl ?_
          exact b_ret (v := (some (.inl ((max 1 (far p c i)) + (f.getD i 0))))) ⟨rfl, Or.inl rfl⟩ ⟨by rw [wt_4t hsw (by omega)], rfl⟩ rfl
      · refine b_cast (f' := (101, [some (.inr 32), some (.inl (i : Int)), some (.inl (far p c i)), some (.inl (near p c i)), some (.inl (max 1 (far p c i))), some (.inl ((max 1 (far p c i)) + (f.getD i 0))), some (.inl (max 1 ((max 1 (far p c i)) / 2)))], [.inl 5], [A0, (moSeg 32 k f c n kp l nt w sh (p : Int) t d wa), B, A3, B4, A5, C6])) (congrArg (fun z : Int => ((101, [some (.inr 32), some (.inl (i : Int)), some (.inl (far p c i)), some (.inl (near p c i)), some (.inl (max 1 (far p c i))), some (.inl ((max 1 (far p c i)) + (f.getD i 0))), some (.inl (max 1 ((max 1 (far p c i)) / 2)))], .inl z :: [], [A0, (moSeg 32 k f c n kp l nt w sh (p : Int) t d wa), B, A3, B4, A5, C6]) : aF)) hsw) ?_
        refine b_swIn (tgt := 162) okX3_weightNow rfl ⟨by decide, by decide⟩ (by decide) (by decide) rfl rfl ?_
        refine aGo okX3_weightNow 5 (f' := (170, [some (.inr 32), some (.inl (i : Int)), some (.inl (far p c i)), some (.inl (near p c i)), some (.inl (max 1 (far p c i))), some (.inl ((max 1 (far p c i)) + (f.getD i 0))), some (.inl (max 1 ((max 1 (far p c i)) / 2)))], [.inl (i : Int), .inr 35, .inl (max 1 ((max 1 (far p c i)) / 2)), .inl 1], _)) rfl ?_
        refine b_vV (as := [.inl (i : Int)]) (rest := [.inl (max 1 ((max 1 (far p c i)) / 2)), .inl 1]) (k := 35) (.inl (f.getD i 0)) okX3_weightNow rfl lkX3_65 caX4_at (Nat.le_of_ble_eq_true rfl) rfl (Nat.le_of_ble_eq_true rfl) rfl rfl rfl (c_at (i := i) rfl rfl (by first | omega | (simp only [List.length_set]; omega)) (by omega)) ?_
        refine aGo okX3_weightNow 1 (f' := (174, [some (.inr 32), some (.inl (i : Int)), some (.inl (far p c i)), some (.inl (near p c i)), some (.inl (max 1 (far p c i))), some (.inl ((max 1 (far p c i)) + (f.getD i 0))), some (.inl (max 1 ((max 1 (far p c i)) / 2)))], [.inl ((max 1 ((max 1 (far p c i)) / 2)) - (f.getD i 0)), .inl 1], _)) rfl ?_
        refine b_max okX3_weightNow rfl lkX3_86 ma_max_s ma_max_c (Nat.le_of_ble_eq_true rfl) (Nat.le_of_ble_eq_true rfl) ⟨by omega, by omega⟩ ⟨by omega, by omega⟩ ?_
        exact b_ret (v := (some (.inl (max 1 ((max 1 ((max 1 (far p c i)) / 2)) - (f.getD i 0)))))) ⟨rfl, Or.inl rfl⟩ ⟨by rw [wt_5 hsw], rfl⟩ rfl
    | succ j ih =>
      intro q  hij 
      have q1 := rc i
      have q2 := rc q
      have q3 := far_le (p := q) rc i
      have q4 := near_le (p := q) rc i
      have q5 := stp_le (rc i) (rc q)
      unfold far at q3
      refine aGo okX3_weightNow 3 (f' := (14, [some (.inr 32), some (.inl (i : Int)), some (.inl (sumN q (fun q => stp (c.getD i 0) (c.getD q 0)))), some (.inl (near q c i)), some (.inl (q : Int)), none, none], [.inl (p : Int), .inl (q : Int)], _)) rfl ?_
      refine b_ge (tgt := 63) okX3_weightNow rfl rfl ⟨by omega, by omega⟩ ⟨by omega, by omega⟩ (fun h14 => absurd h14 (by omega)) (fun h14 => ?_)
      refine aGo okX3_weightNow 2 (f' := (20, [some (.inr 32), some (.inl (i : Int)), some (.inl (sumN q (fun q => stp (c.getD i 0) (c.getD q 0)))), some (.inl (near q c i)), some (.inl (q : Int)), none, none], [.inl (i : Int), .inl (q : Int)], _)) rfl ?_
      refine b_eq (tgt := 57) okX3_weightNow rfl rfl ⟨by omega, by omega⟩ ⟨by omega, by omega⟩ (fun h20 => ?_) (fun h20 => ?_)
      · have hqi : q = i := by omega
        refine aGo okX3_weightNow 2 (f' := (8, [some (.inr 32), some (.inl (i : Int)), some (.inl (sumN q (fun q => stp (c.getD i 0) (c.getD q 0)))), some (.inl (near q c i)), some (.inl ((q : Int) + 1)), none, none], [], _)) rfl ?_
        refine b_cast (f' := (8, [some (.inr 32), some (.inl (i : Int)), some (.inl (sumN (q + 1) (fun q => stp (c.getD i 0) (c.getD q 0)))), some (.inl (near (q + 1) c i)), some (.inl ((q : Int) + 1)), none, none], [], [A0, (moSeg 32 k f c n kp l nt w sh (p : Int) t d wa), B, A3, B4, A5, C6])) (by simp only [sumN, near]; rw [if_pos hqi, hqi, stp_self, Int.add_zero]) ?_
        exact ih (q + 1) (by omega)
      · refine aGo okX3_weightNow 3 (f' := (28, [some (.inr 32), some (.inl (i : Int)), some (.inl (sumN q (fun q => stp (c.getD i 0) (c.getD q 0)))), some (.inl (near q c i)), some (.inl (q : Int)), none, none], [.inl (i : Int), .inr 37], _)) rfl ?_
        refine b_vV (as := [.inl (i : Int)]) (rest := []) (k := 37) (.inl (c.getD i 0)) okX3_weightNow rfl lkX3_65 caX4_at (Nat.le_of_ble_eq_true rfl) rfl (Nat.le_of_ble_eq_true rfl) rfl rfl rfl (c_at (i := i) rfl rfl (by first | omega | (simp only [List.length_set]; omega)) (by omega)) ?_
        refine aGo okX3_weightNow 3 (f' := (37, [some (.inr 32), some (.inl (i : Int)), some (.inl (sumN q (fun q => stp (c.getD i 0) (c.getD q 0)))), some (.inl (near q c i)), some (.inl (q : Int)), none, none], [.inl (q : Int), .inr 37, .inl (c.getD i 0)], _)) rfl ?_
        refine b_vV (as := [.inl (q : Int)]) (rest := [.inl (c.getD i 0)]) (k := 37) (.inl (c.getD q 0)) okX3_weightNow rfl lkX3_65 caX4_at (Nat.le_of_ble_eq_true rfl) rfl (Nat.le_of_ble_eq_true rfl) rfl rfl rfl (c_at (i := q) rfl rfl (by first | omega | (simp only [List.length_set]; omega)) (by omega)) ?_
        refine b_vT (as := [.inl (c.getD i 0), .inl (c.getD q 0)]) (rest := []) (.inl (stp (c.getD i 0) (c.getD q 0))) okX3_weightNow rfl lkX3_69 caX7_steps (Nat.le_of_ble_eq_true rfl) rfl (Nat.le_of_ble_eq_true rfl) rfl (c_steps ⟨by omega, by omega⟩ ⟨by omega, by omega⟩) ?_
        refine aGo okX3_weightNow 7 (f' := (53, [some (.inr 32), some (.inl (i : Int)), some (.inl ((sumN q (fun q => stp (c.getD i 0) (c.getD q 0))) + (stp (c.getD i 0) (c.getD q 0)))), some (.inl (near q c i)), some (.inl (q : Int)), some (.inl (stp (c.getD i 0) (c.getD q 0))), none], [.inl (stp (c.getD i 0) (c.getD q 0)), .inl (near q c i)], _)) rfl ?_
        refine b_min okX3_weightNow rfl lkX3_112 ma_min_s ma_min_c (Nat.le_of_ble_eq_true rfl) (Nat.le_of_ble_eq_true rfl) ⟨by omega, by omega⟩ ⟨by omega, by omega⟩ ?_
        refine aGo okX3_weightNow 1 (f' := (57, [some (.inr 32), some (.inl (i : Int)), some (.inl ((sumN q (fun q => stp (c.getD i 0) (c.getD q 0))) + (stp (c.getD i 0) (c.getD q 0)))), some (.inl (min (near q c i) (stp (c.getD i 0) (c.getD q 0)))), some (.inl (q : Int)), some (.inl (stp (c.getD i 0) (c.getD q 0))), none], [], _)) rfl ?_
        have hqi : ¬ q = i := by omega
        refine aGo okX3_weightNow 2 (f' := (8, [some (.inr 32), some (.inl (i : Int)), some (.inl ((sumN q (fun q => stp (c.getD i 0) (c.getD q 0))) + (stp (c.getD i 0) (c.getD q 0)))), some (.inl (min (near q c i) (stp (c.getD i 0) (c.getD q 0)))), some (.inl ((q : Int) + 1)), some (.inl (stp (c.getD i 0) (c.getD q 0))), none], [], _)) rfl ?_
        refine b_cast (f' := (8, [some (.inr 32), some (.inl (i : Int)), some (.inl (sumN (q + 1) (fun q => stp (c.getD i 0) (c.getD q 0)))), some (.inl (near (q + 1) c i)), some (.inl ((q : Int) + 1)), some (.inl (stp (c.getD i 0) (c.getD q 0))), none], [], [A0, (moSeg 32 k f c n kp l nt w sh (p : Int) t d wa), B, A3, B4, A5, C6])) (by simp only [sumN, near]; rw [if_neg hqi]) ?_
        refine b_lose (ls' := [some (.inr 32), some (.inl (i : Int)), some (.inl (sumN (q + 1) (fun q => stp (c.getD i 0) (c.getD q 0)))), some (.inl (near (q + 1) c i)), some (.inl ((q : Int) + 1)), none, none]) (lose5g _ _ _ _ _ _ _) ?_
        exact ih (q + 1) (by omega)
  refine aGo okX3_weightNow 6 (f' := (8, [some (.inr 32), some (.inl (i : Int)), some (.inl 0), some (.inl 10), some (.inl 0), none, none], [], _)) rfl ?_
  exact lp p 0 (by omega)
set_option maxHeartbeats 4000000 in
theorem c_shareOut_1 {W : Nat → Int} (hp : p ≤ 7) (hsh : sh.length = 7) (hwl : w.length = 7) (ht : 0 ≤ t ∧ t ≤ 999) (hw : ∀ q, q < p → w.getD q 0 = W q) (hW : ∀ q, q < p → 1 ≤ W q ∧ W q ≤ 200) (hwa : wa = sumN p W) : aEv mX3_shareOut 1 0 0 N [.inr 32] [A0, (moSeg 32 k f c n kp l nt w sh (p : Int) t d wa), B, A3, B4, A5, C6] ((fun rv h => rv = none ∧ ∃ sh2 : List Int, sh2.length = 7 ∧ (∀ q, q < p → sh2.getD q 0 = shrS p W t q) ∧ h = [A0, (moSeg 32 k f c n kp l nt w sh2 (p : Int) t d wa), B, A3, B4, A5, C6])) := by
  have hlef : 0 < p → 0 ≤ lefS p W t ∧ lefS p W t < p := fun z => lefS_le z (fun q hq => (hW q hq).1)
  refine aEv_of okX3_shareOut caX3_shareOut (Nat.le_of_ble_eq_true rfl) ?_
  have l2 : ∀ (j i : Nat) (m : List Int), i + j = p → (m.length = 7) → (∀ q, q < i → m.getD q 0 = shrS p W t q) → (∀ q, i ≤ q → q < p → m.getD q 0 = cutS p W t q) → AW mX3_shareOut 1 0 0 N none (fun rv h => rv = none ∧ ∃ sh2 : List Int, sh2.length = 7 ∧ (∀ q, q < p → sh2.getD q 0 = shrS p W t q) ∧ h = [A0, (moSeg 32 k f c n kp l nt w sh2 (p : Int) t d wa), B, A3, B4, A5, C6]) (66, [some (.inr 32), some (.inl (lefS p W t)), some (.inl (i : Int)), none], [], [A0, (moSeg 32 k f c n kp l nt w m (p : Int) t d wa), B, A3, B4, A5, C6]) := by
    intro j
    induction j with
    | zero =>
      intro i m hij h1 h2 h3
      obtain rfl : p = i := by omega
      refine aGo okX3_shareOut 3 (f' := (71, [some (.inr 32), some (.inl (lefS p W t)), some (.inl (p : Int)), none], [.inl (p : Int), .inl (p : Int)], _)) rfl ?_
      refine b_ge (tgt := 103) okX3_shareOut rfl rfl ⟨by omega, by omega⟩ ⟨by omega, by omega⟩ (fun h71 => ?_) (fun h71 => absurd h71 (by omega))
      exact b_ret (v := none) ⟨rfl, rfl⟩ ⟨rfl, m, h1, fun q hq => h2 q hq, rfl⟩ rfl
    | succ j ih =>
      intro i m hij h1 h2 h3
      have q1 := hlef (by omega)
      have q2 := h3 i (Nat.le_refl i) (by omega)
      have q3 := cutS_le ht.1 (fun q hq => (hW q hq).1) (show i < p by omega)
      refine aGo okX3_shareOut 3 (f' := (71, [some (.inr 32), some (.inl (lefS p W t)), some (.inl (i : Int)), none], [.inl (p : Int), .inl (i : Int)], _)) rfl ?_
      refine b_ge (tgt := 103) okX3_shareOut rfl rfl ⟨by omega, by omega⟩ ⟨by omega, by omega⟩ (fun h71 => absurd h71 (by omega)) (fun h71 => ?_)
      refine aGo okX3_shareOut 2 (f' := (76, [some (.inr 32), some (.inl (lefS p W t)), some (.inl (i : Int)), none], [.inl (lefS p W t), .inl (i : Int)], _)) rfl ?_
      refine b_ge (tgt := 103) okX3_shareOut rfl rfl ⟨by omega, by omega⟩ ⟨by omega, by omega⟩ (fun h76 => ?_) (fun h76 => ?_)
      · exact b_ret (v := none) ⟨rfl, rfl⟩ ⟨rfl, m, h1, shrS_end (by omega) h2 h3, rfl⟩ rfl
      · refine aGo okX3_shareOut 6 (f' := (89, [some (.inr 32), some (.inl (lefS p W t)), some (.inl (i : Int)), none], [.inl (i : Int), .inr 49, .inl (i : Int), .inr 49], _)) rfl ?_
        refine b_vV (as := [.inl (i : Int)]) (rest := [.inl (i : Int), .inr 49]) (k := 49) (.inl (m.getD i 0)) okX3_shareOut rfl lkX3_65 caX4_at (Nat.le_of_ble_eq_true rfl) rfl (Nat.le_of_ble_eq_true rfl) rfl rfl rfl (c_at (i := i) rfl rfl (by first | omega | (simp only [List.length_set]; omega)) (by omega)) ?_
        refine aGo okX3_shareOut 2 (f' := (94, [some (.inr 32), some (.inl (lefS p W t)), some (.inl (i : Int)), none], [.inl ((m.getD i 0) + 1), .inl (i : Int), .inr 49], _)) rfl ?_
        refine b_vN (as := [.inl (i : Int), .inl ((m.getD i 0) + 1)]) (rest := []) (k := 49) okX3_shareOut rfl lkX3_98 caX4_put (Nat.le_of_ble_eq_true rfl) rfl (Nat.le_of_ble_eq_true rfl) rfl rfl rfl (c_put (i := i) rfl rfl (by first | omega | (simp only [List.length_set]; omega)) (by first | omega | (simp only [List.length_set]; omega)) ((m.getD i 0) + 1)) ?_
        refine b_cast (f' := (97, [some (.inr 32), some (.inl (lefS p W t)), some (.inl (i : Int)), none], [], [A0, (moSeg 32 k f c n kp l nt w (m.set i ((m.getD i 0) + 1)) (p : Int) t d wa), B, A3, B4, A5, C6])) rfl ?_
        refine aGo okX3_shareOut 2 (f' := (66, [some (.inr 32), some (.inl (lefS p W t)), some (.inl ((i : Int) + 1)), none], [], _)) rfl ?_
        exact ih (i + 1) (m.set i (m.getD i 0 + 1)) (by omega) (by rw [List.length_set]; exact h1) (set_upto (by omega) (by rw [q2, shrS_in (by omega)]) h2) (fun q hq1 hq2 => by rw [getD_set_ne (by omega)]; exact h3 q (by omega) hq2)
  have l1 : ∀ (j i : Nat) (m : List Int), i + j = p → (m.length = 7) → (∀ q, q < i → m.getD q 0 = cutS p W t q) → AW mX3_shareOut 1 0 0 N none (fun rv h => rv = none ∧ ∃ sh2 : List Int, sh2.length = 7 ∧ (∀ q, q < p → sh2.getD q 0 = shrS p W t q) ∧ h = [A0, (moSeg 32 k f c n kp l nt w sh2 (p : Int) t d wa), B, A3, B4, A5, C6]) (7, [some (.inr 32), some (.inl (t - sumN i (cutS p W t))), some (.inl (i : Int)), none], [], [A0, (moSeg 32 k f c n kp l nt w m (p : Int) t d wa), B, A3, B4, A5, C6]) := by
    intro j
    induction j with
    | zero =>
      intro i m hij h1 h2
      obtain rfl : p = i := by omega
      refine aGo okX3_shareOut 3 (f' := (12, [some (.inr 32), some (.inl (t - sumN p (cutS p W t))), some (.inl (p : Int)), none], [.inl (p : Int), .inl (p : Int)], _)) rfl ?_
      refine b_ge (tgt := 64) okX3_shareOut rfl rfl ⟨by omega, by omega⟩ ⟨by omega, by omega⟩ (fun h12 => ?_) (fun h12 => absurd h12 (by omega))
      refine b_cast (f' := (64, [some (.inr 32), some (.inl (lefS p W t)), some (.inl (p : Int)), none], [], [A0, (moSeg 32 k f c n kp l nt w m (p : Int) t d wa), B, A3, B4, A5, C6])) (rfl) ?_
      refine aGo okX3_shareOut 2 (f' := (66, [some (.inr 32), some (.inl (lefS p W t)), some (.inl 0), none], [], _)) rfl ?_
      exact l2 p 0 m (by omega) h1 (fun q hq => by omega) (fun q _ hq => h2 q hq)
    | succ j ih =>
      intro i m hij h1 h2
      have q1 := hw i (by omega)
      have q2 := hW i (by omega)
      have q3 := sum_pos (p := p) (w := W) (by omega) (fun q hq => (hW q hq).1)
      have q4 := mulB ht q2
      rw [← q1] at q4
      have q5 := sumN_le (n := p) (F := W) (b := 200) (fun q hq => (hW q hq).2)
      refine aGo okX3_shareOut 3 (f' := (12, [some (.inr 32), some (.inl (t - sumN i (cutS p W t))), some (.inl (i : Int)), none], [.inl (p : Int), .inl (i : Int)], _)) rfl ?_
      refine b_ge (tgt := 64) okX3_shareOut rfl rfl ⟨by omega, by omega⟩ ⟨by omega, by omega⟩ (fun h12 => absurd h12 (by omega)) (fun h12 => ?_)
      refine aGo okX3_shareOut 2 (f' := (19, [some (.inr 32), some (.inl (t - sumN i (cutS p W t))), some (.inl (i : Int)), none], [.inl wa], _)) rfl ?_
      refine b0_le (tgt := 43) okX3_shareOut rfl rfl ⟨by omega, by omega⟩ (fun h19 => absurd h19 (by omega)) (fun h19 => ?_)
      refine aGo okX3_shareOut 5 (f' := (31, [some (.inr 32), some (.inl (t - sumN i (cutS p W t))), some (.inl (i : Int)), none], [.inl (i : Int), .inr 47, .inl t], _)) rfl ?_
      refine b_vV (as := [.inl (i : Int)]) (rest := [.inl t]) (k := 47) (.inl (w.getD i 0)) okX3_shareOut rfl lkX3_65 caX4_at (Nat.le_of_ble_eq_true rfl) rfl (Nat.le_of_ble_eq_true rfl) rfl rfl rfl (c_at (i := i) rfl rfl (by first | omega | (simp only [List.length_set]; omega)) (by omega)) ?_
      refine aGo okX3_shareOut 3 (f' := (39, [some (.inr 32), some (.inl (t - sumN i (cutS p W t))), some (.inl (i : Int)), none], [.inl wa, .inl (t * (w.getD i 0))], _)) rfl ?_
      refine b_div okX3_shareOut rfl ⟨by omega, by omega⟩ ⟨by omega, by omega⟩ ?_
      refine aGo okX3_shareOut 1 (f' := (44, [some (.inr 32), some (.inl (t - sumN i (cutS p W t))), some (.inl (i : Int)), none], [.inl ((t * (w.getD i 0)) / wa)], _)) rfl ?_
      refine b_cast (f' := (44, [some (.inr 32), some (.inl (t - sumN i (cutS p W t))), some (.inl (i : Int)), none], [.inl (cutS p W t i)], [A0, (moSeg 32 k f c n kp l nt w m (p : Int) t d wa), B, A3, B4, A5, C6])) (by unfold cutS; rw [q1, hwa]) ?_
      refine aGo okX3_shareOut 5 (f' := (51, [some (.inr 32), some (.inl (t - sumN i (cutS p W t))), some (.inl (i : Int)), some (.inl (cutS p W t i))], [.inl (cutS p W t i), .inl (i : Int), .inr 49], _)) rfl ?_
      refine b_vN (as := [.inl (i : Int), .inl (cutS p W t i)]) (rest := []) (k := 49) okX3_shareOut rfl lkX3_98 caX4_put (Nat.le_of_ble_eq_true rfl) rfl (Nat.le_of_ble_eq_true rfl) rfl rfl rfl (c_put (i := i) rfl rfl (by first | omega | (simp only [List.length_set]; omega)) (by first | omega | (simp only [List.length_set]; omega)) (cutS p W t i)) ?_
      refine b_cast (f' := (54, [some (.inr 32), some (.inl (t - sumN i (cutS p W t))), some (.inl (i : Int)), some (.inl (cutS p W t i))], [], [A0, (moSeg 32 k f c n kp l nt w (m.set i (cutS p W t i)) (p : Int) t d wa), B, A3, B4, A5, C6])) rfl ?_
      refine aGo okX3_shareOut 6 (f' := (7, [some (.inr 32), some (.inl ((t - sumN i (cutS p W t)) - (cutS p W t i))), some (.inl ((i : Int) + 1)), some (.inl (cutS p W t i))], [], _)) rfl ?_
      refine b_cast (f' := (7, [some (.inr 32), some (.inl (t - sumN (i + 1) (cutS p W t))), some (.inl ((i : Int) + 1)), some (.inl (cutS p W t i))], [], [A0, (moSeg 32 k f c n kp l nt w (m.set i (cutS p W t i)) (p : Int) t d wa), B, A3, B4, A5, C6])) (by simp only [sumN]; rw [show t - sumN i (cutS p W t) - cutS p W t i = t - (sumN i (cutS p W t) + cutS p W t i) by omega]) ?_
      refine b_lose (ls' := [some (.inr 32), some (.inl (t - sumN (i + 1) (cutS p W t))), some (.inl ((i : Int) + 1)), none]) (lose3 _ _ _ _) ?_
      exact ih (i + 1) (m.set i (cutS p W t i)) (by omega) (by rw [List.length_set]; exact h1) (set_upto (by omega) rfl h2)
  refine aGo okX3_shareOut 5 (f' := (7, [some (.inr 32), some (.inl t), some (.inl 0), none], [], _)) rfl ?_
  refine b_cast (f' := (7, [some (.inr 32), some (.inl (t - sumN 0 (cutS p W t))), some (.inl 0), none], [], [A0, (moSeg 32 k f c n kp l nt w sh (p : Int) t d wa), B, A3, B4, A5, C6])) (by simp only [sumN]; rw [Int.sub_zero]) ?_
  exact l1 p 0 sh (by omega) hsh (fun q hq => by omega)
set_option maxHeartbeats 4000000 in
theorem c_weigh_1 (hb : wH p k f c w sh t) : aEv mX3_weigh 3 0 0 N [.inr 32] [A0, (moSeg 32 k f c n kp l nt w sh (p : Int) t d wa), B, A3, B4, A5, C6] ((fun rv h => rv = none ∧ ∃ w2 sh2 : List Int, wOK p k f c w2 (wAll p k f c) ∧ sOK p k f c sh2 t ∧ h = [A0, (moSeg 32 k f c n kp l nt w2 sh2 (p : Int) t d (wAll p k f c)), B, A3, B4, A5, C6])) := by
  obtain ⟨hp7, hk, hf, hc, hw, hsh, rk, rf, rc, ht0, ht1⟩ := hb
  refine aEv_of okX3_weigh caX3_weigh (Nat.le_of_ble_eq_true rfl) ?_
  have lp : ∀ (j i : Nat) (m : List Int), i + j = p → (m.length = 7) → (∀ q, q < i → m.getD q 0 = wt p k f c q) → AW mX3_weigh 3 0 0 N none (fun rv h => rv = none ∧ ∃ w2 sh2 : List Int, wOK p k f c w2 (wAll p k f c) ∧ sOK p k f c sh2 t ∧ h = [A0, (moSeg 32 k f c n kp l nt w2 sh2 (p : Int) t d (wAll p k f c)), B, A3, B4, A5, C6]) (7, [some (.inr 32), some (.inl (i : Int)), none], [], [A0, (moSeg 32 k f c n kp l nt m sh (p : Int) t d (sumN i (wt p k f c))), B, A3, B4, A5, C6]) := by
    intro j
    induction j with
    | zero =>
      intro i m hij h1 h2
      obtain rfl : p = i := by omega
      refine aGo okX3_weigh 3 (f' := (12, [some (.inr 32), some (.inl (p : Int)), none], [.inl (p : Int), .inl (p : Int)], _)) rfl ?_
      refine b_ge (tgt := 46) okX3_weigh rfl rfl ⟨by omega, by omega⟩ ⟨by omega, by omega⟩ (fun h12 => ?_) (fun h12 => absurd h12 (by omega))
      refine aGo okX3_weigh 1 (f' := (47, [some (.inr 32), some (.inl (p : Int)), none], [.inr 32], _)) rfl ?_
      refine b_vE (as := []) (rest := []) (k := 32) okX3_weigh rfl lkX3_95 caX3_shareOut (Nat.le_of_ble_eq_true rfl) rfl (Nat.le_of_ble_eq_true rfl) rfl rfl rfl (c_shareOut_1 (W := wt p k f c) hp7 hsh h1 ⟨ht0, ht1⟩ h2 (fun q hq => wt_le hp7 rf rc q) rfl) ?_
      rintro _ _ ⟨rfl, sh2, z1, z2, rfl⟩
      exact b_ret (v := none) ⟨rfl, rfl⟩ ⟨rfl, m, sh2, ⟨h1, h2, rfl⟩, ⟨z1, z2⟩, rfl⟩ rfl
    | succ j ih =>
      intro i m hij h1 h2
      refine aGo okX3_weigh 3 (f' := (12, [some (.inr 32), some (.inl (i : Int)), none], [.inl (p : Int), .inl (i : Int)], _)) rfl ?_
      refine b_ge (tgt := 46) okX3_weigh rfl rfl ⟨by omega, by omega⟩ ⟨by omega, by omega⟩ (fun h12 => absurd h12 (by omega)) (fun h12 => ?_)
      refine aGo okX3_weigh 2 (f' := (17, [some (.inr 32), some (.inl (i : Int)), none], [.inl (i : Int), .inr 32], _)) rfl ?_
      refine b_vV (as := [.inl (i : Int)]) (rest := []) (k := 32) (.inl (wt p k f c i)) okX3_weigh rfl lkX3_115 caX3_weightNow (Nat.le_of_ble_eq_true rfl) rfl (Nat.le_of_ble_eq_true rfl) rfl rfl rfl (c_weightNow_1 ⟨hp7, hk, hf, hc, h1, hsh, rk, rf, rc, ht0, ht1⟩ (i := i) (by omega)) ?_
      refine aGo okX3_weigh 5 (f' := (27, [some (.inr 32), some (.inl (i : Int)), some (.inl (wt p k f c i))], [.inl (wt p k f c i), .inl (i : Int), .inr 47], _)) rfl ?_
      refine b_vN (as := [.inl (i : Int), .inl (wt p k f c i)]) (rest := []) (k := 47) okX3_weigh rfl lkX3_98 caX4_put (Nat.le_of_ble_eq_true rfl) rfl (Nat.le_of_ble_eq_true rfl) rfl rfl rfl (c_put (i := i) rfl rfl (by first | omega | (simp only [List.length_set]; omega)) (by first | omega | (simp only [List.length_set]; omega)) (wt p k f c i)) ?_
      refine b_cast (f' := (30, [some (.inr 32), some (.inl (i : Int)), some (.inl (wt p k f c i))], [], [A0, (moSeg 32 k f c n kp l nt (m.set i (wt p k f c i)) sh (p : Int) t d (sumN i (wt p k f c))), B, A3, B4, A5, C6])) rfl ?_
      refine aGo okX3_weigh 8 (f' := (7, [some (.inr 32), some (.inl ((i : Int) + 1)), some (.inl (wt p k f c i))], [], [A0, (moSeg 32 k f c n kp l nt (m.set i (wt p k f c i)) sh (p : Int) t d ((sumN i (wt p k f c)) + (wt p k f c i))), B, A3, B4, A5, C6])) rfl ?_
      refine b_cast (f' := (7, [some (.inr 32), some (.inl ((i : Int) + 1)), some (.inl (wt p k f c i))], [], [A0, (moSeg 32 k f c n kp l nt (m.set i (wt p k f c i)) sh (p : Int) t d (sumN (i + 1) (wt p k f c))), B, A3, B4, A5, C6])) rfl ?_
      refine b_lose (ls' := [some (.inr 32), some (.inl ((i : Int) + 1)), none]) (lose2 _ _ _) ?_
      exact ih (i + 1) (m.set i (wt p k f c i)) (by omega) (by rw [List.length_set]; exact h1) (set_upto (by omega) rfl h2)
  refine aGo okX3_weigh 5 (f' := (7, [some (.inr 32), some (.inl 0), none], [], [A0, (moSeg 32 k f c n kp l nt w sh (p : Int) t d 0), B, A3, B4, A5, C6])) rfl ?_
  exact lp p 0 w (by omega) hw (fun q hq => by omega)
set_option maxHeartbeats 4000000 in
theorem c_netLoans_2 (hp : p ≤ 7) (hnt : nt.length = 7) (hl : l.length = 49) : aEv mX3_netLoans 2 0 0 N [.inr 64] [A0, B, (moSeg 64 k f c n kp l nt w sh (p : Int) t d wa), A3, B4, A5, C6] ((fun rv h => rv = none ∧ ∃ nt2 : List Int, nOK p l nt2 ∧ h = [A0, B, (moSeg 64 k f c n kp l nt2 w sh (p : Int) t d wa), A3, B4, A5, C6])) := by
  refine aEv_of okX3_netLoans caX3_netLoans (Nat.le_of_ble_eq_true rfl) ?_
  have lp : ∀ (j i : Nat) (m : List Int), i + j = p → (m.length = 7) → (∀ q, q < i → m.getD q 0 = net p l q) → AW mX3_netLoans 2 0 0 N none (fun rv h => rv = none ∧ ∃ nt2 : List Int, nOK p l nt2 ∧ h = [A0, B, (moSeg 64 k f c n kp l nt2 w sh (p : Int) t d wa), A3, B4, A5, C6]) (2, [some (.inr 64), some (.inl (i : Int)), none, none], [], [A0, B, (moSeg 64 k f c n kp l m w sh (p : Int) t d wa), A3, B4, A5, C6]) := by
    intro j
    induction j with
    | zero =>
      intro i m hij h1 h2
      obtain rfl : p = i := by omega
      refine aGo okX3_netLoans 3 (f' := (7, [some (.inr 64), some (.inl (p : Int)), none, none], [.inl (p : Int), .inl (p : Int)], _)) rfl ?_
      refine b_ge (tgt := 59) okX3_netLoans rfl rfl ⟨by omega, by omega⟩ ⟨by omega, by omega⟩ (fun h7 => ?_) (fun h7 => absurd h7 (by omega))
      exact b_ret (v := none) ⟨rfl, rfl⟩ ⟨rfl, m, ⟨h1, h2⟩, rfl⟩ rfl
    | succ j ih =>
      intro i m hij h1 h2
      have lq : ∀ (j2 q : Nat), q + j2 = p → AW mX3_netLoans 2 0 0 N none (fun rv h => rv = none ∧ ∃ nt2 : List Int, nOK p l nt2 ∧ h = [A0, B, (moSeg 64 k f c n kp l nt2 w sh (p : Int) t d wa), A3, B4, A5, C6]) (14, [some (.inr 64), some (.inl (i : Int)), some (.inl (sumN q (fun j => l.getD (7 * i + j) 0 - l.getD (7 * j + i) 0))), some (.inl (q : Int))], [], [A0, B, (moSeg 64 k f c n kp l m w sh (p : Int) t d wa), A3, B4, A5, C6]) := by
        intro j2
        induction j2 with
        | zero =>
          intro q  hij2 
          obtain rfl : p = q := by omega
          refine aGo okX3_netLoans 3 (f' := (19, [some (.inr 64), some (.inl (i : Int)), some (.inl (sumN p (fun j => l.getD (7 * i + j) 0 - l.getD (7 * j + i) 0))), some (.inl (p : Int))], [.inl (p : Int), .inl (p : Int)], _)) rfl ?_
          refine b_ge (tgt := 44) okX3_netLoans rfl rfl ⟨by omega, by omega⟩ ⟨by omega, by omega⟩ (fun h19 => ?_) (fun h19 => absurd h19 (by omega))
          refine b_cast (f' := (44, [some (.inr 64), some (.inl (i : Int)), some (.inl (net p l i)), some (.inl (p : Int))], [], [A0, B, (moSeg 64 k f c n kp l m w sh (p : Int) t d wa), A3, B4, A5, C6])) (rfl) ?_
          refine aGo okX3_netLoans 4 (f' := (50, [some (.inr 64), some (.inl (i : Int)), some (.inl (net p l i)), some (.inl (p : Int))], [.inl (net p l i), .inl (i : Int), .inr 77], _)) rfl ?_
          refine b_vN (as := [.inl (i : Int), .inl (net p l i)]) (rest := []) (k := 77) okX3_netLoans rfl lkX3_98 caX4_put (Nat.le_of_ble_eq_true rfl) rfl (Nat.le_of_ble_eq_true rfl) rfl rfl rfl (c_put (i := i) rfl rfl (by first | omega | (simp only [List.length_set]; omega)) (by first | omega | (simp only [List.length_set]; omega)) (net p l i)) ?_
          refine b_cast (f' := (53, [some (.inr 64), some (.inl (i : Int)), some (.inl (net p l i)), some (.inl (p : Int))], [], [A0, B, (moSeg 64 k f c n kp l (m.set i (net p l i)) w sh (p : Int) t d wa), A3, B4, A5, C6])) rfl ?_
          refine aGo okX3_netLoans 2 (f' := (2, [some (.inr 64), some (.inl ((i : Int) + 1)), some (.inl (net p l i)), some (.inl (p : Int))], [], _)) rfl ?_
          refine b_lose (ls' := [some (.inr 64), some (.inl ((i : Int) + 1)), none, none]) (lose23 _ _ _ _) ?_
          exact ih (i + 1) (m.set i (net p l i)) (by omega) (by rw [List.length_set]; exact h1) (set_upto (by omega) rfl h2)
        | succ j2 ih2 =>
          intro q  hij2 
          refine aGo okX3_netLoans 3 (f' := (19, [some (.inr 64), some (.inl (i : Int)), some (.inl (sumN q (fun j => l.getD (7 * i + j) 0 - l.getD (7 * j + i) 0))), some (.inl (q : Int))], [.inl (p : Int), .inl (q : Int)], _)) rfl ?_
          refine b_ge (tgt := 44) okX3_netLoans rfl rfl ⟨by omega, by omega⟩ ⟨by omega, by omega⟩ (fun h19 => absurd h19 (by omega)) (fun h19 => ?_)
          refine aGo okX3_netLoans 4 (f' := (26, [some (.inr 64), some (.inl (i : Int)), some (.inl (sumN q (fun j => l.getD (7 * i + j) 0 - l.getD (7 * j + i) 0))), some (.inl (q : Int))], [.inl (q : Int), .inl (i : Int), .inr 64, .inl (sumN q (fun j => l.getD (7 * i + j) 0 - l.getD (7 * j + i) 0))], _)) rfl ?_
          refine b_vV (as := [.inl (i : Int), .inl (q : Int)]) (rest := [.inl (sumN q (fun j => l.getD (7 * i + j) 0 - l.getD (7 * j + i) 0))]) (k := 64) (.inl (l.getD (7 * i + q) 0)) okX3_netLoans rfl lkX3_80 caX3_lentBy (Nat.le_of_ble_eq_true rfl) rfl (Nat.le_of_ble_eq_true rfl) rfl rfl rfl (c_lentBy_2 (i := i) (j := q) (by first | omega | (simp only [List.length_set]; omega)) (by omega) (by omega)) ?_
          refine aGo okX3_netLoans 3 (f' := (32, [some (.inr 64), some (.inl (i : Int)), some (.inl (sumN q (fun j => l.getD (7 * i + j) 0 - l.getD (7 * j + i) 0))), some (.inl (q : Int))], [.inl (i : Int), .inl (q : Int), .inr 64, .inl (l.getD (7 * i + q) 0), .inl (sumN q (fun j => l.getD (7 * i + j) 0 - l.getD (7 * j + i) 0))], _)) rfl ?_
          refine b_vV (as := [.inl (q : Int), .inl (i : Int)]) (rest := [.inl (l.getD (7 * i + q) 0), .inl (sumN q (fun j => l.getD (7 * i + j) 0 - l.getD (7 * j + i) 0))]) (k := 64) (.inl (l.getD (7 * q + i) 0)) okX3_netLoans rfl lkX3_80 caX3_lentBy (Nat.le_of_ble_eq_true rfl) rfl (Nat.le_of_ble_eq_true rfl) rfl rfl rfl (c_lentBy_2 (i := q) (j := i) (by first | omega | (simp only [List.length_set]; omega)) (by omega) (by omega)) ?_
          refine aGo okX3_netLoans 5 (f' := (14, [some (.inr 64), some (.inl (i : Int)), some (.inl ((sumN q (fun j => l.getD (7 * i + j) 0 - l.getD (7 * j + i) 0)) + ((l.getD (7 * i + q) 0) - (l.getD (7 * q + i) 0)))), some (.inl ((q : Int) + 1))], [], _)) rfl ?_
          exact ih2 (q + 1) (by omega)
      refine aGo okX3_netLoans 3 (f' := (7, [some (.inr 64), some (.inl (i : Int)), none, none], [.inl (p : Int), .inl (i : Int)], _)) rfl ?_
      refine b_ge (tgt := 59) okX3_netLoans rfl rfl ⟨by omega, by omega⟩ ⟨by omega, by omega⟩ (fun h7 => absurd h7 (by omega)) (fun h7 => ?_)
      refine aGo okX3_netLoans 4 (f' := (14, [some (.inr 64), some (.inl (i : Int)), some (.inl 0), some (.inl 0)], [], _)) rfl ?_
      exact lq p 0 (by omega)
  refine aGo okX3_netLoans 2 (f' := (2, [some (.inr 64), some (.inl 0), none, none], [], _)) rfl ?_
  exact lp p 0 nt (by omega) hnt (fun q hq => by omega)
set_option maxHeartbeats 4000000 in
theorem c_weightNow_2 (hb : wH p k f c w sh t) {i : Nat} (hi : i < p) : aEv mX3_weightNow 2 0 0 N [.inr 64, .inl (i : Int)] [A0, B, (moSeg 64 k f c n kp l nt w sh (p : Int) t d wa), A3, B4, A5, C6] ((aQx (some (.inl (wt p k f c i))) [A0, B, (moSeg 64 k f c n kp l nt w sh (p : Int) t d wa), A3, B4, A5, C6])) := by
  obtain ⟨hp7, hk, hf, hc, hw, hsh, rk, rf, rc, ht0, ht1⟩ := hb
  refine aEv_of okX3_weightNow caX3_weightNow (Nat.le_of_ble_eq_true rfl) ?_
  have lp : ∀ (j q : Nat), q + j = p → AW mX3_weightNow 2 0 0 N none (aQx (some (.inl (wt p k f c i))) [A0, B, (moSeg 64 k f c n kp l nt w sh (p : Int) t d wa), A3, B4, A5, C6]) (8, [some (.inr 64), some (.inl (i : Int)), some (.inl (sumN q (fun q => stp (c.getD i 0) (c.getD q 0)))), some (.inl (near q c i)), some (.inl (q : Int)), none, none], [], [A0, B, (moSeg 64 k f c n kp l nt w sh (p : Int) t d wa), A3, B4, A5, C6]) := by
    intro j
    induction j with
    | zero =>
      intro q  hij 
      obtain rfl : p = q := by omega
      refine aGo okX3_weightNow 3 (f' := (14, [some (.inr 64), some (.inl (i : Int)), some (.inl (sumN p (fun q => stp (c.getD i 0) (c.getD q 0)))), some (.inl (near p c i)), some (.inl (p : Int)), none, none], [.inl (p : Int), .inl (p : Int)], _)) rfl ?_
      refine b_ge (tgt := 63) okX3_weightNow rfl rfl ⟨by omega, by omega⟩ ⟨by omega, by omega⟩ (fun h14 => ?_) (fun h14 => absurd h14 (by omega))
      refine b_cast (f' := (63, [some (.inr 64), some (.inl (i : Int)), some (.inl (far p c i)), some (.inl (near p c i)), some (.inl (p : Int)), none, none], [], [A0, B, (moSeg 64 k f c n kp l nt w sh (p : Int) t d wa), A3, B4, A5, C6])) (rfl) ?_
      have q1 := far_le (p := p) rc i
      have q2 := rf i
      have q3 := rk i
      have q4 := near_le (p := p) rc i
      have q5 : (p : Int) ≤ 7 := by omega
      refine aGo okX3_weightNow 2 (f' := (65, [some (.inr 64), some (.inl (i : Int)), some (.inl (far p c i)), some (.inl (near p c i)), some (.inl (p : Int)), none, none], [.inl (far p c i), .inl 1], _)) rfl ?_
      refine b_max okX3_weightNow rfl lkX3_86 ma_max_s ma_max_c (Nat.le_of_ble_eq_true rfl) (Nat.le_of_ble_eq_true rfl) ⟨by omega, by omega⟩ ⟨by omega, by omega⟩ ?_
      refine aGo okX3_weightNow 5 (f' := (77, [some (.inr 64), some (.inl (i : Int)), some (.inl (far p c i)), some (.inl (near p c i)), some (.inl (max 1 (far p c i))), none, none], [.inl (i : Int), .inr 67, .inl (max 1 (far p c i))], _)) rfl ?_
      refine b_vV (as := [.inl (i : Int)]) (rest := [.inl (max 1 (far p c i))]) (k := 67) (.inl (f.getD i 0)) okX3_weightNow rfl lkX3_65 caX4_at (Nat.le_of_ble_eq_true rfl) rfl (Nat.le_of_ble_eq_true rfl) rfl rfl rfl (c_at (i := i) rfl rfl (by first | omega | (simp only [List.length_set]; omega)) (by omega)) ?_
      refine aGo okX3_weightNow 5 (f' := (87, [some (.inr 64), some (.inl (i : Int)), some (.inl (far p c i)), some (.inl (near p c i)), some (.inl (max 1 (far p c i))), some (.inl ((max 1 (far p c i)) + (f.getD i 0))), none], [.inl 2, .inl (max 1 (far p c i)), .inl 1], _)) rfl ?_
      refine b_div okX3_weightNow rfl ⟨by omega, by omega⟩ ⟨by omega, by omega⟩ ?_
      refine b_max okX3_weightNow rfl lkX3_86 ma_max_s ma_max_c (Nat.le_of_ble_eq_true rfl) (Nat.le_of_ble_eq_true rfl) ⟨by omega, by omega⟩ ⟨by omega, by omega⟩ ?_
      refine aGo okX3_weightNow 4 (f' := (98, [some (.inr 64), some (.inl (i : Int)), some (.inl (far p c i)), some (.inl (near p c i)), some (.inl (max 1 (far p c i))), some (.inl ((max 1 (far p c i)) + (f.getD i 0))), some (.inl (max 1 ((max 1 (far p c i)) / 2)))], [.inl (i : Int), .inr 65], _)) rfl ?_
      refine b_vV (as := [.inl (i : Int)]) (rest := []) (k := 65) (.inl (k.getD i 0)) okX3_weightNow rfl lkX3_65 caX4_at (Nat.le_of_ble_eq_true rfl) rfl (Nat.le_of_ble_eq_true rfl) rfl rfl rfl (c_at (i := i) rfl rfl (by first | omega | (simp only [List.length_set]; omega)) (by omega)) ?_
      have hsx := (six (rk i))
      rcases hsx with hsw | hsw | hsw | hsw | hsw | hsw
      · refine b_cast (f' := (101, [some (.inr 64), some (.inl (i : Int)), some (.inl (far p c i)), some (.inl (near p c i)), some (.inl (max 1 (far p c i))), some (.inl ((max 1 (far p c i)) + (f.getD i 0))), some (.inl (max 1 ((max 1 (far p c i)) / 2)))], [.inl 0], [A0, B, (moSeg 64 k f c n kp l nt w sh (p : Int) t d wa), A3, B4, A5, C6])) (congrArg (fun z : Int => ((101, [some (.inr 64), some (.inl (i : Int)), some (.inl (far p c i)), some (.inl (near p c i)), some (.inl (max 1 (far p c i))), some (.inl ((max 1 (far p c i)) + (f.getD i 0))), some (.inl (max 1 ((max 1 (far p c i)) / 2)))], .inl z :: [], [A0, B, (moSeg 64 k f c n kp l nt w sh (p : Int) t d wa), A3, B4, A5, C6]) : aF)) hsw) ?_
        refine b_swOut (tgt := 178) okX3_weightNow rfl ⟨by decide, by decide⟩ (by decide) rfl ?_
        refine aGo okX3_weightNow 1 (f' := (180, [some (.inr 64), some (.inl (i : Int)), some (.inl (far p c i)), some (.inl (near p c i)), some (.inl (max 1 (far p c i))), some (.inl ((max 1 (far p c i)) + (f.getD i 0))), some (.inl (max 1 ((max 1 (far p c i)) / 2)))], [.inl (max 1 (far p c i))], _)) rfl ?_
        exact b_ret (v := (some (.inl (max 1 (far p c i))))) ⟨rfl, Or.inl rfl⟩ ⟨by rw [wt_0 hsw], rfl⟩ rfl
      · refine b_cast (f' := (101, [some (.inr 64), some (.inl (i : Int)), some (.inl (far p c i)), some (.inl (near p c i)), some (.inl (max 1 (far p c i))), some (.inl ((max 1 (far p c i)) + (f.getD i 0))), some (.inl (max 1 ((max 1 (far p c i)) / 2)))], [.inl 1], [A0, B, (moSeg 64 k f c n kp l nt w sh (p : Int) t d wa), A3, B4, A5, C6])) (congrArg (fun z : Int => ((101, [some (.inr 64), some (.inl (i : Int)), some (.inl (far p c i)), some (.inl (near p c i)), some (.inl (max 1 (far p c i))), some (.inl ((max 1 (far p c i)) + (f.getD i 0))), some (.inl (max 1 ((max 1 (far p c i)) / 2)))], .inl z :: [], [A0, B, (moSeg 64 k f c n kp l nt w sh (p : Int) t d wa), A3, B4, A5, C6]) : aF)) hsw) ?_
        refine b_swIn (tgt := 136) okX3_weightNow rfl ⟨by decide, by decide⟩ (by decide) (by decide) rfl rfl ?_
        refine aGo okX3_weightNow 1 (f' := (138, [some (.inr 64), some (.inl (i : Int)), some (.inl (far p c i)), some (.inl (near p c i)), some (.inl (max 1 (far p c i))), some (.inl ((max 1 (far p c i)) + (f.getD i 0))), some (.inl (max 1 ((max 1 (far p c i)) / 2)))], [.inl ((max 1 (far p c i)) + (f.getD i 0))], _)) rfl ?_
        exact b_ret (v := (some (.inl ((max 1 (far p c i)) + (f.getD i 0))))) ⟨rfl, Or.inl rfl⟩ ⟨by rw [wt_1 hsw], rfl⟩ rfl
      · refine b_cast (f' := (101, [some (.inr 64), some (.inl (i : Int)), some (.inl (far p c i)), some (.inl (near p c i)), some (.inl (max 1 (far p c i))), some (.inl ((max 1 (far p c i)) + (f.getD i 0))), some (.inl (max 1 ((max 1 (far p c i)) / 2)))], [.inl 2], [A0, B, (moSeg 64 k f c n kp l nt w sh (p : Int) t d wa), A3, B4, A5, C6])) (congrArg (fun z : Int => ((101, [some (.inr 64), some (.inl (i : Int)), some (.inl (far p c i)), some (.inl (near p c i)), some (.inl (max 1 (far p c i))), some (.inl ((max 1 (far p c i)) + (f.getD i 0))), some (.inl (max 1 ((max 1 (far p c i)) / 2)))], .inl z :: [], [A0, B, (moSeg 64 k f c n kp l nt w sh (p : Int) t d wa), A3, B4, A5, C6]) : aF)) hsw) ?_
        refine b_swIn (tgt := 139) okX3_weightNow rfl ⟨by decide, by decide⟩ (by decide) (by decide) rfl rfl ?_
        refine aGo okX3_weightNow 3 (f' := (143, [some (.inr 64), some (.inl (i : Int)), some (.inl (far p c i)), some (.inl (near p c i)), some (.inl (max 1 (far p c i))), some (.inl ((max 1 (far p c i)) + (f.getD i 0))), some (.inl (max 1 ((max 1 (far p c i)) / 2)))], [.inl (2 * (max 1 (far p c i)))], _)) rfl ?_
        exact b_ret (v := (some (.inl (2 * (max 1 (far p c i)))))) ⟨rfl, Or.inl rfl⟩ ⟨by rw [wt_2 hsw], rfl⟩ rfl
      · refine b_cast (f' := (101, [some (.inr 64), some (.inl (i : Int)), some (.inl (far p c i)), some (.inl (near p c i)), some (.inl (max 1 (far p c i))), some (.inl ((max 1 (far p c i)) + (f.getD i 0))), some (.inl (max 1 ((max 1 (far p c i)) / 2)))], [.inl 3], [A0, B, (moSeg 64 k f c n kp l nt w sh (p : Int) t d wa), A3, B4, A5, C6])) (congrArg (fun z : Int => ((101, [some (.inr 64), some (.inl (i : Int)), some (.inl (far p c i)), some (.inl (near p c i)), some (.inl (max 1 (far p c i))), some (.inl ((max 1 (far p c i)) + (f.getD i 0))), some (.inl (max 1 ((max 1 (far p c i)) / 2)))], .inl z :: [], [A0, B, (moSeg 64 k f c n kp l nt w sh (p : Int) t d wa), A3, B4, A5, C6]) : aF)) hsw) ?_
        refine b_swIn (tgt := 144) okX3_weightNow rfl ⟨by decide, by decide⟩ (by decide) (by decide) rfl rfl ?_
        refine aGo okX3_weightNow 1 (f' := (146, [some (.inr 64), some (.inl (i : Int)), some (.inl (far p c i)), some (.inl (near p c i)), some (.inl (max 1 (far p c i))), some (.inl ((max 1 (far p c i)) + (f.getD i 0))), some (.inl (max 1 ((max 1 (far p c i)) / 2)))], [.inl (max 1 ((max 1 (far p c i)) / 2))], _)) rfl ?_
        exact b_ret (v := (some (.inl (max 1 ((max 1 (far p c i)) / 2))))) ⟨rfl, Or.inl rfl⟩ ⟨by rw [wt_3 hsw], rfl⟩ rfl
      · refine b_cast (f' := (101, [some (.inr 64), some (.inl (i : Int)), some (.inl (far p c i)), some (.inl (near p c i)), some (.inl (max 1 (far p c i))), some (.inl ((max 1 (far p c i)) + (f.getD i 0))), some (.inl (max 1 ((max 1 (far p c i)) / 2)))], [.inl 4], [A0, B, (moSeg 64 k f c n kp l nt w sh (p : Int) t d wa), A3, B4, A5, C6])) (congrArg (fun z : Int => ((101, [some (.inr 64), some (.inl (i : Int)), some (.inl (far p c i)), some (.inl (near p c i)), some (.inl (max 1 (far p c i))), some (.inl ((max 1 (far p c i)) + (f.getD i 0))), some (.inl (max 1 ((max 1 (far p c i)) / 2)))], .inl z :: [], [A0, B, (moSeg 64 k f c n kp l nt w sh (p : Int) t d wa), A3, B4, A5, C6]) : aF)) hsw) ?_
        refine b_swIn (tgt := 147) okX3_weightNow rfl ⟨by decide, by decide⟩ (by decide) (by decide) rfl rfl ?_
        refine aGo okX3_weightNow 2 (f' := (149, [some (.inr 64), some (.inl (i : Int)), some (.inl (far p c i)), some (.inl (near p c i)), some (.inl (max 1 (far p c i))), some (.inl ((max 1 (far p c i)) + (f.getD i 0))), some (.inl (max 1 ((max 1 (far p c i)) / 2)))], [.inl 3, .inl (near p c i)], _)) rfl ?_
        refine b_ge (tgt := 157) okX3_weightNow rfl rfl ⟨by omega, by omega⟩ ⟨by omega, by omega⟩ (fun h149 => ?_) (fun h149 => ?_)
        · refine aGo okX3_weightNow 3 (f' := (161, [some (.inr 64), some (.inl (i : Int)), some (.inl (far p c i)), some (.inl (near p c i)), some (.inl (max 1 (far p c i))), some (.inl ((max 1 (far p c i)) + (f.getD i 0))), some (.inl (max 1 ((max 1 (far p c i)) / 2)))], [.inl (((max 1 (far p c i)) + (f.getD i 0)) + 5)], _)) rfl ?_
          exact b_ret (v := (some (.inl (((max 1 (far p c i)) + (f.getD i 0)) + 5)))) ⟨rfl, Or.inl rfl⟩ ⟨by rw [wt_4f hsw (by omega)], rfl⟩ rfl
        · refine aGo okX3_weightNow 2 (f' := (161, [some (.inr 64), some (.inl (i : Int)), some (.inl (far p c i)), some (.inl (near p c i)), some (.inl (max 1 (far p c i))), some (.inl ((max 1 (far p c i)) + (f.getD i 0))), some (.inl (max 1 ((max 1 (far p c i)) / 2)))], [.inl ((max 1 (far p c i)) + (f.getD i 0))], _)) rfl ?_
          exact b_ret (v := (some (.inl ((max 1 (far p c i)) + (f.getD i 0))))) ⟨rfl, Or.inl rfl⟩ ⟨by rw [wt_4t hsw (by omega)], rfl⟩ rfl
      · refine b_cast (f' := (101, [some (.inr 64), some (.inl (i : Int)), some (.inl (far p c i)), some (.inl (near p c i)), some (.inl (max 1 (far p c i))), some (.inl ((max 1 (far p c i)) + (f.getD i 0))), some (.inl (max 1 ((max 1 (far p c i)) / 2)))], [.inl 5], [A0, B, (moSeg 64 k f c n kp l nt w sh (p : Int) t d wa), A3, B4, A5, C6])) (congrArg (fun z : Int => ((101, [some (.inr 64), some (.inl (i : Int)), some (.inl (far p c i)), some (.inl (near p c i)), some (.inl (max 1 (far p c i))), some (.inl ((max 1 (far p c i)) + (f.getD i 0))), some (.inl (max 1 ((max 1 (far p c i)) / 2)))], .inl z :: [], [A0, B, (moSeg 64 k f c n kp l nt w sh (p : Int) t d wa), A3, B4, A5, C6]) : aF)) hsw) ?_
        refine b_swIn (tgt := 162) okX3_weightNow rfl ⟨by decide, by decide⟩ (by decide) (by decide) rfl rfl ?_
        refine aGo okX3_weightNow 5 (f' := (170, [some (.inr 64), some (.inl (i : Int)), some (.inl (far p c i)), some (.inl (near p c i)), some (.inl (max 1 (far p c i))), some (.inl ((max 1 (far p c i)) + (f.getD i 0))), some (.inl (max 1 ((max 1 (far p c i)) / 2)))], [.inl (i : Int), .inr 67, .inl (max 1 ((max 1 (far p c i)) / 2)), .inl 1], _)) rfl ?_
        refine b_vV (as := [.inl (i : Int)]) (rest := [.inl (max 1 ((max 1 (far p c i)) / 2)), .inl 1]) (k := 67) (.inl (f.getD i 0)) okX3_weightNow rfl lkX3_65 caX4_at (Nat.le_of_ble_eq_true rfl) rfl (Nat.le_of_ble_eq_true rfl) rfl rfl rfl (c_at (i := i) rfl rfl (by first | omega | (simp only [List.length_set]; omega)) (by omega)) ?_
        refine aGo okX3_weightNow 1 (f' := (174, [some (.inr 64), some (.inl (i : Int)), some (.inl (far p c i)), some (.inl (near p c i)), some (.inl (max 1 (far p c i))), some (.inl ((max 1 (far p c i)) + (f.getD i 0))), some (.inl (max 1 ((max 1 (far p c i)) / 2)))], [.inl ((max 1 ((max 1 (far p c i)) / 2)) - (f.getD i 0)), .inl 1], _)) rfl ?_
        refine b_max okX3_weightNow rfl lkX3_86 ma_max_s ma_max_c (Nat.le_of_ble_eq_true rfl) (Nat.le_of_ble_eq_true rfl) ⟨by omega, by omega⟩ ⟨by omega, by omega⟩ ?_
        exact b_ret (v := (some (.inl (max 1 ((max 1 ((max 1 (far p c i)) / 2)) - (f.getD i 0)))))) ⟨rfl, Or.inl rfl⟩ ⟨by rw [wt_5 hsw], rfl⟩ rfl
    | succ j ih =>
      intro q  hij 
      have q1 := rc i
      have q2 := rc q
      have q3 := far_le (p := q) rc i
      have q4 := near_le (p := q) rc i
      have q5 := stp_le (rc i) (rc q)
      unfold far at q3
      refine aGo okX3_weightNow 3 (f' := (14, [some (.inr 64), some (.inl (i : Int)), some (.inl (sumN q (fun q => stp (c.getD i 0) (c.getD q 0)))), some (.inl (near q c i)), some (.inl (q : Int)), none, none], [.inl (p : Int), .inl (q : Int)], _)) rfl ?_
      refine b_ge (tgt := 63) okX3_weightNow rfl rfl ⟨by omega, by omega⟩ ⟨by omega, by omega⟩ (fun h14 => absurd h14 (by omega)) (fun h14 => ?_)
      refine aGo okX3_weightNow 2 (f' := (20, [some (.inr 64), some (.inl (i : Int)), some (.inl (sumN q (fun q => stp (c.getD i 0) (c.getD q 0)))), some (.inl (near q c i)), some (.inl (q : Int)), none, none], [.inl (i : Int), .inl (q : Int)], _)) rfl ?_
      refine b_eq (tgt := 57) okX3_weightNow rfl rfl ⟨by omega, by omega⟩ ⟨by omega, by omega⟩ (fun h20 => ?_) (fun h20 => ?_)
      · have hqi : q = i := by omega
        refine aGo okX3_weightNow 2 (f' := (8, [some (.inr 64), some (.inl (i : Int)), some (.inl (sumN q (fun q => stp (c.getD i 0) (c.getD q 0)))), some (.inl (near q c i)), some (.inl ((q : Int) + 1)), none, none], [], _)) rfl ?_
        refine b_cast (f' := (8, [some (.inr 64), some (.inl (i : Int)), some (.inl (sumN (q + 1) (fun q => stp (c.getD i 0) (c.getD q 0)))), some (.inl (near (q + 1) c i)), some (.inl ((q : Int) + 1)), none, none], [], [A0, B, (moSeg 64 k f c n kp l nt w sh (p : Int) t d wa), A3, B4, A5, C6])) (by simp only [sumN, near]; rw [if_pos hqi, hqi, stp_self, Int.add_zero]) ?_
        exact ih (q + 1) (by omega)
      · refine aGo okX3_weightNow 3 (f' := (28, [some (.inr 64), some (.inl (i : Int)), some (.inl (sumN q (fun q => stp (c.getD i 0) (c.getD q 0)))), some (.inl (near q c i)), some (.inl (q : Int)), none, none], [.inl (i : Int), .inr 69], _)) rfl ?_
        refine b_vV (as := [.inl (i : Int)]) (rest := []) (k := 69) (.inl (c.getD i 0)) okX3_weightNow rfl lkX3_65 caX4_at (Nat.le_of_ble_eq_true rfl) rfl (Nat.le_of_ble_eq_true rfl) rfl rfl rfl (c_at (i := i) rfl rfl (by first | omega | (simp only [List.length_set]; omega)) (by omega)) ?_
        refine aGo okX3_weightNow 3 (f' := (37, [some (.inr 64), some (.inl (i : Int)), some (.inl (sumN q (fun q => stp (c.getD i 0) (c.getD q 0)))), some (.inl (near q c i)), some (.inl (q : Int)), none, none], [.inl (q : Int), .inr 69, .inl (c.getD i 0)], _)) rfl ?_
        refine b_vV (as := [.inl (q : Int)]) (rest := [.inl (c.getD i 0)]) (k := 69) (.inl (c.getD q 0)) okX3_weightNow rfl lkX3_65 caX4_at (Nat.le_of_ble_eq_true rfl) rfl (Nat.le_of_ble_eq_true rfl) rfl rfl rfl (c_at (i := q) rfl rfl (by first | omega | (simp only [List.length_set]; omega)) (by omega)) ?_
        refine b_vT (as := [.inl (c.getD i 0), .inl (c.getD q 0)]) (rest := []) (.inl (stp (c.getD i 0) (c.getD q 0))) okX3_weightNow rfl lkX3_69 caX7_steps (Nat.le_of_ble_eq_true rfl) rfl (Nat.le_of_ble_eq_true rfl) rfl (c_steps ⟨by omega, by omega⟩ ⟨by omega, by omega⟩) ?_
        refine aGo okX3_weightNow 7 (f' := (53, [some (.inr 64), some (.inl (i : Int)), some (.inl ((sumN q (fun q => stp (c.getD i 0) (c.getD q 0))) + (stp (c.getD i 0) (c.getD q 0)))), some (.inl (near q c i)), some (.inl (q : Int)), some (.inl (stp (c.getD i 0) (c.getD q 0))), none], [.inl (stp (c.getD i 0) (c.getD q 0)), .inl (near q c i)], _)) rfl ?_
        refine b_min okX3_weightNow rfl lkX3_112 ma_min_s ma_min_c (Nat.le_of_ble_eq_true rfl) (Nat.le_of_ble_eq_true rfl) ⟨by omega, by omega⟩ ⟨by omega, by omega⟩ ?_
        refine aGo okX3_weightNow 1 (f' := (57, [some (.inr 64), some (.inl (i : Int)), some (.inl ((sumN q (fun q => stp (c.getD i 0) (c.getD q 0))) + (stp (c.getD i 0) (c.getD q 0)))), some (.inl (min (near q c i) (stp (c.getD i 0) (c.getD q 0)))), some (.inl (q : Int)), some (.inl (stp (c.getD i 0) (c.getD q 0))), none], [], _)) rfl ?_
        have hqi : ¬ q = i := by omega
        refine aGo okX3_weightNow 2 (f' := (8, [some (.inr 64), some (.inl (i : Int)), some (.inl ((sumN q (fun q => stp (c.getD i 0) (c.getD q 0))) + (stp (c.getD i 0) (c.getD q 0)))), some (.inl (min (near q c i) (stp (c.getD i 0) (c.getD q 0)))), some (.inl ((q : Int) + 1)), some (.inl (stp (c.getD i 0) (c.getD q 0))), none], [], _)) rfl ?_
        refine b_cast (f' := (8, [some (.inr 64), some (.inl (i : Int)), some (.inl (sumN (q + 1) (fun q => stp (c.getD i 0) (c.getD q 0)))), some (.inl (near (q + 1) c i)), some (.inl ((q : Int) + 1)), some (.inl (stp (c.getD i 0) (c.getD q 0))), none], [], [A0, B, (moSeg 64 k f c n kp l nt w sh (p : Int) t d wa), A3, B4, A5, C6])) (by simp only [sumN, near]; rw [if_neg hqi]) ?_
        refine b_lose (ls' := [some (.inr 64), some (.inl (i : Int)), some (.inl (sumN (q + 1) (fun q => stp (c.getD i 0) (c.getD q 0)))), some (.inl (near (q + 1) c i)), some (.inl ((q : Int) + 1)), none, none]) (lose5g _ _ _ _ _ _ _) ?_
        exact ih (q + 1) (by omega)
  refine aGo okX3_weightNow 6 (f' := (8, [some (.inr 64), some (.inl (i : Int)), some (.inl 0), some (.inl 10), some (.inl 0), none, none], [], _)) rfl ?_
  exact lp p 0 (by omega)
set_option maxHeartbeats 4000000 in
theorem c_shareOut_2 {W : Nat → Int} (hp : p ≤ 7) (hsh : sh.length = 7) (hwl : w.length = 7) (ht : 0 ≤ t ∧ t ≤ 999) (hw : ∀ q, q < p → w.getD q 0 = W q) (hW : ∀ q, q < p → 1 ≤ W q ∧ W q ≤ 200) (hwa : wa = sumN p W) : aEv mX3_shareOut 1 0 0 N [.inr 64] [A0, B, (moSeg 64 k f c n kp l nt w sh (p : Int) t d wa), A3, B4, A5, C6] ((fun rv h => rv = none ∧ ∃ sh2 : List Int, sh2.length = 7 ∧ (∀ q, q < p → sh2.getD q 0 = shrS p W t q) ∧ h = [A0, B, (moSeg 64 k f c n kp l nt w sh2 (p : Int) t d wa), A3, B4, A5, C6])) := by
  have hlef : 0 < p → 0 ≤ lefS p W t ∧ lefS p W t < p := fun z => lefS_le z (fun q hq => (hW q hq).1)
  refine aEv_of okX3_shareOut caX3_shareOut (Nat.le_of_ble_eq_true rfl) ?_
  have l2 : ∀ (j i : Nat) (m : List Int), i + j = p → (m.length = 7) → (∀ q, q < i → m.getD q 0 = shrS p W t q) → (∀ q, i ≤ q → q < p → m.getD q 0 = cutS p W t q) → AW mX3_shareOut 1 0 0 N none (fun rv h => rv = none ∧ ∃ sh2 : List Int, sh2.length = 7 ∧ (∀ q, q < p → sh2.getD q 0 = shrS p W t q) ∧ h = [A0, B, (moSeg 64 k f c n kp l nt w sh2 (p : Int) t d wa), A3, B4, A5, C6]) (66, [some (.inr 64), some (.inl (lefS p W t)), some (.inl (i : Int)), none], [], [A0, B, (moSeg 64 k f c n kp l nt w m (p : Int) t d wa), A3, B4, A5, C6]) := by
    intro j
    induction j with
    | zero =>
      intro i m hij h1 h2 h3
      obtain rfl : p = i := by omega
      refine aGo okX3_shareOut 3 (f' := (71, [some (.inr 64), some (.inl (lefS p W t)), some (.inl (p : Int)), none], [.inl (p : Int), .inl (p : Int)], _)) rfl ?_
      refine b_ge (tgt := 103) okX3_shareOut rfl rfl ⟨by omega, by omega⟩ ⟨by omega, by omega⟩ (fun h71 => ?_) (fun h71 => absurd h71 (by omega))
      exact b_ret (v := none) ⟨rfl, rfl⟩ ⟨rfl, m, h1, fun q hq => h2 q hq, rfl⟩ rfl
    | succ j ih =>
      intro i m hij h1 h2 h3
      have q1 := hlef (by omega)
      have q2 := h3 i (Nat.le_refl i) (by omega)
      have q3 := cutS_le ht.1 (fun q hq => (hW q hq).1) (show i < p by omega)
      refine aGo okX3_shareOut 3 (f' := (71, [some (.inr 64), some (.inl (lefS p W t)), some (.inl (i : Int)), none], [.inl (p : Int), .inl (i : Int)], _)) rfl ?_
      refine b_ge (tgt := 103) okX3_shareOut rfl rfl ⟨by omega, by omega⟩ ⟨by omega, by omega⟩ (fun h71 => absurd h71 (by omega)) (fun h71 => ?_)
      refine aGo okX3_shareOut 2 (f' := (76, [some (.inr 64), some (.inl (lefS p W t)), some (.inl (i : Int)), none], [.inl (lefS p W t), .inl (i : Int)], _)) rfl ?_
      refine b_ge (tgt := 103) okX3_shareOut rfl rfl ⟨by omega, by omega⟩ ⟨by omega, by omega⟩ (fun h76 => ?_) (fun h76 => ?_)
      · exact b_ret (v := none) ⟨rfl, rfl⟩ ⟨rfl, m, h1, shrS_end (by omega) h2 h3, rfl⟩ rfl
      · refine aGo okX3_shareOut 6 (f' := (89, [some (.inr 64), some (.inl (lefS p W t)), some (.inl (i : Int)), none], [.inl (i : Int), .inr 81, .inl (i : Int), .inr 81], _)) rfl ?_
        refine b_vV (as := [.inl (i : Int)]) (rest := [.inl (i : Int), .inr 81]) (k := 81) (.inl (m.getD i 0)) okX3_shareOut rfl lkX3_65 caX4_at (Nat.le_of_ble_eq_true rfl) rfl (Nat.le_of_ble_eq_true rfl) rfl rfl rfl (c_at (i := i) rfl rfl (by first | omega | (simp only [List.length_set]; omega)) (by omega)) ?_
        refine aGo okX3_shareOut 2 (f' := (94, [some (.inr 64), some (.inl (lefS p W t)), some (.inl (i : Int)), none], [.inl ((m.getD i 0) + 1), .inl (i : Int), .inr 81], _)) rfl ?_
        refine b_vN (as := [.inl (i : Int), .inl ((m.getD i 0) + 1)]) (rest := []) (k := 81) okX3_shareOut rfl lkX3_98 caX4_put (Nat.le_of_ble_eq_true rfl) rfl (Nat.le_of_ble_eq_true rfl) rfl rfl rfl (c_put (i := i) rfl rfl (by first | omega | (simp only [List.length_set]; omega)) (by first | omega | (simp only [List.length_set]; omega)) ((m.getD i 0) + 1)) ?_
        refine b_cast (f' := (97, [some (.inr 64), some (.inl (lefS p W t)), some (.inl (i : Int)), none], [], [A0, B, (moSeg 64 k f c n kp l nt w (m.set i ((m.getD i 0) + 1)) (p : Int) t d wa), A3, B4, A5, C6])) rfl ?_
        refine aGo okX3_shareOut 2 (f' := (66, [some (.inr 64), some (.inl (lefS p W t)), some (.inl ((i : Int) + 1)), none], [], _)) rfl ?_
        exact ih (i + 1) (m.set i (m.getD i 0 + 1)) (by omega) (by rw [List.length_set]; exact h1) (set_upto (by omega) (by rw [q2, shrS_in (by omega)]) h2) (fun q hq1 hq2 => by rw [getD_set_ne (by omega)]; exact h3 q (by omega) hq2)
  have l1 : ∀ (j i : Nat) (m : List Int), i + j = p → (m.length = 7) → (∀ q, q < i → m.getD q 0 = cutS p W t q) → AW mX3_shareOut 1 0 0 N none (fun rv h => rv = none ∧ ∃ sh2 : List Int, sh2.length = 7 ∧ (∀ q, q < p → sh2.getD q 0 = shrS p W t q) ∧ h = [A0, B, (moSeg 64 k f c n kp l nt w sh2 (p : Int) t d wa), A3, B4, A5, C6]) (7, [some (.inr 64), some (.inl (t - sumN i (cutS p W t))), some (.inl (i : Int)), none], [], [A0, B, (moSeg 64 k f c n kp l nt w m (p : Int) t d wa), A3, B4, A5, C6]) := by
    intro j
    induction j with
    | zero =>
      intro i m hij h1 h2
      obtain rfl : p = i := by omega
      refine aGo okX3_shareOut 3 (f' := (12, [some (.inr 64), some (.inl (t - sumN p (cutS p W t))), some (.inl (p : Int)), none], [.inl (p : Int), .inl (p : Int)], _)) rfl ?_
      refine b_ge (tgt := 64) okX3_shareOut rfl rfl ⟨by omega, by omega⟩ ⟨by omega, by omega⟩ (fun h12 => ?_) (fun h12 => absurd h12 (by omega))
      refine b_cast (f' := (64, [some (.inr 64), some (.inl (lefS p W t)), some (.inl (p : Int)), none], [], [A0, B, (moSeg 64 k f c n kp l nt w m (p : Int) t d wa), A3, B4, A5, C6])) (rfl) ?_
      refine aGo okX3_shareOut 2 (f' := (66, [some (.inr 64), some (.inl (lefS p W t)), some (.inl 0), none], [], _)) rfl ?_
      exact l2 p 0 m (by omega) h1 (fun q hq => by omega) (fun q _ hq => h2 q hq)
    | succ j ih =>
      intro i m hij h1 h2
      have q1 := hw i (by omega)
      have q2 := hW i (by omega)
      have q3 := sum_pos (p := p) (w := W) (by omega) (fun q hq => (hW q hq).1)
      have q4 := mulB ht q2
      rw [← q1] at q4
      have q5 := sumN_le (n := p) (F := W) (b := 200) (fun q hq => (hW q hq).2)
      refine aGo okX3_shareOut 3 (f' := (12, [some (.inr 64), some (.inl (t - sumN i (cutS p W t))), some (.inl (i : Int)), none], [.inl (p : Int), .inl (i : Int)], _)) rfl ?_
      refine b_ge (tgt := 64) okX3_shareOut rfl rfl ⟨by omega, by omega⟩ ⟨by omega, by omega⟩ (fun h12 => absurd h12 (by omega)) (fun h12 => ?_)
      refine aGo okX3_shareOut 2 (f' := (19, [some (.inr 64), some (.inl (t - sumN i (cutS p W t))), some (.inl (i : Int)), none], [.inl wa], _)) rfl ?_
      refine b0_le (tgt := 43) okX3_shareOut rfl rfl ⟨by omega, by omega⟩ (fun h19 => absurd h19 (by omega)) (fun h19 => ?_)
      refine aGo okX3_shareOut 5 (f' := (31, [some (.inr 64), some (.inl (t - sumN i (cutS p W t))), some (.inl (i : Int)), none], [.inl (i : Int), .inr 79, .inl t], _)) rfl ?_
      refine b_vV (as := [.inl (i : Int)]) (rest := [.inl t]) (k := 79) (.inl (w.getD i 0)) okX3_shareOut rfl lkX3_65 caX4_at (Nat.le_of_ble_eq_true rfl) rfl (Nat.le_of_ble_eq_true rfl) rfl rfl rfl (c_at (i := i) rfl rfl (by first | omega | (simp only [List.length_set]; omega)) (by omega)) ?_
      refine aGo okX3_shareOut 3 (f' := (39, [some (.inr 64), some (.inl (t - sumN i (cutS p W t))), some (.inl (i : Int)), none], [.inl wa, .inl (t * (w.getD i 0))], _)) rfl ?_
      refine b_div okX3_shareOut rfl ⟨by omega, by omega⟩ ⟨by omega, by omega⟩ ?_
      refine aGo okX3_shareOut 1 (f' := (44, [some (.inr 64), some (.inl (t - sumN i (cutS p W t))), some (.inl (i : Int)), none], [.inl ((t * (w.getD i 0)) / wa)], _)) rfl ?_
      refine b_cast (f' := (44, [some (.inr 64), some (.inl (t - sumN i (cutS p W t))), some (.inl (i : Int)), none], [.inl (cutS p W t i)], [A0, B, (moSeg 64 k f c n kp l nt w m (p : Int) t d wa), A3, B4, A5, C6])) (by unfold cutS; rw [q1, hwa]) ?_
      refine aGo okX3_shareOut 5 (f' := (51, [some (.inr 64), some (.inl (t - sumN i (cutS p W t))), some (.inl (i : Int)), some (.inl (cutS p W t i))], [.inl (cutS p W t i), .inl (i : Int), .inr 81], _)) rfl ?_
      refine b_vN (as := [.inl (i : Int), .inl (cutS p W t i)]) (rest := []) (k := 81) okX3_shareOut rfl lkX3_98 caX4_put (Nat.le_of_ble_eq_true rfl) rfl (Nat.le_of_ble_eq_true rfl) rfl rfl rfl (c_put (i := i) rfl rfl (by first | omega | (simp only [List.length_set]; omega)) (by first | omega | (simp only [List.length_set]; omega)) (cutS p W t i)) ?_
      refine b_cast (f' := (54, [some (.inr 64), some (.inl (t - sumN i (cutS p W t))), some (.inl (i : Int)), some (.inl (cutS p W t i))], [], [A0, B, (moSeg 64 k f c n kp l nt w (m.set i (cutS p W t i)) (p : Int) t d wa), A3, B4, A5, C6])) rfl ?_
      refine aGo okX3_shareOut 6 (f' := (7, [some (.inr 64), some (.inl ((t - sumN i (cutS p W t)) - (cutS p W t i))), some (.inl ((i : Int) + 1)), some (.inl (cutS p W t i))], [], _)) rfl ?_
      refine b_cast (f' := (7, [some (.inr 64), some (.inl (t - sumN (i + 1) (cutS p W t))), some (.inl ((i : Int) + 1)), some (.inl (cutS p W t i))], [], [A0, B, (moSeg 64 k f c n kp l nt w (m.set i (cutS p W t i)) (p : Int) t d wa), A3, B4, A5, C6])) (by simp only [sumN]; rw [show t - sumN i (cutS p W t) - cutS p W t i = t - (sumN i (cutS p W t) + cutS p W t i) by omega]) ?_
      refine b_lose (ls' := [some (.inr 64), some (.inl (t - sumN (i + 1) (cutS p W t))), some (.inl ((i : Int) + 1)), none]) (lose3 _ _ _ _) ?_
      exact ih (i + 1) (m.set i (cutS p W t i)) (by omega) (by rw [List.length_set]; exact h1) (set_upto (by omega) rfl h2)
  refine aGo okX3_shareOut 5 (f' := (7, [some (.inr 64), some (.inl t), some (.inl 0), none], [], _)) rfl ?_
  refine b_cast (f' := (7, [some (.inr 64), some (.inl (t - sumN 0 (cutS p W t))), some (.inl 0), none], [], [A0, B, (moSeg 64 k f c n kp l nt w sh (p : Int) t d wa), A3, B4, A5, C6])) (by simp only [sumN]; rw [Int.sub_zero]) ?_
  exact l1 p 0 sh (by omega) hsh (fun q hq => by omega)
set_option maxHeartbeats 4000000 in
theorem c_weigh_2 (hb : wH p k f c w sh t) : aEv mX3_weigh 3 0 0 N [.inr 64] [A0, B, (moSeg 64 k f c n kp l nt w sh (p : Int) t d wa), A3, B4, A5, C6] ((fun rv h => rv = none ∧ ∃ w2 sh2 : List Int, wOK p k f c w2 (wAll p k f c) ∧ sOK p k f c sh2 t ∧ h = [A0, B, (moSeg 64 k f c n kp l nt w2 sh2 (p : Int) t d (wAll p k f c)), A3, B4, A5, C6])) := by
  obtain ⟨hp7, hk, hf, hc, hw, hsh, rk, rf, rc, ht0, ht1⟩ := hb
  refine aEv_of okX3_weigh caX3_weigh (Nat.le_of_ble_eq_true rfl) ?_
  have lp : ∀ (j i : Nat) (m : List Int), i + j = p → (m.length = 7) → (∀ q, q < i → m.getD q 0 = wt p k f c q) → AW mX3_weigh 3 0 0 N none (fun rv h => rv = none ∧ ∃ w2 sh2 : List Int, wOK p k f c w2 (wAll p k f c) ∧ sOK p k f c sh2 t ∧ h = [A0, B, (moSeg 64 k f c n kp l nt w2 sh2 (p : Int) t d (wAll p k f c)), A3, B4, A5, C6]) (7, [some (.inr 64), some (.inl (i : Int)), none], [], [A0, B, (moSeg 64 k f c n kp l nt m sh (p : Int) t d (sumN i (wt p k f c))), A3, B4, A5, C6]) := by
    intro j
    induction j with
    | zero =>
      intro i m hij h1 h2
      obtain rfl : p = i := by omega
      refine aGo okX3_weigh 3 (f' := (12, [some (.inr 64), some (.inl (p : Int)), none], [.inl (p : Int), .inl (p : Int)], _)) rfl ?_
      refine b_ge (tgt := 46) okX3_weigh rfl rfl ⟨by omega, by omega⟩ ⟨by omega, by omega⟩ (fun h12 => ?_) (fun h12 => absurd h12 (by omega))
      refine aGo okX3_weigh 1 (f' := (47, [some (.inr 64), some (.inl (p : Int)), none], [.inr 64], _)) rfl ?_
      refine b_vE (as := []) (rest := []) (k := 64) okX3_weigh rfl lkX3_95 caX3_shareOut (Nat.le_of_ble_eq_true rfl) rfl (Nat.le_of_ble_eq_true rfl) rfl rfl rfl (c_shareOut_2 (W := wt p k f c) hp7 hsh h1 ⟨ht0, ht1⟩ h2 (fun q hq => wt_le hp7 rf rc q) rfl) ?_
      rintro _ _ ⟨rfl, sh2, z1, z2, rfl⟩
      exact b_ret (v := none) ⟨rfl, rfl⟩ ⟨rfl, m, sh2, ⟨h1, h2, rfl⟩, ⟨z1, z2⟩, rfl⟩ rfl
    | succ j ih =>
      intro i m hij h1 h2
      refine aGo okX3_weigh 3 (f' := (12, [some (.inr 64), some (.inl (i : Int)), none], [.inl (p : Int), .inl (i : Int)], _)) rfl ?_
      refine b_ge (tgt := 46) okX3_weigh rfl rfl ⟨by omega, by omega⟩ ⟨by omega, by omega⟩ (fun h12 => absurd h12 (by omega)) (fun h12 => ?_)
      refine aGo okX3_weigh 2 (f' := (17, [some (.inr 64), some (.inl (i : Int)), none], [.inl (i : Int), .inr 64], _)) rfl ?_
      refine b_vV (as := [.inl (i : Int)]) (rest := []) (k := 64) (.inl (wt p k f c i)) okX3_weigh rfl lkX3_115 caX3_weightNow (Nat.le_of_ble_eq_true rfl) rfl (Nat.le_of_ble_eq_true rfl) rfl rfl rfl (c_weightNow_2 ⟨hp7, hk, hf, hc, h1, hsh, rk, rf, rc, ht0, ht1⟩ (i := i) (by omega)) ?_
      refine aGo okX3_weigh 5 (f' := (27, [some (.inr 64), some (.inl (i : Int)), some (.inl (wt p k f c i))], [.inl (wt p k f c i), .inl (i : Int), .inr 79], _)) rfl ?_
      refine b_vN (as := [.inl (i : Int), .inl (wt p k f c i)]) (rest := []) (k := 79) okX3_weigh rfl lkX3_98 caX4_put (Nat.le_of_ble_eq_true rfl) rfl (Nat.le_of_ble_eq_true rfl) rfl rfl rfl (c_put (i := i) rfl rfl (by first | omega | (simp only [List.length_set]; omega)) (by first | omega | (simp only [List.length_set]; omega)) (wt p k f c i)) ?_
      refine b_cast (f' := (30, [some (.inr 64), some (.inl (i : Int)), some (.inl (wt p k f c i))], [], [A0, B, (moSeg 64 k f c n kp l nt (m.set i (wt p k f c i)) sh (p : Int) t d (sumN i (wt p k f c))), A3, B4, A5, C6])) rfl ?_
      refine aGo okX3_weigh 8 (f' := (7, [some (.inr 64), some (.inl ((i : Int) + 1)), some (.inl (wt p k f c i))], [], [A0, B, (moSeg 64 k f c n kp l nt (m.set i (wt p k f c i)) sh (p : Int) t d ((sumN i (wt p k f c)) + (wt p k f c i))), A3, B4, A5, C6])) rfl ?_
      refine b_cast (f' := (7, [some (.inr 64), some (.inl ((i : Int) + 1)), some (.inl (wt p k f c i))], [], [A0, B, (moSeg 64 k f c n kp l nt (m.set i (wt p k f c i)) sh (p : Int) t d (sumN (i + 1) (wt p k f c))), A3, B4, A5, C6])) rfl ?_
      refine b_lose (ls' := [some (.inr 64), some (.inl ((i : Int) + 1)), none]) (lose2 _ _ _) ?_
      exact ih (i + 1) (m.set i (wt p k f c i)) (by omega) (by rw [List.length_set]; exact h1) (set_upto (by omega) rfl h2)
  refine aGo okX3_weigh 5 (f' := (7, [some (.inr 64), some (.inl 0), none], [], [A0, B, (moSeg 64 k f c n kp l nt w sh (p : Int) t d 0), A3, B4, A5, C6])) rfl ?_
  exact lp p 0 w (by omega) hw (fun q hq => by omega)
end AMQ
end
section
theorem lose4g (a0 a1 a2 a3 a4 : Option aV) : ∀ (i : Nat) (v : aV), [a0, a1, a2, a3, none][i]? = some (some v) → [a0, a1, a2, a3, a4][i]? = some (some v) := by
  intro i v h
  match i, h with
  | 0, h => exact h
  | 1, h => exact h
  | 2, h => exact h
  | 3, h => exact h
  | 4, h => cases h
  | i + 5, h => exact h
/-! Changes that bring weights up to date, one more, one less, copies, pairs; laid by gen_moor4.py -/
section AMR
variable {A0 B A3 B4 A5 C6 : List (Option aE)} {k f c n kp l nt w sh : List Int} {p : Nat} {t d wa : Int} {N : Nat}
set_option maxRecDepth 100000 in
set_option maxHeartbeats 4000000 in
theorem c_setTotal_1 (hb : wH p k f c w sh t) (hwo : wOK p k f c w wa) {v : Int} (hv0 : 0 ≤ v) (hv1 : v ≤ 999) : aEv mX3_setTotal 2 0 0 N [.inr 32, .inl v] [A0, (moSeg 32 k f c n kp l nt w sh (p : Int) t d wa), B, A3, B4, A5, C6] ((fun rv h => rv = none ∧ ∃ sh2 : List Int, sOK p k f c sh2 v ∧ h = [A0, (moSeg 32 k f c n kp l nt w sh2 (p : Int) v d wa), B, A3, B4, A5, C6])) := by
  obtain ⟨hp7, hk, hf, hc, hw, hsh, rk, rf, rc, ht0, ht1⟩ := hb
  refine aEv_of okX3_setTotal caX3_setTotal (Nat.le_of_ble_eq_true rfl) ?_
  refine aGo okX3_setTotal 4 (f' := (6, [some (.inr 32), some (.inl v)], [.inr 32], [A0, (moSeg 32 k f c n kp l nt w sh (p : Int) v d wa), B, A3, B4, A5, C6])) rfl ?_
  refine b_vE (as := []) (rest := []) (k := 32) okX3_setTotal rfl lkX3_95 caX3_shareOut (Nat.le_of_ble_eq_true rfl) rfl (Nat.le_of_ble_eq_true rfl) rfl rfl rfl (c_shareOut_1 (W := wt p k f c) hp7 hsh hw ⟨hv0, hv1⟩ hwo.2.1 (fun q hq => wt_le hp7 rf rc q) hwo.2.2) ?_
  rintro _ _ ⟨rfl, sh2, z1, z2, rfl⟩
  exact b_ret (v := none) ⟨rfl, rfl⟩ ⟨rfl, sh2, ⟨z1, z2⟩, rfl⟩ rfl
set_option maxRecDepth 100000 in
set_option maxHeartbeats 4000000 in
theorem c_setLent_1 (hp : p ≤ 7) (hnt : nt.length = 7) (hl : l.length = 49) {i j : Nat} (hi : i < 7) (hj : j < 7) (v : Int) : aEv mX3_setLent 3 0 0 N [.inr 32, .inl (i : Int), .inl (j : Int), .inl v] [A0, (moSeg 32 k f c n kp l nt w sh (p : Int) t d wa), B, A3, B4, A5, C6] ((fun rv h => rv = none ∧ ∃ nt2 : List Int, nOK p (l.set (7 * i + j) v) nt2 ∧ h = [A0, (moSeg 32 k f c n kp (l.set (7 * i + j) v) nt2 w sh (p : Int) t d wa), B, A3, B4, A5, C6])) := by
  refine aEv_of okX3_setLent caX3_setLent (Nat.le_of_ble_eq_true rfl) ?_
  refine aGo okX3_setLent 4 (f' := (4, [some (.inr 32), some (.inl (i : Int)), some (.inl (j : Int)), some (.inl v)], [.inl v, .inl (j : Int), .inl (i : Int), .inr 32], _)) rfl ?_
  refine b_vN (as := [.inl (i : Int), .inl (j : Int), .inl v]) (rest := []) (k := 32) okX3_setLent rfl lkX3_102 caX3_putLent (Nat.le_of_ble_eq_true rfl) rfl (Nat.le_of_ble_eq_true rfl) rfl rfl rfl (c_putLent_1 (i := i) (j := j) (by first | omega | (simp only [List.length_set]; omega)) (by omega) (by omega) v) ?_
  refine b_cast (f' := (7, [some (.inr 32), some (.inl (i : Int)), some (.inl (j : Int)), some (.inl v)], [], [A0, (moSeg 32 k f c n kp (l.set (7 * i + j) v) nt w sh (p : Int) t d wa), B, A3, B4, A5, C6])) rfl ?_
  refine aGo okX3_setLent 1 (f' := (8, [some (.inr 32), some (.inl (i : Int)), some (.inl (j : Int)), some (.inl v)], [.inr 32], _)) rfl ?_
  refine b_vE (as := []) (rest := []) (k := 32) okX3_setLent rfl lkX3_106 caX3_netLoans (Nat.le_of_ble_eq_true rfl) rfl (Nat.le_of_ble_eq_true rfl) rfl rfl rfl (c_netLoans_1 (p := p) hp hnt (by rw [List.length_set]; exact hl)) ?_
  rintro _ _ ⟨rfl, nt2, zn, rfl⟩
  exact b_ret (v := none) ⟨rfl, rfl⟩ ⟨rfl, nt2, zn, rfl⟩ rfl
set_option maxRecDepth 100000 in
set_option maxHeartbeats 4000000 in
theorem c_setKind_1 (hb : wH p k f c w sh t) {i : Nat} (hi : i < 7) {v : Int} (hv0 : 0 ≤ v) (hv1 : v ≤ 5) : aEv mX3_setKind 4 0 0 N [.inr 32, .inl (i : Int), .inl v] [A0, (moSeg 32 k f c n kp l nt w sh (p : Int) t d wa), B, A3, B4, A5, C6] ((fun rv h => rv = none ∧ ∃ w2 sh2 : List Int, wOK p (k.set i v) f c w2 (wAll p (k.set i v) f c) ∧ sOK p (k.set i v) f c sh2 t ∧ h = [A0, (moSeg 32 (k.set i v) f c n kp l nt w2 sh2 (p : Int) t d (wAll p (k.set i v) f c)), B, A3, B4, A5, C6])) := by
  obtain ⟨hp7, hk, hf, hc, hw, hsh, rk, rf, rc, ht0, ht1⟩ := hb
  refine aEv_of okX3_setKind caX3_setKind (Nat.le_of_ble_eq_true rfl) ?_
  refine aGo okX3_setKind 4 (f' := (6, [some (.inr 32), some (.inl (i : Int)), some (.inl v)], [.inl v, .inl (i : Int), .inr 33], _)) rfl ?_
  refine b_vN (as := [.inl (i : Int), .inl v]) (rest := []) (k := 33) okX3_setKind rfl lkX3_98 caX4_put (Nat.le_of_ble_eq_true rfl) rfl (Nat.le_of_ble_eq_true rfl) rfl rfl rfl (c_put (i := i) rfl rfl (by first | omega | (simp only [List.length_set]; omega)) (by first | omega | (simp only [List.length_set]; omega)) v) ?_
  refine b_cast (f' := (9, [some (.inr 32), some (.inl (i : Int)), some (.inl v)], [], [A0, (moSeg 32 (k.set i v) f c n kp l nt w sh (p : Int) t d wa), B, A3, B4, A5, C6])) rfl ?_
  refine aGo okX3_setKind 1 (f' := (10, [some (.inr 32), some (.inl (i : Int)), some (.inl v)], [.inr 32], _)) rfl ?_
  refine b_vE (as := []) (rest := []) (k := 32) okX3_setKind rfl lkX3_109 caX3_weigh (Nat.le_of_ble_eq_true rfl) rfl (Nat.le_of_ble_eq_true rfl) rfl rfl rfl (c_weigh_1 (p := p) ⟨hp7, (by rw [List.length_set]; exact hk), hf, hc, hw, hsh, (rng_set rk hv0 hv1), rf, rc, ht0, ht1⟩) ?_
  rintro _ _ ⟨rfl, w2, sh2, zw, zs, rfl⟩
  exact b_ret (v := none) ⟨rfl, rfl⟩ ⟨rfl, w2, sh2, zw, zs, rfl⟩ rfl
set_option maxRecDepth 100000 in
set_option maxHeartbeats 4000000 in
theorem c_setFigure_1 (hb : wH p k f c w sh t) {i : Nat} (hi : i < 7) {v : Int} (hv0 : 0 ≤ v) (hv1 : v ≤ 9) : aEv mX3_setFigure 4 0 0 N [.inr 32, .inl (i : Int), .inl v] [A0, (moSeg 32 k f c n kp l nt w sh (p : Int) t d wa), B, A3, B4, A5, C6] ((fun rv h => rv = none ∧ ∃ w2 sh2 : List Int, wOK p k (f.set i v) c w2 (wAll p k (f.set i v) c) ∧ sOK p k (f.set i v) c sh2 t ∧ h = [A0, (moSeg 32 k (f.set i v) c n kp l nt w2 sh2 (p : Int) t d (wAll p k (f.set i v) c)), B, A3, B4, A5, C6])) := by
  obtain ⟨hp7, hk, hf, hc, hw, hsh, rk, rf, rc, ht0, ht1⟩ := hb
  refine aEv_of okX3_setFigure caX3_setFigure (Nat.le_of_ble_eq_true rfl) ?_
  refine aGo okX3_setFigure 4 (f' := (6, [some (.inr 32), some (.inl (i : Int)), some (.inl v)], [.inl v, .inl (i : Int), .inr 35], _)) rfl ?_
  refine b_vN (as := [.inl (i : Int), .inl v]) (rest := []) (k := 35) okX3_setFigure rfl lkX3_98 caX4_put (Nat.le_of_ble_eq_true rfl) rfl (Nat.le_of_ble_eq_true rfl) rfl rfl rfl (c_put (i := i) rfl rfl (by first | omega | (simp only [List.length_set]; omega)) (by first | omega | (simp only [List.length_set]; omega)) v) ?_
  refine b_cast (f' := (9, [some (.inr 32), some (.inl (i : Int)), some (.inl v)], [], [A0, (moSeg 32 k (f.set i v) c n kp l nt w sh (p : Int) t d wa), B, A3, B4, A5, C6])) rfl ?_
  refine aGo okX3_setFigure 1 (f' := (10, [some (.inr 32), some (.inl (i : Int)), some (.inl v)], [.inr 32], _)) rfl ?_
  refine b_vE (as := []) (rest := []) (k := 32) okX3_setFigure rfl lkX3_109 caX3_weigh (Nat.le_of_ble_eq_true rfl) rfl (Nat.le_of_ble_eq_true rfl) rfl rfl rfl (c_weigh_1 (p := p) ⟨hp7, hk, (by rw [List.length_set]; exact hf), hc, hw, hsh, rk, (rng_set rf hv0 hv1), rc, ht0, ht1⟩) ?_
  rintro _ _ ⟨rfl, w2, sh2, zw, zs, rfl⟩
  exact b_ret (v := none) ⟨rfl, rfl⟩ ⟨rfl, w2, sh2, zw, zs, rfl⟩ rfl
set_option maxRecDepth 100000 in
set_option maxHeartbeats 4000000 in
theorem c_place_1 (hb : wH p k f c w sh t) {i : Nat} (hi : i < 7) {v : Int} (hv0 : 0 ≤ v) (hv1 : v ≤ 35) : aEv mX3_place 4 0 0 N [.inr 32, .inl (i : Int), .inl v] [A0, (moSeg 32 k f c n kp l nt w sh (p : Int) t d wa), B, A3, B4, A5, C6] ((fun rv h => rv = none ∧ ∃ w2 sh2 : List Int, wOK p k f (c.set i v) w2 (wAll p k f (c.set i v)) ∧ sOK p k f (c.set i v) sh2 t ∧ h = [A0, (moSeg 32 k f (c.set i v) n kp l nt w2 sh2 (p : Int) t d (wAll p k f (c.set i v))), B, A3, B4, A5, C6])) := by
  obtain ⟨hp7, hk, hf, hc, hw, hsh, rk, rf, rc, ht0, ht1⟩ := hb
  refine aEv_of okX3_place caX3_place (Nat.le_of_ble_eq_true rfl) ?_
  refine aGo okX3_place 4 (f' := (6, [some (.inr 32), some (.inl (i : Int)), some (.inl v)], [.inl v, .inl (i : Int), .inr 37], _)) rfl ?_
  refine b_vN (as := [.inl (i : Int), .inl v]) (rest := []) (k := 37) okX3_place rfl lkX3_98 caX4_put (Nat.le_of_ble_eq_true rfl) rfl (Nat.le_of_ble_eq_true rfl) rfl rfl rfl (c_put (i := i) rfl rfl (by first | omega | (simp only [List.length_set]; omega)) (by first | omega | (simp only [List.length_set]; omega)) v) ?_
  refine b_cast (f' := (9, [some (.inr 32), some (.inl (i : Int)), some (.inl v)], [], [A0, (moSeg 32 k f (c.set i v) n kp l nt w sh (p : Int) t d wa), B, A3, B4, A5, C6])) rfl ?_
  refine aGo okX3_place 1 (f' := (10, [some (.inr 32), some (.inl (i : Int)), some (.inl v)], [.inr 32], _)) rfl ?_
  refine b_vE (as := []) (rest := []) (k := 32) okX3_place rfl lkX3_109 caX3_weigh (Nat.le_of_ble_eq_true rfl) rfl (Nat.le_of_ble_eq_true rfl) rfl rfl rfl (c_weigh_1 (p := p) ⟨hp7, hk, hf, (by rw [List.length_set]; exact hc), hw, hsh, rk, rf, (rng_set rc hv0 hv1), ht0, ht1⟩) ?_
  rintro _ _ ⟨rfl, w2, sh2, zw, zs, rfl⟩
  exact b_ret (v := none) ⟨rfl, rfl⟩ ⟨rfl, w2, sh2, zw, zs, rfl⟩ rfl
set_option maxRecDepth 100000 in
set_option maxHeartbeats 4000000 in
theorem c_add_1 (hb : wH p k f c w sh t) (hp6 : p ≤ 6) (hn : n.length = 7) (hkp : kp.length = 7) (hl : l.length = 49) (hnt : nt.length = 7) {x1 x2 x3 x4 : Int} (g1 : 0 ≤ x1 ∧ x1 ≤ 5) (g2 : 0 ≤ x2 ∧ x2 ≤ 9) (g3 : 0 ≤ x3 ∧ x3 ≤ 35) : aEv mX3_add 4 0 0 N [.inr 32, .inl x1, .inl x2, .inl x3, .inl x4] [A0, (moSeg 32 k f c n kp l nt w sh (p : Int) t d wa), B, A3, B4, A5, C6] ((fun rv h => rv = none ∧ ∃ nt2 w2 sh2 : List Int, nOK (p + 1) (addL p l 7) nt2 ∧ wOK (p + 1) (k.set p x1) (f.set p x2) (c.set p x3) w2 (wAll (p + 1) (k.set p x1) (f.set p x2) (c.set p x3)) ∧ sOK (p + 1) (k.set p x1) (f.set p x2) (c.set p x3) sh2 t ∧ h = [A0, (moSeg 32 (k.set p x1) (f.set p x2) (c.set p x3) (n.set p x4) (kp.set p 0) (addL p l 7) nt2 w2 sh2 (((p + 1) : Nat) : Int) t d (wAll (p + 1) (k.set p x1) (f.set p x2) (c.set p x3))), B, A3, B4, A5, C6])) := by
  obtain ⟨hp7, hk, hf, hc, hw, hsh, rk, rf, rc, ht0, ht1⟩ := hb
  refine aEv_of okX3_add caX3_add (Nat.le_of_ble_eq_true rfl) ?_
  have lp : ∀ (j i : Nat), i + j = 7 → AW mX3_add 4 0 0 N none (fun rv h => rv = none ∧ ∃ nt2 w2 sh2 : List Int, nOK (p + 1) (addL p l 7) nt2 ∧ wOK (p + 1) (k.set p x1) (f.set p x2) (c.set p x3) w2 (wAll (p + 1) (k.set p x1) (f.set p x2) (c.set p x3)) ∧ sOK (p + 1) (k.set p x1) (f.set p x2) (c.set p x3) sh2 t ∧ h = [A0, (moSeg 32 (k.set p x1) (f.set p x2) (c.set p x3) (n.set p x4) (kp.set p 0) (addL p l 7) nt2 w2 sh2 (((p + 1) : Nat) : Int) t d (wAll (p + 1) (k.set p x1) (f.set p x2) (c.set p x3))), B, A3, B4, A5, C6]) (74, [some (.inr 32), some (.inl x1), some (.inl x2), some (.inl x3), some (.inl x4), some (.inl (i : Int))], [], [A0, (moSeg 32 (k.set p x1) (f.set p x2) (c.set p x3) (n.set p x4) (kp.set p 0) (addL p l i) nt w sh (p : Int) t d wa), B, A3, B4, A5, C6]) := by
    intro j
    induction j with
    | zero =>
      intro i  hij 
      obtain rfl : 7 = i := by omega
      refine aGo okX3_add 2 (f' := (78, [some (.inr 32), some (.inl x1), some (.inl x2), some (.inl x3), some (.inl x4), some (.inl (7 : Int))], [.inl 7, .inl (7 : Int)], _)) rfl ?_
      refine b_ge (tgt := 109) okX3_add rfl rfl ⟨by omega, by omega⟩ ⟨by omega, by omega⟩ (fun h78 => ?_) (fun h78 => absurd h78 (by omega))
      refine aGo okX3_add 6 (f' := (119, [some (.inr 32), some (.inl x1), some (.inl x2), some (.inl x3), some (.inl x4), some (.inl (7 : Int))], [], [A0, (moSeg 32 (k.set p x1) (f.set p x2) (c.set p x3) (n.set p x4) (kp.set p 0) (addL p l 7) nt w sh ((p : Int) + 1) t d wa), B, A3, B4, A5, C6])) rfl ?_
      refine b_cast (f' := (119, [some (.inr 32), some (.inl x1), some (.inl x2), some (.inl x3), some (.inl x4), some (.inl (7 : Int))], [], [A0, (moSeg 32 (k.set p x1) (f.set p x2) (c.set p x3) (n.set p x4) (kp.set p 0) (addL p l 7) nt w sh (((p + 1) : Nat) : Int) t d wa), B, A3, B4, A5, C6])) (rfl) ?_
      refine aGo okX3_add 1 (f' := (120, [some (.inr 32), some (.inl x1), some (.inl x2), some (.inl x3), some (.inl x4), some (.inl (7 : Int))], [.inr 32], _)) rfl ?_
      refine b_vE (as := []) (rest := []) (k := 32) okX3_add rfl lkX3_106 caX3_netLoans (Nat.le_of_ble_eq_true rfl) rfl (Nat.le_of_ble_eq_true rfl) rfl rfl rfl (c_netLoans_1 (p := (p + 1)) (by omega) hnt (by rw [addL_len]; exact hl)) ?_
      rintro _ _ ⟨rfl, nt2, zn, rfl⟩
      refine aGo okX3_add 1 (f' := (124, [some (.inr 32), some (.inl x1), some (.inl x2), some (.inl x3), some (.inl x4), some (.inl (7 : Int))], [.inr 32], _)) rfl ?_
      refine b_vE (as := []) (rest := []) (k := 32) okX3_add rfl lkX3_109 caX3_weigh (Nat.le_of_ble_eq_true rfl) rfl (Nat.le_of_ble_eq_true rfl) rfl rfl rfl (c_weigh_1 (p := (p + 1)) ⟨by omega, by rw [List.length_set]; exact hk, by rw [List.length_set]; exact hf, by rw [List.length_set]; exact hc, hw, hsh, rng_set rk g1.1 g1.2, rng_set rf g2.1 g2.2, rng_set rc g3.1 g3.2, ht0, ht1⟩) ?_
      rintro _ _ ⟨rfl, w2, sh2, zw, zs, rfl⟩
      exact b_ret (v := none) ⟨rfl, rfl⟩ ⟨rfl, nt2, w2, sh2, zn, zw, zs, rfl⟩ rfl
    | succ j ih =>
      intro i  hij 
      have e0 : (addL p l i).length = 49 := by rw [addL_len]; exact hl
      refine aGo okX3_add 2 (f' := (78, [some (.inr 32), some (.inl x1), some (.inl x2), some (.inl x3), some (.inl x4), some (.inl (i : Int))], [.inl 7, .inl (i : Int)], _)) rfl ?_
      refine b_ge (tgt := 109) okX3_add rfl rfl ⟨by omega, by omega⟩ ⟨by omega, by omega⟩ (fun h78 => absurd h78 (by omega)) (fun h78 => ?_)
      refine aGo okX3_add 5 (f' := (89, [some (.inr 32), some (.inl x1), some (.inl x2), some (.inl x3), some (.inl x4), some (.inl (i : Int))], [.inl 0, .inl (i : Int), .inl (p : Int), .inr 32], _)) rfl ?_
      refine b_vN (as := [.inl (p : Int), .inl (i : Int), .inl 0]) (rest := []) (k := 32) okX3_add rfl lkX3_102 caX3_putLent (Nat.le_of_ble_eq_true rfl) rfl (Nat.le_of_ble_eq_true rfl) rfl rfl rfl (c_putLent_1 (i := p) (j := i) (by first | omega | (simp only [List.length_set]; omega)) (by omega) (by omega) 0) ?_
      refine b_cast (f' := (92, [some (.inr 32), some (.inl x1), some (.inl x2), some (.inl x3), some (.inl x4), some (.inl (i : Int))], [], [A0, (moSeg 32 (k.set p x1) (f.set p x2) (c.set p x3) (n.set p x4) (kp.set p 0) ((addL p l i).set (7 * p + i) 0) nt w sh (p : Int) t d wa), B, A3, B4, A5, C6])) rfl ?_
      refine aGo okX3_add 5 (f' := (100, [some (.inr 32), some (.inl x1), some (.inl x2), some (.inl x3), some (.inl x4), some (.inl (i : Int))], [.inl 0, .inl (p : Int), .inl (i : Int), .inr 32], _)) rfl ?_
      refine b_vN (as := [.inl (i : Int), .inl (p : Int), .inl 0]) (rest := []) (k := 32) okX3_add rfl lkX3_102 caX3_putLent (Nat.le_of_ble_eq_true rfl) rfl (Nat.le_of_ble_eq_true rfl) rfl rfl rfl (c_putLent_1 (i := i) (j := p) (by first | omega | (simp only [List.length_set]; omega)) (by omega) (by omega) 0) ?_
      refine b_cast (f' := (103, [some (.inr 32), some (.inl x1), some (.inl x2), some (.inl x3), some (.inl x4), some (.inl (i : Int))], [], [A0, (moSeg 32 (k.set p x1) (f.set p x2) (c.set p x3) (n.set p x4) (kp.set p 0) (((addL p l i).set (7 * p + i) 0).set (7 * i + p) 0) nt w sh (p : Int) t d wa), B, A3, B4, A5, C6])) rfl ?_
      refine aGo okX3_add 2 (f' := (74, [some (.inr 32), some (.inl x1), some (.inl x2), some (.inl x3), some (.inl x4), some (.inl ((i : Int) + 1))], [], _)) rfl ?_
      exact ih (i + 1) (by omega)
  refine aGo okX3_add 3 (f' := (6, [some (.inr 32), some (.inl x1), some (.inl x2), some (.inl x3), some (.inl x4), none], [.inl 7, .inl (p : Int)], _)) rfl ?_
  refine b_lt (tgt := 10) okX3_add rfl rfl ⟨by omega, by omega⟩ ⟨by omega, by omega⟩ (fun h6 => ?_) (fun h6 => absurd h6 (by omega))
  refine aGo okX3_add 5 (f' := (19, [some (.inr 32), some (.inl x1), some (.inl x2), some (.inl x3), some (.inl x4), none], [.inl x1, .inl (p : Int), .inr 33], _)) rfl ?_
  refine b_vN (as := [.inl (p : Int), .inl x1]) (rest := []) (k := 33) okX3_add rfl lkX3_98 caX4_put (Nat.le_of_ble_eq_true rfl) rfl (Nat.le_of_ble_eq_true rfl) rfl rfl rfl (c_put (i := p) rfl rfl (by first | omega | (simp only [List.length_set]; omega)) (by first | omega | (simp only [List.length_set]; omega)) x1) ?_
  refine b_cast (f' := (22, [some (.inr 32), some (.inl x1), some (.inl x2), some (.inl x3), some (.inl x4), none], [], [A0, (moSeg 32 (k.set p x1) f c n kp l nt w sh (p : Int) t d wa), B, A3, B4, A5, C6])) rfl ?_
  refine aGo okX3_add 5 (f' := (31, [some (.inr 32), some (.inl x1), some (.inl x2), some (.inl x3), some (.inl x4), none], [.inl x2, .inl (p : Int), .inr 35], _)) rfl ?_
  refine b_vN (as := [.inl (p : Int), .inl x2]) (rest := []) (k := 35) okX3_add rfl lkX3_98 caX4_put (Nat.le_of_ble_eq_true rfl) rfl (Nat.le_of_ble_eq_true rfl) rfl rfl rfl (c_put (i := p) rfl rfl (by first | omega | (simp only [List.length_set]; omega)) (by first | omega | (simp only [List.length_set]; omega)) x2) ?_
  refine b_cast (f' := (34, [some (.inr 32), some (.inl x1), some (.inl x2), some (.inl x3), some (.inl x4), none], [], [A0, (moSeg 32 (k.set p x1) (f.set p x2) c n kp l nt w sh (p : Int) t d wa), B, A3, B4, A5, C6])) rfl ?_
  refine aGo okX3_add 5 (f' := (43, [some (.inr 32), some (.inl x1), some (.inl x2), some (.inl x3), some (.inl x4), none], [.inl x3, .inl (p : Int), .inr 37], _)) rfl ?_
  refine b_vN (as := [.inl (p : Int), .inl x3]) (rest := []) (k := 37) okX3_add rfl lkX3_98 caX4_put (Nat.le_of_ble_eq_true rfl) rfl (Nat.le_of_ble_eq_true rfl) rfl rfl rfl (c_put (i := p) rfl rfl (by first | omega | (simp only [List.length_set]; omega)) (by first | omega | (simp only [List.length_set]; omega)) x3) ?_
  refine b_cast (f' := (46, [some (.inr 32), some (.inl x1), some (.inl x2), some (.inl x3), some (.inl x4), none], [], [A0, (moSeg 32 (k.set p x1) (f.set p x2) (c.set p x3) n kp l nt w sh (p : Int) t d wa), B, A3, B4, A5, C6])) rfl ?_
  refine aGo okX3_add 5 (f' := (56, [some (.inr 32), some (.inl x1), some (.inl x2), some (.inl x3), some (.inl x4), none], [.inl x4, .inl (p : Int), .inr 39], _)) rfl ?_
  refine b_vN (as := [.inl (p : Int), .inl x4]) (rest := []) (k := 39) okX3_add rfl lkX3_98 caX4_put (Nat.le_of_ble_eq_true rfl) rfl (Nat.le_of_ble_eq_true rfl) rfl rfl rfl (c_put (i := p) rfl rfl (by first | omega | (simp only [List.length_set]; omega)) (by first | omega | (simp only [List.length_set]; omega)) x4) ?_
  refine b_cast (f' := (59, [some (.inr 32), some (.inl x1), some (.inl x2), some (.inl x3), some (.inl x4), none], [], [A0, (moSeg 32 (k.set p x1) (f.set p x2) (c.set p x3) (n.set p x4) kp l nt w sh (p : Int) t d wa), B, A3, B4, A5, C6])) rfl ?_
  refine aGo okX3_add 5 (f' := (68, [some (.inr 32), some (.inl x1), some (.inl x2), some (.inl x3), some (.inl x4), none], [.inl 0, .inl (p : Int), .inr 41], _)) rfl ?_
  refine b_vN (as := [.inl (p : Int), .inl 0]) (rest := []) (k := 41) okX3_add rfl lkX3_98 caX4_put (Nat.le_of_ble_eq_true rfl) rfl (Nat.le_of_ble_eq_true rfl) rfl rfl rfl (c_put (i := p) rfl rfl (by first | omega | (simp only [List.length_set]; omega)) (by first | omega | (simp only [List.length_set]; omega)) 0) ?_
  refine b_cast (f' := (71, [some (.inr 32), some (.inl x1), some (.inl x2), some (.inl x3), some (.inl x4), none], [], [A0, (moSeg 32 (k.set p x1) (f.set p x2) (c.set p x3) (n.set p x4) (kp.set p 0) l nt w sh (p : Int) t d wa), B, A3, B4, A5, C6])) rfl ?_
  refine aGo okX3_add 2 (f' := (74, [some (.inr 32), some (.inl x1), some (.inl x2), some (.inl x3), some (.inl x4), some (.inl 0)], [], _)) rfl ?_
  exact lp 7 0 (by omega)
set_option maxRecDepth 100000 in
set_option maxHeartbeats 4000000 in
theorem c_remove_1 (hb : wH (p + 1) k f c w sh t) {g : Nat} (hg : g ≤ p) (hn : n.length = 7) (hkp : kp.length = 7) (hl : l.length = 49) (hnt : nt.length = 7) : aEv mX3_remove 4 0 0 N [.inr 32, .inl (g : Int)] [A0, (moSeg 32 k f c n kp l nt w sh (((p + 1) : Nat) : Int) t d wa), B, A3, B4, A5, C6] ((fun rv h => rv = none ∧ ∃ nt2 w2 sh2 : List Int, nOK p (colsL g (p + 1) (rowsL g (p + 1) l (p - g)) (p - g)) nt2 ∧ wOK p (shL g k (p - g)) (shL g f (p - g)) (shL g c (p - g)) w2 (wAll p (shL g k (p - g)) (shL g f (p - g)) (shL g c (p - g))) ∧ sOK p (shL g k (p - g)) (shL g f (p - g)) (shL g c (p - g)) sh2 t ∧ h = [A0, (moSeg 32 (shL g k (p - g)) (shL g f (p - g)) (shL g c (p - g)) (shL g n (p - g)) (shL g kp (p - g)) (colsL g (p + 1) (rowsL g (p + 1) l (p - g)) (p - g)) nt2 w2 sh2 (p : Int) t d (wAll p (shL g k (p - g)) (shL g f (p - g)) (shL g c (p - g)))), B, A3, B4, A5, C6])) := by
  obtain ⟨hp7, hk, hf, hc, hw, hsh, rk, rf, rc, ht0, ht1⟩ := hb
  refine aEv_of okX3_remove caX3_remove (Nat.le_of_ble_eq_true rfl) ?_
  have l2 : ∀ (j i : Nat), i + j = (p - g) → AW mX3_remove 4 0 0 N none (fun rv h => rv = none ∧ ∃ nt2 w2 sh2 : List Int, nOK p (colsL g (p + 1) (rowsL g (p + 1) l (p - g)) (p - g)) nt2 ∧ wOK p (shL g k (p - g)) (shL g f (p - g)) (shL g c (p - g)) w2 (wAll p (shL g k (p - g)) (shL g f (p - g)) (shL g c (p - g))) ∧ sOK p (shL g k (p - g)) (shL g f (p - g)) (shL g c (p - g)) sh2 t ∧ h = [A0, (moSeg 32 (shL g k (p - g)) (shL g f (p - g)) (shL g c (p - g)) (shL g n (p - g)) (shL g kp (p - g)) (colsL g (p + 1) (rowsL g (p + 1) l (p - g)) (p - g)) nt2 w2 sh2 (p : Int) t d (wAll p (shL g k (p - g)) (shL g f (p - g)) (shL g c (p - g)))), B, A3, B4, A5, C6]) (149, [some (.inr 32), some (.inl (g : Int)), some (.inl (((g + i) : Nat) : Int)), none], [], [A0, (moSeg 32 (shL g k (p - g)) (shL g f (p - g)) (shL g c (p - g)) (shL g n (p - g)) (shL g kp (p - g)) (colsL g (p + 1) (rowsL g (p + 1) l (p - g)) i) nt w sh (((p + 1) : Nat) : Int) t d wa), B, A3, B4, A5, C6]) := by
    intro j
    induction j with
    | zero =>
      intro i  hij 
      obtain rfl : (p - g) = i := by omega
      refine aGo okX3_remove 5 (f' := (156, [some (.inr 32), some (.inl (g : Int)), some (.inl (((g + (p - g)) : Nat) : Int)), none], [.inl (((p + 1) : Nat) : Int), .inl ((((g + (p - g)) : Nat) : Int) + 1)], _)) rfl ?_
      refine b_ge (tgt := 195) okX3_remove rfl rfl ⟨by omega, by omega⟩ ⟨by omega, by omega⟩ (fun h156 => ?_) (fun h156 => absurd h156 (by omega))
      refine aGo okX3_remove 6 (f' := (205, [some (.inr 32), some (.inl (g : Int)), some (.inl (((g + (p - g)) : Nat) : Int)), none], [], [A0, (moSeg 32 (shL g k (p - g)) (shL g f (p - g)) (shL g c (p - g)) (shL g n (p - g)) (shL g kp (p - g)) (colsL g (p + 1) (rowsL g (p + 1) l (p - g)) (p - g)) nt w sh ((((p + 1) : Nat) : Int) - 1) t d wa), B, A3, B4, A5, C6])) rfl ?_
      refine b_cast (f' := (205, [some (.inr 32), some (.inl (g : Int)), some (.inl (((g + (p - g)) : Nat) : Int)), none], [], [A0, (moSeg 32 (shL g k (p - g)) (shL g f (p - g)) (shL g c (p - g)) (shL g n (p - g)) (shL g kp (p - g)) (colsL g (p + 1) (rowsL g (p + 1) l (p - g)) (p - g)) nt w sh (p : Int) t d wa), B, A3, B4, A5, C6])) (by rw [show ((p + 1 : Nat) : Int) - 1 = (p : Int) by omega]) ?_
      refine aGo okX3_remove 1 (f' := (206, [some (.inr 32), some (.inl (g : Int)), some (.inl (((g + (p - g)) : Nat) : Int)), none], [.inr 32], _)) rfl ?_
      refine b_vE (as := []) (rest := []) (k := 32) okX3_remove rfl lkX3_106 caX3_netLoans (Nat.le_of_ble_eq_true rfl) rfl (Nat.le_of_ble_eq_true rfl) rfl rfl rfl (c_netLoans_1 (p := p) (by omega) hnt (by rw [colsL_len, rowsL_len]; exact hl)) ?_
      rintro _ _ ⟨rfl, nt2, zn, rfl⟩
      refine aGo okX3_remove 1 (f' := (210, [some (.inr 32), some (.inl (g : Int)), some (.inl (((g + (p - g)) : Nat) : Int)), none], [.inr 32], _)) rfl ?_
      refine b_vE (as := []) (rest := []) (k := 32) okX3_remove rfl lkX3_109 caX3_weigh (Nat.le_of_ble_eq_true rfl) rfl (Nat.le_of_ble_eq_true rfl) rfl rfl rfl (c_weigh_1 (p := p) ⟨by omega, by rw [shL_len]; exact hk, by rw [shL_len]; exact hf, by rw [shL_len]; exact hc, hw, hsh, shL_rng rk _, shL_rng rf _, shL_rng rc _, ht0, ht1⟩) ?_
      rintro _ _ ⟨rfl, w2, sh2, zw, zs, rfl⟩
      exact b_ret (v := none) ⟨rfl, rfl⟩ ⟨rfl, nt2, w2, sh2, zn, zw, zs, rfl⟩ rfl
    | succ j ih =>
      intro i  hij 
      have lq : ∀ (j2 x : Nat), x + j2 = p + 1 → AW mX3_remove 4 0 0 N none (fun rv h => rv = none ∧ ∃ nt2 w2 sh2 : List Int, nOK p (colsL g (p + 1) (rowsL g (p + 1) l (p - g)) (p - g)) nt2 ∧ wOK p (shL g k (p - g)) (shL g f (p - g)) (shL g c (p - g)) w2 (wAll p (shL g k (p - g)) (shL g f (p - g)) (shL g c (p - g))) ∧ sOK p (shL g k (p - g)) (shL g f (p - g)) (shL g c (p - g)) sh2 t ∧ h = [A0, (moSeg 32 (shL g k (p - g)) (shL g f (p - g)) (shL g c (p - g)) (shL g n (p - g)) (shL g kp (p - g)) (colsL g (p + 1) (rowsL g (p + 1) l (p - g)) (p - g)) nt2 w2 sh2 (p : Int) t d (wAll p (shL g k (p - g)) (shL g f (p - g)) (shL g c (p - g)))), B, A3, B4, A5, C6]) (161, [some (.inr 32), some (.inl (g : Int)), some (.inl (((g + i) : Nat) : Int)), some (.inl (x : Int))], [], [A0, (moSeg 32 (shL g k (p - g)) (shL g f (p - g)) (shL g c (p - g)) (shL g n (p - g)) (shL g kp (p - g)) (colL (colsL g (p + 1) (rowsL g (p + 1) l (p - g)) i) (g + i) x) nt w sh (((p + 1) : Nat) : Int) t d wa), B, A3, B4, A5, C6]) := by
        intro j2
        induction j2 with
        | zero =>
          intro x  hij2 
          obtain rfl : p + 1 = x := by omega
          refine aGo okX3_remove 3 (f' := (166, [some (.inr 32), some (.inl (g : Int)), some (.inl (((g + i) : Nat) : Int)), some (.inl (p + 1 : Int))], [.inl (((p + 1) : Nat) : Int), .inl (p + 1 : Int)], _)) rfl ?_
          refine b_ge (tgt := 189) okX3_remove rfl rfl ⟨by omega, by omega⟩ ⟨by omega, by omega⟩ (fun h166 => ?_) (fun h166 => absurd h166 (by omega))
          refine aGo okX3_remove 2 (f' := (149, [some (.inr 32), some (.inl (g : Int)), some (.inl ((((g + i) : Nat) : Int) + 1)), some (.inl (p + 1 : Int))], [], _)) rfl ?_
          refine b_lose (ls' := [some (.inr 32), some (.inl (g : Int)), some (.inl ((((g + i) : Nat) : Int) + 1)), none]) (lose3 _ _ _ _) ?_
          exact ih (i + 1) (by omega)
        | succ j2 ih2 =>
          intro x  hij2 
          have e0 : (colL (colsL g (p + 1) (rowsL g (p + 1) l (p - g)) i) (g + i) x).length = 49 := by rw [colL_len, colsL_len, rowsL_len]; exact hl
          refine aGo okX3_remove 3 (f' := (166, [some (.inr 32), some (.inl (g : Int)), some (.inl (((g + i) : Nat) : Int)), some (.inl (x : Int))], [.inl (((p + 1) : Nat) : Int), .inl (x : Int)], _)) rfl ?_
          refine b_ge (tgt := 189) okX3_remove rfl rfl ⟨by omega, by omega⟩ ⟨by omega, by omega⟩ (fun h166 => absurd h166 (by omega)) (fun h166 => ?_)
          refine aGo okX3_remove 8 (f' := (177, [some (.inr 32), some (.inl (g : Int)), some (.inl (((g + i) : Nat) : Int)), some (.inl (x : Int))], [.inl ((((g + i) : Nat) : Int) + 1), .inl (x : Int), .inr 32, .inl (((g + i) : Nat) : Int), .inl (x : Int), .inr 32], _)) rfl ?_
          refine b_vV (as := [.inl (x : Int), .inl ((((g + i) : Nat) : Int) + 1)]) (rest := [.inl (((g + i) : Nat) : Int), .inl (x : Int), .inr 32]) (k := 32) (.inl ((colL (colsL g (p + 1) (rowsL g (p + 1) l (p - g)) i) (g + i) x).getD (7 * x + ((g + i) + 1)) 0)) okX3_remove rfl lkX3_80 caX3_lentBy (Nat.le_of_ble_eq_true rfl) rfl (Nat.le_of_ble_eq_true rfl) rfl rfl rfl (c_lentBy_1 (i := x) (j := ((g + i) + 1)) (by first | omega | (simp only [List.length_set]; omega)) (by omega) (by omega)) ?_
          refine b_vN (as := [.inl (x : Int), .inl (((g + i) : Nat) : Int), .inl ((colL (colsL g (p + 1) (rowsL g (p + 1) l (p - g)) i) (g + i) x).getD (7 * x + ((g + i) + 1)) 0)]) (rest := []) (k := 32) okX3_remove rfl lkX3_102 caX3_putLent (Nat.le_of_ble_eq_true rfl) rfl (Nat.le_of_ble_eq_true rfl) rfl rfl rfl (c_putLent_1 (i := x) (j := (g + i)) (by first | omega | (simp only [List.length_set]; omega)) (by omega) (by omega) ((colL (colsL g (p + 1) (rowsL g (p + 1) l (p - g)) i) (g + i) x).getD (7 * x + ((g + i) + 1)) 0)) ?_
          refine b_cast (f' := (183, [some (.inr 32), some (.inl (g : Int)), some (.inl (((g + i) : Nat) : Int)), some (.inl (x : Int))], [], [A0, (moSeg 32 (shL g k (p - g)) (shL g f (p - g)) (shL g c (p - g)) (shL g n (p - g)) (shL g kp (p - g)) ((colL (colsL g (p + 1) (rowsL g (p + 1) l (p - g)) i) (g + i) x).set (7 * x + (g + i)) ((colL (colsL g (p + 1) (rowsL g (p + 1) l (p - g)) i) (g + i) x).getD (7 * x + ((g + i) + 1)) 0)) nt w sh (((p + 1) : Nat) : Int) t d wa), B, A3, B4, A5, C6])) rfl ?_
          refine aGo okX3_remove 2 (f' := (161, [some (.inr 32), some (.inl (g : Int)), some (.inl (((g + i) : Nat) : Int)), some (.inl ((x : Int) + 1))], [], _)) rfl ?_
          exact ih2 (x + 1) (by omega)
      refine aGo okX3_remove 5 (f' := (156, [some (.inr 32), some (.inl (g : Int)), some (.inl (((g + i) : Nat) : Int)), none], [.inl (((p + 1) : Nat) : Int), .inl ((((g + i) : Nat) : Int) + 1)], _)) rfl ?_
      refine b_ge (tgt := 195) okX3_remove rfl rfl ⟨by omega, by omega⟩ ⟨by omega, by omega⟩ (fun h156 => absurd h156 (by omega)) (fun h156 => ?_)
      refine aGo okX3_remove 2 (f' := (161, [some (.inr 32), some (.inl (g : Int)), some (.inl (((g + i) : Nat) : Int)), some (.inl 0)], [], _)) rfl ?_
      exact lq (p + 1) 0 (by omega)
  have l1 : ∀ (j i : Nat), i + j = (p - g) → AW mX3_remove 4 0 0 N none (fun rv h => rv = none ∧ ∃ nt2 w2 sh2 : List Int, nOK p (colsL g (p + 1) (rowsL g (p + 1) l (p - g)) (p - g)) nt2 ∧ wOK p (shL g k (p - g)) (shL g f (p - g)) (shL g c (p - g)) w2 (wAll p (shL g k (p - g)) (shL g f (p - g)) (shL g c (p - g))) ∧ sOK p (shL g k (p - g)) (shL g f (p - g)) (shL g c (p - g)) sh2 t ∧ h = [A0, (moSeg 32 (shL g k (p - g)) (shL g f (p - g)) (shL g c (p - g)) (shL g n (p - g)) (shL g kp (p - g)) (colsL g (p + 1) (rowsL g (p + 1) l (p - g)) (p - g)) nt2 w2 sh2 (p : Int) t d (wAll p (shL g k (p - g)) (shL g f (p - g)) (shL g c (p - g)))), B, A3, B4, A5, C6]) (11, [some (.inr 32), some (.inl (g : Int)), some (.inl (((g + i) : Nat) : Int)), none], [], [A0, (moSeg 32 (shL g k i) (shL g f i) (shL g c i) (shL g n i) (shL g kp i) (rowsL g (p + 1) l i) nt w sh (((p + 1) : Nat) : Int) t d wa), B, A3, B4, A5, C6]) := by
    intro j
    induction j with
    | zero =>
      intro i  hij 
      obtain rfl : (p - g) = i := by omega
      refine aGo okX3_remove 5 (f' := (18, [some (.inr 32), some (.inl (g : Int)), some (.inl (((g + (p - g)) : Nat) : Int)), none], [.inl (((p + 1) : Nat) : Int), .inl ((((g + (p - g)) : Nat) : Int) + 1)], _)) rfl ?_
      refine b_ge (tgt := 147) okX3_remove rfl rfl ⟨by omega, by omega⟩ ⟨by omega, by omega⟩ (fun h18 => ?_) (fun h18 => absurd h18 (by omega))
      refine aGo okX3_remove 2 (f' := (149, [some (.inr 32), some (.inl (g : Int)), some (.inl (g : Int)), none], [], _)) rfl ?_
      exact l2 (p - g) 0 (by omega)
    | succ j ih =>
      intro i  hij 
      have lq : ∀ (j2 x : Nat), x + j2 = p + 1 → AW mX3_remove 4 0 0 N none (fun rv h => rv = none ∧ ∃ nt2 w2 sh2 : List Int, nOK p (colsL g (p + 1) (rowsL g (p + 1) l (p - g)) (p - g)) nt2 ∧ wOK p (shL g k (p - g)) (shL g f (p - g)) (shL g c (p - g)) w2 (wAll p (shL g k (p - g)) (shL g f (p - g)) (shL g c (p - g))) ∧ sOK p (shL g k (p - g)) (shL g f (p - g)) (shL g c (p - g)) sh2 t ∧ h = [A0, (moSeg 32 (shL g k (p - g)) (shL g f (p - g)) (shL g c (p - g)) (shL g n (p - g)) (shL g kp (p - g)) (colsL g (p + 1) (rowsL g (p + 1) l (p - g)) (p - g)) nt2 w2 sh2 (p : Int) t d (wAll p (shL g k (p - g)) (shL g f (p - g)) (shL g c (p - g)))), B, A3, B4, A5, C6]) (113, [some (.inr 32), some (.inl (g : Int)), some (.inl (((g + i) : Nat) : Int)), some (.inl (x : Int))], [], [A0, (moSeg 32 (shL g k (i + 1)) (shL g f (i + 1)) (shL g c (i + 1)) (shL g n (i + 1)) (shL g kp (i + 1)) (rowL (rowsL g (p + 1) l i) (g + i) x) nt w sh (((p + 1) : Nat) : Int) t d wa), B, A3, B4, A5, C6]) := by
        intro j2
        induction j2 with
        | zero =>
          intro x  hij2 
          obtain rfl : p + 1 = x := by omega
          refine aGo okX3_remove 3 (f' := (118, [some (.inr 32), some (.inl (g : Int)), some (.inl (((g + i) : Nat) : Int)), some (.inl (p + 1 : Int))], [.inl (((p + 1) : Nat) : Int), .inl (p + 1 : Int)], _)) rfl ?_
          refine b_ge (tgt := 141) okX3_remove rfl rfl ⟨by omega, by omega⟩ ⟨by omega, by omega⟩ (fun h118 => ?_) (fun h118 => absurd h118 (by omega))
          refine aGo okX3_remove 2 (f' := (11, [some (.inr 32), some (.inl (g : Int)), some (.inl ((((g + i) : Nat) : Int) + 1)), some (.inl (p + 1 : Int))], [], _)) rfl ?_
          refine b_lose (ls' := [some (.inr 32), some (.inl (g : Int)), some (.inl ((((g + i) : Nat) : Int) + 1)), none]) (lose3 _ _ _ _) ?_
          exact ih (i + 1) (by omega)
        | succ j2 ih2 =>
          intro x  hij2 
          have e0 : (rowL (rowsL g (p + 1) l i) (g + i) x).length = 49 := by rw [rowL_len, rowsL_len]; exact hl
          refine aGo okX3_remove 3 (f' := (118, [some (.inr 32), some (.inl (g : Int)), some (.inl (((g + i) : Nat) : Int)), some (.inl (x : Int))], [.inl (((p + 1) : Nat) : Int), .inl (x : Int)], _)) rfl ?_
          refine b_ge (tgt := 141) okX3_remove rfl rfl ⟨by omega, by omega⟩ ⟨by omega, by omega⟩ (fun h118 => absurd h118 (by omega)) (fun h118 => ?_)
          refine aGo okX3_remove 8 (f' := (129, [some (.inr 32), some (.inl (g : Int)), some (.inl (((g + i) : Nat) : Int)), some (.inl (x : Int))], [.inl (x : Int), .inl ((((g + i) : Nat) : Int) + 1), .inr 32, .inl (x : Int), .inl (((g + i) : Nat) : Int), .inr 32], _)) rfl ?_
          refine b_vV (as := [.inl ((((g + i) : Nat) : Int) + 1), .inl (x : Int)]) (rest := [.inl (x : Int), .inl (((g + i) : Nat) : Int), .inr 32]) (k := 32) (.inl ((rowL (rowsL g (p + 1) l i) (g + i) x).getD (7 * ((g + i) + 1) + x) 0)) okX3_remove rfl lkX3_80 caX3_lentBy (Nat.le_of_ble_eq_true rfl) rfl (Nat.le_of_ble_eq_true rfl) rfl rfl rfl (c_lentBy_1 (i := ((g + i) + 1)) (j := x) (by first | omega | (simp only [List.length_set]; omega)) (by omega) (by omega)) ?_
          refine b_vN (as := [.inl (((g + i) : Nat) : Int), .inl (x : Int), .inl ((rowL (rowsL g (p + 1) l i) (g + i) x).getD (7 * ((g + i) + 1) + x) 0)]) (rest := []) (k := 32) okX3_remove rfl lkX3_102 caX3_putLent (Nat.le_of_ble_eq_true rfl) rfl (Nat.le_of_ble_eq_true rfl) rfl rfl rfl (c_putLent_1 (i := (g + i)) (j := x) (by first | omega | (simp only [List.length_set]; omega)) (by omega) (by omega) ((rowL (rowsL g (p + 1) l i) (g + i) x).getD (7 * ((g + i) + 1) + x) 0)) ?_
          refine b_cast (f' := (135, [some (.inr 32), some (.inl (g : Int)), some (.inl (((g + i) : Nat) : Int)), some (.inl (x : Int))], [], [A0, (moSeg 32 (shL g k (i + 1)) (shL g f (i + 1)) (shL g c (i + 1)) (shL g n (i + 1)) (shL g kp (i + 1)) ((rowL (rowsL g (p + 1) l i) (g + i) x).set (7 * (g + i) + x) ((rowL (rowsL g (p + 1) l i) (g + i) x).getD (7 * ((g + i) + 1) + x) 0)) nt w sh (((p + 1) : Nat) : Int) t d wa), B, A3, B4, A5, C6])) rfl ?_
          refine aGo okX3_remove 2 (f' := (113, [some (.inr 32), some (.inl (g : Int)), some (.inl (((g + i) : Nat) : Int)), some (.inl ((x : Int) + 1))], [], _)) rfl ?_
          exact ih2 (x + 1) (by omega)
      have e_k : (shL g k i).length = 7 := by rw [shL_len]; exact hk
      have e_f : (shL g f i).length = 7 := by rw [shL_len]; exact hf
      have e_c : (shL g c i).length = 7 := by rw [shL_len]; exact hc
      have e_n : (shL g n i).length = 7 := by rw [shL_len]; exact hn
      have e_kp : (shL g kp i).length = 7 := by rw [shL_len]; exact hkp
      refine aGo okX3_remove 5 (f' := (18, [some (.inr 32), some (.inl (g : Int)), some (.inl (((g + i) : Nat) : Int)), none], [.inl (((p + 1) : Nat) : Int), .inl ((((g + i) : Nat) : Int) + 1)], _)) rfl ?_
      refine b_ge (tgt := 147) okX3_remove rfl rfl ⟨by omega, by omega⟩ ⟨by omega, by omega⟩ (fun h18 => absurd h18 (by omega)) (fun h18 => ?_)
      refine aGo okX3_remove 8 (f' := (33, [some (.inr 32), some (.inl (g : Int)), some (.inl (((g + i) : Nat) : Int)), none], [.inl ((((g + i) : Nat) : Int) + 1), .inr 33, .inl (((g + i) : Nat) : Int), .inr 33], _)) rfl ?_
      refine b_vV (as := [.inl ((((g + i) : Nat) : Int) + 1)]) (rest := [.inl (((g + i) : Nat) : Int), .inr 33]) (k := 33) (.inl ((shL g k i).getD ((g + i) + 1) 0)) okX3_remove rfl lkX3_65 caX4_at (Nat.le_of_ble_eq_true rfl) rfl (Nat.le_of_ble_eq_true rfl) rfl rfl rfl (c_at (i := ((g + i) + 1)) rfl rfl (by first | omega | (simp only [List.length_set]; omega)) (by omega)) ?_
      refine b_vN (as := [.inl (((g + i) : Nat) : Int), .inl ((shL g k i).getD ((g + i) + 1) 0)]) (rest := []) (k := 33) okX3_remove rfl lkX3_98 caX4_put (Nat.le_of_ble_eq_true rfl) rfl (Nat.le_of_ble_eq_true rfl) rfl rfl rfl (c_put (i := (g + i)) rfl rfl (by first | omega | (simp only [List.length_set]; omega)) (by first | omega | (simp only [List.length_set]; omega)) ((shL g k i).getD ((g + i) + 1) 0)) ?_
      refine b_cast (f' := (39, [some (.inr 32), some (.inl (g : Int)), some (.inl (((g + i) : Nat) : Int)), none], [], [A0, (moSeg 32 ((shL g k i).set (g + i) ((shL g k i).getD ((g + i) + 1) 0)) (shL g f i) (shL g c i) (shL g n i) (shL g kp i) (rowsL g (p + 1) l i) nt w sh (((p + 1) : Nat) : Int) t d wa), B, A3, B4, A5, C6])) rfl ?_
      refine aGo okX3_remove 8 (f' := (51, [some (.inr 32), some (.inl (g : Int)), some (.inl (((g + i) : Nat) : Int)), none], [.inl ((((g + i) : Nat) : Int) + 1), .inr 35, .inl (((g + i) : Nat) : Int), .inr 35], _)) rfl ?_
      refine b_vV (as := [.inl ((((g + i) : Nat) : Int) + 1)]) (rest := [.inl (((g + i) : Nat) : Int), .inr 35]) (k := 35) (.inl ((shL g f i).getD ((g + i) + 1) 0)) okX3_remove rfl lkX3_65 caX4_at (Nat.le_of_ble_eq_true rfl) rfl (Nat.le_of_ble_eq_true rfl) rfl rfl rfl (c_at (i := ((g + i) + 1)) rfl rfl (by first | omega | (simp only [List.length_set]; omega)) (by omega)) ?_
      refine b_vN (as := [.inl (((g + i) : Nat) : Int), .inl ((shL g f i).getD ((g + i) + 1) 0)]) (rest := []) (k := 35) okX3_remove rfl lkX3_98 caX4_put (Nat.le_of_ble_eq_true rfl) rfl (Nat.le_of_ble_eq_true rfl) rfl rfl rfl (c_put (i := (g + i)) rfl rfl (by first | omega | (simp only [List.length_set]; omega)) (by first | omega | (simp only [List.length_set]; omega)) ((shL g f i).getD ((g + i) + 1) 0)) ?_
      refine b_cast (f' := (57, [some (.inr 32), some (.inl (g : Int)), some (.inl (((g + i) : Nat) : Int)), none], [], [A0, (moSeg 32 ((shL g k i).set (g + i) ((shL g k i).getD ((g + i) + 1) 0)) ((shL g f i).set (g + i) ((shL g f i).getD ((g + i) + 1) 0)) (shL g c i) (shL g n i) (shL g kp i) (rowsL g (p + 1) l i) nt w sh (((p + 1) : Nat) : Int) t d wa), B, A3, B4, A5, C6])) rfl ?_
      refine aGo okX3_remove 8 (f' := (69, [some (.inr 32), some (.inl (g : Int)), some (.inl (((g + i) : Nat) : Int)), none], [.inl ((((g + i) : Nat) : Int) + 1), .inr 37, .inl (((g + i) : Nat) : Int), .inr 37], _)) rfl ?_
      refine b_vV (as := [.inl ((((g + i) : Nat) : Int) + 1)]) (rest := [.inl (((g + i) : Nat) : Int), .inr 37]) (k := 37) (.inl ((shL g c i).getD ((g + i) + 1) 0)) okX3_remove rfl lkX3_65 caX4_at (Nat.le_of_ble_eq_true rfl) rfl (Nat.le_of_ble_eq_true rfl) rfl rfl rfl (c_at (i := ((g + i) + 1)) rfl rfl (by first | omega | (simp only [List.length_set]; omega)) (by omega)) ?_
      refine b_vN (as := [.inl (((g + i) : Nat) : Int), .inl ((shL g c i).getD ((g + i) + 1) 0)]) (rest := []) (k := 37) okX3_remove rfl lkX3_98 caX4_put (Nat.le_of_ble_eq_true rfl) rfl (Nat.le_of_ble_eq_true rfl) rfl rfl rfl (c_put (i := (g + i)) rfl rfl (by first | omega | (simp only [List.length_set]; omega)) (by first | omega | (simp only [List.length_set]; omega)) ((shL g c i).getD ((g + i) + 1) 0)) ?_
      refine b_cast (f' := (75, [some (.inr 32), some (.inl (g : Int)), some (.inl (((g + i) : Nat) : Int)), none], [], [A0, (moSeg 32 ((shL g k i).set (g + i) ((shL g k i).getD ((g + i) + 1) 0)) ((shL g f i).set (g + i) ((shL g f i).getD ((g + i) + 1) 0)) ((shL g c i).set (g + i) ((shL g c i).getD ((g + i) + 1) 0)) (shL g n i) (shL g kp i) (rowsL g (p + 1) l i) nt w sh (((p + 1) : Nat) : Int) t d wa), B, A3, B4, A5, C6])) rfl ?_
      refine aGo okX3_remove 8 (f' := (87, [some (.inr 32), some (.inl (g : Int)), some (.inl (((g + i) : Nat) : Int)), none], [.inl ((((g + i) : Nat) : Int) + 1), .inr 39, .inl (((g + i) : Nat) : Int), .inr 39], _)) rfl ?_
      refine b_vV (as := [.inl ((((g + i) : Nat) : Int) + 1)]) (rest := [.inl (((g + i) : Nat) : Int), .inr 39]) (k := 39) (.inl ((shL g n i).getD ((g + i) + 1) 0)) okX3_remove rfl lkX3_65 caX4_at (Nat.le_of_ble_eq_true rfl) rfl (Nat.le_of_ble_eq_true rfl) rfl rfl rfl (c_at (i := ((g + i) + 1)) rfl rfl (by first | omega | (simp only [List.length_set]; omega)) (by omega)) ?_
      refine b_vN (as := [.inl (((g + i) : Nat) : Int), .inl ((shL g n i).getD ((g + i) + 1) 0)]) (rest := []) (k := 39) okX3_remove rfl lkX3_98 caX4_put (Nat.le_of_ble_eq_true rfl) rfl (Nat.le_of_ble_eq_true rfl) rfl rfl rfl (c_put (i := (g + i)) rfl rfl (by first | omega | (simp only [List.length_set]; omega)) (by first | omega | (simp only [List.length_set]; omega)) ((shL g n i).getD ((g + i) + 1) 0)) ?_
      refine b_cast (f' := (93, [some (.inr 32), some (.inl (g : Int)), some (.inl (((g + i) : Nat) : Int)), none], [], [A0, (moSeg 32 ((shL g k i).set (g + i) ((shL g k i).getD ((g + i) + 1) 0)) ((shL g f i).set (g + i) ((shL g f i).getD ((g + i) + 1) 0)) ((shL g c i).set (g + i) ((shL g c i).getD ((g + i) + 1) 0)) ((shL g n i).set (g + i) ((shL g n i).getD ((g + i) + 1) 0)) (shL g kp i) (rowsL g (p + 1) l i) nt w sh (((p + 1) : Nat) : Int) t d wa), B, A3, B4, A5, C6])) rfl ?_
      refine aGo okX3_remove 8 (f' := (105, [some (.inr 32), some (.inl (g : Int)), some (.inl (((g + i) : Nat) : Int)), none], [.inl ((((g + i) : Nat) : Int) + 1), .inr 41, .inl (((g + i) : Nat) : Int), .inr 41], _)) rfl ?_
      refine b_vV (as := [.inl ((((g + i) : Nat) : Int) + 1)]) (rest := [.inl (((g + i) : Nat) : Int), .inr 41]) (k := 41) (.inl ((shL g kp i).getD ((g + i) + 1) 0)) okX3_remove rfl lkX3_65 caX4_at (Nat.le_of_ble_eq_true rfl) rfl (Nat.le_of_ble_eq_true rfl) rfl rfl rfl (c_at (i := ((g + i) + 1)) rfl rfl (by first | omega | (simp only [List.length_set]; omega)) (by omega)) ?_
      refine b_vN (as := [.inl (((g + i) : Nat) : Int), .inl ((shL g kp i).getD ((g + i) + 1) 0)]) (rest := []) (k := 41) okX3_remove rfl lkX3_98 caX4_put (Nat.le_of_ble_eq_true rfl) rfl (Nat.le_of_ble_eq_true rfl) rfl rfl rfl (c_put (i := (g + i)) rfl rfl (by first | omega | (simp only [List.length_set]; omega)) (by first | omega | (simp only [List.length_set]; omega)) ((shL g kp i).getD ((g + i) + 1) 0)) ?_
      refine b_cast (f' := (111, [some (.inr 32), some (.inl (g : Int)), some (.inl (((g + i) : Nat) : Int)), none], [], [A0, (moSeg 32 ((shL g k i).set (g + i) ((shL g k i).getD ((g + i) + 1) 0)) ((shL g f i).set (g + i) ((shL g f i).getD ((g + i) + 1) 0)) ((shL g c i).set (g + i) ((shL g c i).getD ((g + i) + 1) 0)) ((shL g n i).set (g + i) ((shL g n i).getD ((g + i) + 1) 0)) ((shL g kp i).set (g + i) ((shL g kp i).getD ((g + i) + 1) 0)) (rowsL g (p + 1) l i) nt w sh (((p + 1) : Nat) : Int) t d wa), B, A3, B4, A5, C6])) rfl ?_
      refine aGo okX3_remove 2 (f' := (113, [some (.inr 32), some (.inl (g : Int)), some (.inl (((g + i) : Nat) : Int)), some (.inl 0)], [], _)) rfl ?_
      exact lq (p + 1) 0 (by omega)
  refine aGo okX3_remove 2 (f' := (2, [some (.inr 32), some (.inl (g : Int)), none, none], [.inl (g : Int), .inr 32], _)) rfl ?_
  refine b_vV (as := [.inl (g : Int)]) (rest := []) (k := 32) (.inl 1) okX3_remove rfl lkX3_61 caX3_isThere (Nat.le_of_ble_eq_true rfl) rfl (Nat.le_of_ble_eq_true rfl) rfl rfl rfl (c_isThere_1_t (p := p + 1) (x := (g : Int)) (by omega) (by omega) (by omega)) ?_
  refine b0_ne (tgt := 9) okX3_remove rfl rfl ⟨by omega, by omega⟩ (fun h5 => ?_) (fun h5 => absurd h5 (by omega))
  refine aGo okX3_remove 2 (f' := (11, [some (.inr 32), some (.inl (g : Int)), some (.inl (g : Int)), none], [], _)) rfl ?_
  exact l1 (p - g) 0 (by omega)
set_option maxRecDepth 100000 in
set_option maxHeartbeats 4000000 in
theorem c_loansAboveNothing_1 (hp : p ≤ 7) (hl : l.length = 49) (rl : rng l 99) : aEv mX3_loansAboveNothing 2 0 0 N [.inr 32] [A0, (moSeg 32 k f c n kp l nt w sh (p : Int) t d wa), B, A3, B4, A5, C6] ((aQx (some (.inl (sumN p (fun i => loansN p l i p)))) [A0, (moSeg 32 k f c n kp l nt w sh (p : Int) t d wa), B, A3, B4, A5, C6])) := by
  refine aEv_of okX3_loansAboveNothing caX3_loansAboveNothing (Nat.le_of_ble_eq_true rfl) ?_
  have lp : ∀ (j i : Nat), i + j = p → AW mX3_loansAboveNothing 2 0 0 N none (aQx (some (.inl (sumN p (fun i => loansN p l i p)))) [A0, (moSeg 32 k f c n kp l nt w sh (p : Int) t d wa), B, A3, B4, A5, C6]) (4, [some (.inr 32), some (.inl (sumN i (fun i => loansN p l i p))), some (.inl (i : Int)), none], [], [A0, (moSeg 32 k f c n kp l nt w sh (p : Int) t d wa), B, A3, B4, A5, C6]) := by
    intro j
    induction j with
    | zero =>
      intro i  hij 
      obtain rfl : p = i := by omega
      refine aGo okX3_loansAboveNothing 3 (f' := (9, [some (.inr 32), some (.inl (sumN p (fun i => loansN p l i p))), some (.inl (p : Int)), none], [.inl (p : Int), .inl (p : Int)], _)) rfl ?_
      refine b_ge (tgt := 46) okX3_loansAboveNothing rfl rfl ⟨by omega, by omega⟩ ⟨by omega, by omega⟩ (fun h9 => ?_) (fun h9 => absurd h9 (by omega))
      refine aGo okX3_loansAboveNothing 1 (f' := (47, [some (.inr 32), some (.inl (sumN p (fun i => loansN p l i p))), some (.inl (p : Int)), none], [.inl (sumN p (fun i => loansN p l i p))], _)) rfl ?_
      exact b_ret (v := (some (.inl (sumN p (fun i => loansN p l i p))))) ⟨rfl, Or.inl rfl⟩ ⟨rfl, rfl⟩ rfl
    | succ j ih =>
      intro i  hij 
      have lq : ∀ (j2 x : Nat), x + j2 = p → AW mX3_loansAboveNothing 2 0 0 N none (aQx (some (.inl (sumN p (fun i => loansN p l i p)))) [A0, (moSeg 32 k f c n kp l nt w sh (p : Int) t d wa), B, A3, B4, A5, C6]) (14, [some (.inr 32), some (.inl ((sumN i (fun i => loansN p l i p)) + (loansN p l i x))), some (.inl (i : Int)), some (.inl (x : Int))], [], [A0, (moSeg 32 k f c n kp l nt w sh (p : Int) t d wa), B, A3, B4, A5, C6]) := by
        intro j2
        induction j2 with
        | zero =>
          intro x  hij2 
          obtain rfl : p = x := by omega
          refine aGo okX3_loansAboveNothing 3 (f' := (19, [some (.inr 32), some (.inl ((sumN i (fun i => loansN p l i p)) + (loansN p l i p))), some (.inl (i : Int)), some (.inl (p : Int))], [.inl (p : Int), .inl (p : Int)], _)) rfl ?_
          refine b_ge (tgt := 40) okX3_loansAboveNothing rfl rfl ⟨by omega, by omega⟩ ⟨by omega, by omega⟩ (fun h19 => ?_) (fun h19 => absurd h19 (by omega))
          refine aGo okX3_loansAboveNothing 2 (f' := (4, [some (.inr 32), some (.inl ((sumN i (fun i => loansN p l i p)) + (loansN p l i p))), some (.inl ((i : Int) + 1)), some (.inl (p : Int))], [], _)) rfl ?_
          refine b_lose (ls' := [some (.inr 32), some (.inl ((sumN i (fun i => loansN p l i p)) + (loansN p l i p))), some (.inl ((i : Int) + 1)), none]) (lose3 _ _ _ _) ?_
          exact ih (i + 1) (by omega)
        | succ j2 ih2 =>
          intro x  hij2 
          have r1 := rl (7 * i + x)
          refine aGo okX3_loansAboveNothing 3 (f' := (19, [some (.inr 32), some (.inl ((sumN i (fun i => loansN p l i p)) + (loansN p l i x))), some (.inl (i : Int)), some (.inl (x : Int))], [.inl (p : Int), .inl (x : Int)], _)) rfl ?_
          refine b_ge (tgt := 40) okX3_loansAboveNothing rfl rfl ⟨by omega, by omega⟩ ⟨by omega, by omega⟩ (fun h19 => absurd h19 (by omega)) (fun h19 => ?_)
          refine aGo okX3_loansAboveNothing 3 (f' := (25, [some (.inr 32), some (.inl ((sumN i (fun i => loansN p l i p)) + (loansN p l i x))), some (.inl (i : Int)), some (.inl (x : Int))], [.inl (x : Int), .inl (i : Int), .inr 32], _)) rfl ?_
          refine b_vV (as := [.inl (i : Int), .inl (x : Int)]) (rest := []) (k := 32) (.inl (l.getD (7 * i + x) 0)) okX3_loansAboveNothing rfl lkX3_80 caX3_lentBy (Nat.le_of_ble_eq_true rfl) rfl (Nat.le_of_ble_eq_true rfl) rfl rfl rfl (c_lentBy_1 (i := i) (j := x) (by first | omega | (simp only [List.length_set]; omega)) (by omega) (by omega)) ?_
          refine b0_le (tgt := 34) okX3_loansAboveNothing rfl rfl ⟨by omega, by omega⟩ (fun h28 => ?_) (fun h28 => ?_)
          · refine aGo okX3_loansAboveNothing 2 (f' := (14, [some (.inr 32), some (.inl ((sumN i (fun i => loansN p l i p)) + (loansN p l i x))), some (.inl (i : Int)), some (.inl ((x : Int) + 1))], [], _)) rfl ?_
            refine b_cast (f' := (14, [some (.inr 32), some (.inl ((sumN i (fun i => loansN p l i p)) + (loansN p l i (x + 1)))), some (.inl (i : Int)), some (.inl ((x : Int) + 1))], [], [A0, (moSeg 32 k f c n kp l nt w sh (p : Int) t d wa), B, A3, B4, A5, C6])) (congrArg (fun z : Int => ((14, [some (.inr 32), some (.inl z), some (.inl (i : Int)), some (.inl ((x : Int) + 1))], [], [A0, (moSeg 32 k f c n kp l nt w sh (p : Int) t d wa), B, A3, B4, A5, C6]) : aF)) (show sumN i (fun i => loansN p l i p) + loansN p l i x = sumN i (fun i => loansN p l i p) + (loansN p l i x + (if 0 < l.getD (7 * i + x) 0 then 1 else 0)) from by rw [if_neg (by omega)]; omega)) ?_
            exact ih2 (x + 1) (by omega)
          · refine aGo okX3_loansAboveNothing 3 (f' := (14, [some (.inr 32), some (.inl (((sumN i (fun i => loansN p l i p)) + (loansN p l i x)) + 1)), some (.inl (i : Int)), some (.inl ((x : Int) + 1))], [], _)) rfl ?_
            refine b_cast (f' := (14, [some (.inr 32), some (.inl ((sumN i (fun i => loansN p l i p)) + (loansN p l i (x + 1)))), some (.inl (i : Int)), some (.inl ((x : Int) + 1))], [], [A0, (moSeg 32 k f c n kp l nt w sh (p : Int) t d wa), B, A3, B4, A5, C6])) (congrArg (fun z : Int => ((14, [some (.inr 32), some (.inl z), some (.inl (i : Int)), some (.inl ((x : Int) + 1))], [], [A0, (moSeg 32 k f c n kp l nt w sh (p : Int) t d wa), B, A3, B4, A5, C6]) : aF)) (show sumN i (fun i => loansN p l i p) + loansN p l i x + 1 = sumN i (fun i => loansN p l i p) + (loansN p l i x + (if 0 < l.getD (7 * i + x) 0 then 1 else 0)) from by rw [if_pos (by omega)]; omega)) ?_
            exact ih2 (x + 1) (by omega)
      refine aGo okX3_loansAboveNothing 3 (f' := (9, [some (.inr 32), some (.inl (sumN i (fun i => loansN p l i p))), some (.inl (i : Int)), none], [.inl (p : Int), .inl (i : Int)], _)) rfl ?_
      refine b_ge (tgt := 46) okX3_loansAboveNothing rfl rfl ⟨by omega, by omega⟩ ⟨by omega, by omega⟩ (fun h9 => absurd h9 (by omega)) (fun h9 => ?_)
      refine aGo okX3_loansAboveNothing 2 (f' := (14, [some (.inr 32), some (.inl (sumN i (fun i => loansN p l i p))), some (.inl (i : Int)), some (.inl 0)], [], _)) rfl ?_
      refine b_cast (f' := (14, [some (.inr 32), some (.inl ((sumN i (fun i => loansN p l i p)) + (loansN p l i 0))), some (.inl (i : Int)), some (.inl 0)], [], [A0, (moSeg 32 k f c n kp l nt w sh (p : Int) t d wa), B, A3, B4, A5, C6])) (congrArg (fun z : Int => ((14, [some (.inr 32), some (.inl z), some (.inl (i : Int)), some (.inl 0)], [], [A0, (moSeg 32 k f c n kp l nt w sh (p : Int) t d wa), B, A3, B4, A5, C6]) : aF)) (show sumN i (fun i => loansN p l i p) = sumN i (fun i => loansN p l i p) + 0 from (Int.add_zero _).symm)) ?_
      exact lq p 0 (by omega)
  refine aGo okX3_loansAboveNothing 4 (f' := (4, [some (.inr 32), some (.inl 0), some (.inl 0), none], [], _)) rfl ?_
  exact lp p 0 (by omega)
set_option maxRecDepth 100000 in
set_option maxHeartbeats 4000000 in
theorem c_mostSteps_1 (hp : p ≤ 7) (hc : c.length = 7) (rc : rng c 35) : aEv mX3_mostSteps 3 0 0 N [.inr 32] [A0, (moSeg 32 k f c n kp l nt w sh (p : Int) t d wa), B, A3, B4, A5, C6] ((aQx (some (.inl (msO c p p))) [A0, (moSeg 32 k f c n kp l nt w sh (p : Int) t d wa), B, A3, B4, A5, C6])) := by
  refine aEv_of okX3_mostSteps caX3_mostSteps (Nat.le_of_ble_eq_true rfl) ?_
  have lp : ∀ (j i : Nat), i + j = p → AW mX3_mostSteps 3 0 0 N none (aQx (some (.inl (msO c p p))) [A0, (moSeg 32 k f c n kp l nt w sh (p : Int) t d wa), B, A3, B4, A5, C6]) (5, [some (.inr 32), some (.inl (msO c p i)), some (.inl (i : Int)), none], [], [A0, (moSeg 32 k f c n kp l nt w sh (p : Int) t d wa), B, A3, B4, A5, C6]) := by
    intro j
    induction j with
    | zero =>
      intro i  hij 
      obtain rfl : p = i := by omega
      refine aGo okX3_mostSteps 3 (f' := (10, [some (.inr 32), some (.inl (msO c p p)), some (.inl (p : Int)), none], [.inl (p : Int), .inl (p : Int)], _)) rfl ?_
      refine b_ge (tgt := 48) okX3_mostSteps rfl rfl ⟨by omega, by omega⟩ ⟨by omega, by omega⟩ (fun h10 => ?_) (fun h10 => absurd h10 (by omega))
      refine aGo okX3_mostSteps 1 (f' := (49, [some (.inr 32), some (.inl (msO c p p)), some (.inl (p : Int)), none], [.inl (msO c p p)], _)) rfl ?_
      exact b_ret (v := (some (.inl (msO c p p)))) ⟨rfl, Or.inl rfl⟩ ⟨rfl, rfl⟩ rfl
    | succ j ih =>
      intro i  hij 
      have lq : ∀ (j2 x : Nat), x + j2 = (p - (i + 1)) → AW mX3_mostSteps 3 0 0 N none (aQx (some (.inl (msO c p p))) [A0, (moSeg 32 k f c n kp l nt w sh (p : Int) t d wa), B, A3, B4, A5, C6]) (17, [some (.inr 32), some (.inl (msI c i (msO c p i) x)), some (.inl (i : Int)), some (.inl ((((i + 1) + x) : Nat) : Int))], [], [A0, (moSeg 32 k f c n kp l nt w sh (p : Int) t d wa), B, A3, B4, A5, C6]) := by
        intro j2
        induction j2 with
        | zero =>
          intro x  hij2 
          obtain rfl : (p - (i + 1)) = x := by omega
          refine aGo okX3_mostSteps 3 (f' := (22, [some (.inr 32), some (.inl (msI c i (msO c p i) (p - (i + 1)))), some (.inl (i : Int)), some (.inl ((((i + 1) + (p - (i + 1))) : Nat) : Int))], [.inl (p : Int), .inl ((((i + 1) + (p - (i + 1))) : Nat) : Int)], _)) rfl ?_
          refine b_ge (tgt := 42) okX3_mostSteps rfl rfl ⟨by omega, by omega⟩ ⟨by omega, by omega⟩ (fun h22 => ?_) (fun h22 => absurd h22 (by omega))
          refine aGo okX3_mostSteps 2 (f' := (5, [some (.inr 32), some (.inl (msI c i (msO c p i) (p - (i + 1)))), some (.inl ((i : Int) + 1)), some (.inl ((((i + 1) + (p - (i + 1))) : Nat) : Int))], [], _)) rfl ?_
          refine b_lose (ls' := [some (.inr 32), some (.inl (msI c i (msO c p i) (p - (i + 1)))), some (.inl ((i : Int) + 1)), none]) (lose3 _ _ _ _) ?_
          exact ih (i + 1) (by omega)
        | succ j2 ih2 =>
          intro x  hij2 
          have r1 := msI_le rc (msO_le rc (p := p) i) (a := i) x
          have r2 := stp_le (rc i) (rc ((i + 1) + x))
          refine aGo okX3_mostSteps 3 (f' := (22, [some (.inr 32), some (.inl (msI c i (msO c p i) x)), some (.inl (i : Int)), some (.inl ((((i + 1) + x) : Nat) : Int))], [.inl (p : Int), .inl ((((i + 1) + x) : Nat) : Int)], _)) rfl ?_
          refine b_ge (tgt := 42) okX3_mostSteps rfl rfl ⟨by omega, by omega⟩ ⟨by omega, by omega⟩ (fun h22 => absurd h22 (by omega)) (fun h22 => ?_)
          refine aGo okX3_mostSteps 4 (f' := (29, [some (.inr 32), some (.inl (msI c i (msO c p i) x)), some (.inl (i : Int)), some (.inl ((((i + 1) + x) : Nat) : Int))], [.inl ((((i + 1) + x) : Nat) : Int), .inl (i : Int), .inr 32, .inl (msI c i (msO c p i) x)], _)) rfl ?_
          refine b_vV (as := [.inl (i : Int), .inl ((((i + 1) + x) : Nat) : Int)]) (rest := [.inl (msI c i (msO c p i) x)]) (k := 32) (.inl (stp (c.getD i 0) (c.getD ((i + 1) + x) 0))) okX3_mostSteps rfl lkX3_83 caX3_stepsOf (Nat.le_of_ble_eq_true rfl) rfl (Nat.le_of_ble_eq_true rfl) rfl rfl rfl (c_stepsOf_1 (i := i) (j := ((i + 1) + x)) (by first | omega | (simp only [List.length_set]; omega)) rc (by omega) (by omega)) ?_
          refine b_max okX3_mostSteps rfl lkX3_86 ma_max_s ma_max_c (Nat.le_of_ble_eq_true rfl) (Nat.le_of_ble_eq_true rfl) ⟨by omega, by omega⟩ ⟨by omega, by omega⟩ ?_
          refine aGo okX3_mostSteps 3 (f' := (17, [some (.inr 32), some (.inl (max (msI c i (msO c p i) x) (stp (c.getD i 0) (c.getD ((i + 1) + x) 0)))), some (.inl (i : Int)), some (.inl (((((i + 1) + x) : Nat) : Int) + 1))], [], _)) rfl ?_
          exact ih2 (x + 1) (by omega)
      refine aGo okX3_mostSteps 3 (f' := (10, [some (.inr 32), some (.inl (msO c p i)), some (.inl (i : Int)), none], [.inl (p : Int), .inl (i : Int)], _)) rfl ?_
      refine b_ge (tgt := 48) okX3_mostSteps rfl rfl ⟨by omega, by omega⟩ ⟨by omega, by omega⟩ (fun h10 => absurd h10 (by omega)) (fun h10 => ?_)
      refine aGo okX3_mostSteps 4 (f' := (17, [some (.inr 32), some (.inl (msO c p i)), some (.inl (i : Int)), some (.inl ((i : Int) + 1))], [], _)) rfl ?_
      exact lq (p - (i + 1)) 0 (by omega)
  refine aGo okX3_mostSteps 4 (f' := (5, [some (.inr 32), some (.inl (-9)), some (.inl 0), none], [], _)) rfl ?_
  exact lp p 0 (by omega)
set_option maxRecDepth 100000 in
set_option maxHeartbeats 4000000 in
theorem c_nearestPair_1 (hp : p ≤ 7) (hc : c.length = 7) (rc : rng c 35) : aEv mX3_nearestPair 3 0 0 N [.inr 32] [A0, (moSeg 32 k f c n kp l nt w sh (p : Int) t d wa), B, A3, B4, A5, C6] ((aQx (some (.inl (npO c p p).1)) [A0, (moSeg 32 k f c n kp l nt w sh (p : Int) t d wa), B, A3, B4, A5, C6])) := by
  refine aEv_of okX3_nearestPair caX3_nearestPair (Nat.le_of_ble_eq_true rfl) ?_
  have lp : ∀ (j i : Nat), i + j = p → AW mX3_nearestPair 3 0 0 N none (aQx (some (.inl (npO c p p).1)) [A0, (moSeg 32 k f c n kp l nt w sh (p : Int) t d wa), B, A3, B4, A5, C6]) (8, [some (.inr 32), some (.inl ((npO c p i).1)), some (.inl ((npO c p i).2)), some (.inl (i : Int)), none], [], [A0, (moSeg 32 k f c n kp l nt w sh (p : Int) t d wa), B, A3, B4, A5, C6]) := by
    intro j
    induction j with
    | zero =>
      intro i  hij 
      obtain rfl : p = i := by omega
      refine aGo okX3_nearestPair 3 (f' := (13, [some (.inr 32), some (.inl ((npO c p p).1)), some (.inl ((npO c p p).2)), some (.inl (p : Int)), none], [.inl (p : Int), .inl (p : Int)], _)) rfl ?_
      refine b_ge (tgt := 69) okX3_nearestPair rfl rfl ⟨by omega, by omega⟩ ⟨by omega, by omega⟩ (fun h13 => ?_) (fun h13 => absurd h13 (by omega))
      refine aGo okX3_nearestPair 1 (f' := (70, [some (.inr 32), some (.inl ((npO c p p).1)), some (.inl ((npO c p p).2)), some (.inl (p : Int)), none], [.inl ((npO c p p).1)], _)) rfl ?_
      exact b_ret (v := (some (.inl ((npO c p p).1)))) ⟨rfl, Or.inl rfl⟩ ⟨rfl, rfl⟩ rfl
    | succ j ih =>
      intro i  hij 
      have lq : ∀ (j2 x : Nat), x + j2 = (p - (i + 1)) → AW mX3_nearestPair 3 0 0 N none (aQx (some (.inl (npO c p p).1)) [A0, (moSeg 32 k f c n kp l nt w sh (p : Int) t d wa), B, A3, B4, A5, C6]) (21, [some (.inr 32), some (.inl ((npI c i (npO c p i) x).1)), some (.inl ((npI c i (npO c p i) x).2)), some (.inl (i : Int)), some (.inl ((((i + 1) + x) : Nat) : Int))], [], [A0, (moSeg 32 k f c n kp l nt w sh (p : Int) t d wa), B, A3, B4, A5, C6]) := by
        intro j2
        induction j2 with
        | zero =>
          intro x  hij2 
          obtain rfl : (p - (i + 1)) = x := by omega
          refine aGo okX3_nearestPair 3 (f' := (27, [some (.inr 32), some (.inl ((npI c i (npO c p i) (p - (i + 1))).1)), some (.inl ((npI c i (npO c p i) (p - (i + 1))).2)), some (.inl (i : Int)), some (.inl ((((i + 1) + (p - (i + 1))) : Nat) : Int))], [.inl (p : Int), .inl ((((i + 1) + (p - (i + 1))) : Nat) : Int)], _)) rfl ?_
          refine b_ge (tgt := 63) okX3_nearestPair rfl rfl ⟨by omega, by omega⟩ ⟨by omega, by omega⟩ (fun h27 => ?_) (fun h27 => absurd h27 (by omega))
          refine aGo okX3_nearestPair 2 (f' := (8, [some (.inr 32), some (.inl ((npI c i (npO c p i) (p - (i + 1))).1)), some (.inl ((npI c i (npO c p i) (p - (i + 1))).2)), some (.inl ((i : Int) + 1)), some (.inl ((((i + 1) + (p - (i + 1))) : Nat) : Int))], [], _)) rfl ?_
          refine b_lose (ls' := [some (.inr 32), some (.inl ((npI c i (npO c p i) (p - (i + 1))).1)), some (.inl ((npI c i (npO c p i) (p - (i + 1))).2)), some (.inl ((i : Int) + 1)), none]) (lose4g _ _ _ _ _) ?_
          exact ih (i + 1) (by omega)
        | succ j2 ih2 =>
          intro x  hij2 
          have r0 := npOK_le (p := p) rc hp (npI_ok (p := p) (a := i) (npO_ok (c := c) (p := p) i (by omega)) x (by omega))
          have r2 := stp_le (rc i) (rc ((i + 1) + x))
          refine aGo okX3_nearestPair 3 (f' := (27, [some (.inr 32), some (.inl ((npI c i (npO c p i) x).1)), some (.inl ((npI c i (npO c p i) x).2)), some (.inl (i : Int)), some (.inl ((((i + 1) + x) : Nat) : Int))], [.inl (p : Int), .inl ((((i + 1) + x) : Nat) : Int)], _)) rfl ?_
          refine b_ge (tgt := 63) okX3_nearestPair rfl rfl ⟨by omega, by omega⟩ ⟨by omega, by omega⟩ (fun h27 => absurd h27 (by omega)) (fun h27 => ?_)
          refine aGo okX3_nearestPair 3 (f' := (34, [some (.inr 32), some (.inl ((npI c i (npO c p i) x).1)), some (.inl ((npI c i (npO c p i) x).2)), some (.inl (i : Int)), some (.inl ((((i + 1) + x) : Nat) : Int))], [.inl ((((i + 1) + x) : Nat) : Int), .inl (i : Int), .inr 32], _)) rfl ?_
          refine b_vV (as := [.inl (i : Int), .inl ((((i + 1) + x) : Nat) : Int)]) (rest := []) (k := 32) (.inl (stp (c.getD i 0) (c.getD ((i + 1) + x) 0))) okX3_nearestPair rfl lkX3_83 caX3_stepsOf (Nat.le_of_ble_eq_true rfl) rfl (Nat.le_of_ble_eq_true rfl) rfl rfl rfl (c_stepsOf_1 (i := i) (j := ((i + 1) + x)) (by first | omega | (simp only [List.length_set]; omega)) rc (by omega) (by omega)) ?_
          refine aGo okX3_nearestPair 1 (f' := (38, [some (.inr 32), some (.inl ((npI c i (npO c p i) x).1)), some (.inl ((npI c i (npO c p i) x).2)), some (.inl (i : Int)), some (.inl ((((i + 1) + x) : Nat) : Int))], [.inl ((npI c i (npO c p i) x).2), .inl (stp (c.getD i 0) (c.getD ((i + 1) + x) 0))], _)) rfl ?_
          refine b_ge (tgt := 57) okX3_nearestPair rfl rfl ⟨by omega, by omega⟩ ⟨by omega, by omega⟩ (fun h38 => ?_) (fun h38 => ?_)
          · refine aGo okX3_nearestPair 2 (f' := (21, [some (.inr 32), some (.inl ((npI c i (npO c p i) x).1)), some (.inl ((npI c i (npO c p i) x).2)), some (.inl (i : Int)), some (.inl (((((i + 1) + x) : Nat) : Int) + 1))], [], _)) rfl ?_
            refine b_cast (f' := (21, [some (.inr 32), some (.inl ((npI c i (npO c p i) (x + 1)).1)), some (.inl ((npI c i (npO c p i) (x + 1)).2)), some (.inl (i : Int)), some (.inl (((((i + 1) + x) : Nat) : Int) + 1))], [], [A0, (moSeg 32 k f c n kp l nt w sh (p : Int) t d wa), B, A3, B4, A5, C6])) (by simp only [npI_f h38]; first | done | rfl) ?_
            exact ih2 (x + 1) (by omega)
          · refine aGo okX3_nearestPair 3 (f' := (45, [some (.inr 32), some (.inl ((npI c i (npO c p i) x).1)), some (.inl ((npI c i (npO c p i) x).2)), some (.inl (i : Int)), some (.inl ((((i + 1) + x) : Nat) : Int))], [.inl ((((i + 1) + x) : Nat) : Int), .inl (i : Int), .inr 32], _)) rfl ?_
            refine b_vV (as := [.inl (i : Int), .inl ((((i + 1) + x) : Nat) : Int)]) (rest := []) (k := 32) (.inl (stp (c.getD i 0) (c.getD ((i + 1) + x) 0))) okX3_nearestPair rfl lkX3_83 caX3_stepsOf (Nat.le_of_ble_eq_true rfl) rfl (Nat.le_of_ble_eq_true rfl) rfl rfl rfl (c_stepsOf_1 (i := i) (j := ((i + 1) + x)) (by first | omega | (simp only [List.length_set]; omega)) rc (by omega) (by omega)) ?_
            refine aGo okX3_nearestPair 9 (f' := (21, [some (.inr 32), some (.inl ((10 * (i : Int)) + ((((i + 1) + x) : Nat) : Int))), some (.inl (stp (c.getD i 0) (c.getD ((i + 1) + x) 0))), some (.inl (i : Int)), some (.inl (((((i + 1) + x) : Nat) : Int) + 1))], [], _)) rfl ?_
            refine b_cast (f' := (21, [some (.inr 32), some (.inl ((npI c i (npO c p i) (x + 1)).1)), some (.inl ((npI c i (npO c p i) (x + 1)).2)), some (.inl (i : Int)), some (.inl (((((i + 1) + x) : Nat) : Int) + 1))], [], [A0, (moSeg 32 k f c n kp l nt w sh (p : Int) t d wa), B, A3, B4, A5, C6])) (by simp only [npI_t h38]; first | done | rfl) ?_
            exact ih2 (x + 1) (by omega)
      refine aGo okX3_nearestPair 3 (f' := (13, [some (.inr 32), some (.inl ((npO c p i).1)), some (.inl ((npO c p i).2)), some (.inl (i : Int)), none], [.inl (p : Int), .inl (i : Int)], _)) rfl ?_
      refine b_ge (tgt := 69) okX3_nearestPair rfl rfl ⟨by omega, by omega⟩ ⟨by omega, by omega⟩ (fun h13 => absurd h13 (by omega)) (fun h13 => ?_)
      refine aGo okX3_nearestPair 4 (f' := (21, [some (.inr 32), some (.inl ((npO c p i).1)), some (.inl ((npO c p i).2)), some (.inl (i : Int)), some (.inl ((i : Int) + 1))], [], _)) rfl ?_
      exact lq (p - (i + 1)) 0 (by omega)
  refine aGo okX3_nearestPair 6 (f' := (8, [some (.inr 32), some (.inl (-9)), some (.inl 11), some (.inl 0), none], [], _)) rfl ?_
  exact lp p 0 (by omega)
set_option maxRecDepth 100000 in
set_option maxHeartbeats 4000000 in
theorem c_leastSteps_1_f (hp : p ≤ 7) (hc : c.length = 7) (rc : rng c 35) (hz : (npO c p p).1 = -9) : aEv mX3_leastSteps 4 0 0 N [.inr 32] [A0, (moSeg 32 k f c n kp l nt w sh (p : Int) t d wa), B, A3, B4, A5, C6] ((aQx (some (.inl (-9))) [A0, (moSeg 32 k f c n kp l nt w sh (p : Int) t d wa), B, A3, B4, A5, C6])) := by
  refine aEv_of okX3_leastSteps caX3_leastSteps (Nat.le_of_ble_eq_true rfl) ?_
  have hz2 : -9 ≤ (npO c p p).1 := by omega
  refine aGo okX3_leastSteps 1 (f' := (1, [some (.inr 32), none], [.inr 32], _)) rfl ?_
  refine b_vV (as := []) (rest := []) (k := 32) (.inl ((npO c p p).1)) okX3_leastSteps rfl lkX3_91 caX3_nearestPair (Nat.le_of_ble_eq_true rfl) rfl (Nat.le_of_ble_eq_true rfl) rfl rfl rfl (c_nearestPair_1 hp hc rc) ?_
  refine aGo okX3_leastSteps 3 (f' := (8, [some (.inr 32), some (.inl ((npO c p p).1))], [.inl (-9), .inl ((npO c p p).1)], _)) rfl ?_
  refine b_ne (tgt := 16) okX3_leastSteps rfl rfl ⟨by omega, by omega⟩ ⟨by omega, by omega⟩ (fun h8 => absurd h8 (by omega)) (fun h8 => ?_)
  refine aGo okX3_leastSteps 2 (f' := (28, [some (.inr 32), some (.inl ((npO c p p).1))], [.inl (-9)], _)) rfl ?_
  exact b_ret (v := (some (.inl (-9)))) ⟨rfl, Or.inl rfl⟩ ⟨rfl, rfl⟩ rfl
set_option maxRecDepth 100000 in
set_option maxHeartbeats 4000000 in
theorem c_leastSteps_1_t (hp : p ≤ 7) (hc : c.length = 7) (rc : rng c 35) {a b : Nat} (ha : a < 10) (hb : b < 10) (hz : (npO c p p).1 = 10 * (a : Int) + (b : Int)) : aEv mX3_leastSteps 4 0 0 N [.inr 32] [A0, (moSeg 32 k f c n kp l nt w sh (p : Int) t d wa), B, A3, B4, A5, C6] ((aQx (some (.inl (stp (c.getD a 0) (c.getD b 0)))) [A0, (moSeg 32 k f c n kp l nt w sh (p : Int) t d wa), B, A3, B4, A5, C6])) := by
  refine aEv_of okX3_leastSteps caX3_leastSteps (Nat.le_of_ble_eq_true rfl) ?_
  refine aGo okX3_leastSteps 1 (f' := (1, [some (.inr 32), none], [.inr 32], _)) rfl ?_
  refine b_vV (as := []) (rest := []) (k := 32) (.inl ((npO c p p).1)) okX3_leastSteps rfl lkX3_91 caX3_nearestPair (Nat.le_of_ble_eq_true rfl) rfl (Nat.le_of_ble_eq_true rfl) rfl rfl rfl (c_nearestPair_1 hp hc rc) ?_
  refine aGo okX3_leastSteps 1 (f' := (5, [some (.inr 32), some (.inl ((npO c p p).1))], [], _)) rfl ?_
  refine b_cast (f' := (5, [some (.inr 32), some (.inl ((10 * (a : Int)) + (b : Int)))], [], [A0, (moSeg 32 k f c n kp l nt w sh (p : Int) t d wa), B, A3, B4, A5, C6])) (by rw [hz]) ?_
  refine aGo okX3_leastSteps 2 (f' := (8, [some (.inr 32), some (.inl ((10 * (a : Int)) + (b : Int)))], [.inl (-9), .inl ((10 * (a : Int)) + (b : Int))], _)) rfl ?_
  refine b_ne (tgt := 16) okX3_leastSteps rfl rfl ⟨by omega, by omega⟩ ⟨by omega, by omega⟩ (fun h8 => ?_) (fun h8 => absurd h8 (by omega))
  refine aGo okX3_leastSteps 3 (f' := (20, [some (.inr 32), some (.inl ((10 * (a : Int)) + (b : Int)))], [.inl 10, .inl ((10 * (a : Int)) + (b : Int)), .inr 32], _)) rfl ?_
  refine b_div okX3_leastSteps rfl ⟨by omega, by omega⟩ ⟨by omega, by omega⟩ ?_
  refine b_cast (f' := (21, [some (.inr 32), some (.inl ((10 * (a : Int)) + (b : Int)))], [.inl (a : Int), .inr 32], [A0, (moSeg 32 k f c n kp l nt w sh (p : Int) t d wa), B, A3, B4, A5, C6])) (by rw [show (10 * (a : Int) + (b : Int)) / 10 = (a : Int) by omega]) ?_
  refine aGo okX3_leastSteps 2 (f' := (24, [some (.inr 32), some (.inl ((10 * (a : Int)) + (b : Int)))], [.inl 10, .inl ((10 * (a : Int)) + (b : Int)), .inl (a : Int), .inr 32], _)) rfl ?_
  refine b_rem okX3_leastSteps rfl ⟨by omega, by omega⟩ ⟨by omega, by omega⟩ ?_
  refine b_cast (f' := (25, [some (.inr 32), some (.inl ((10 * (a : Int)) + (b : Int)))], [.inl (b : Int), .inl (a : Int), .inr 32], [A0, (moSeg 32 k f c n kp l nt w sh (p : Int) t d wa), B, A3, B4, A5, C6])) (by rw [show (10 * (a : Int) + (b : Int)) % 10 = (b : Int) by omega]) ?_
  refine b_vV (as := [.inl (a : Int), .inl (b : Int)]) (rest := []) (k := 32) (.inl (stp (c.getD a 0) (c.getD b 0))) okX3_leastSteps rfl lkX3_83 caX3_stepsOf (Nat.le_of_ble_eq_true rfl) rfl (Nat.le_of_ble_eq_true rfl) rfl rfl rfl (c_stepsOf_1 (i := a) (j := b) (by first | omega | (simp only [List.length_set]; omega)) rc (by omega) (by omega)) ?_
  exact b_ret (v := (some (.inl (stp (c.getD a 0) (c.getD b 0))))) ⟨rfl, Or.inl rfl⟩ ⟨rfl, rfl⟩ rfl
set_option maxRecDepth 100000 in
set_option maxHeartbeats 4000000 in
theorem c_setTotal_2 (hb : wH p k f c w sh t) (hwo : wOK p k f c w wa) {v : Int} (hv0 : 0 ≤ v) (hv1 : v ≤ 999) : aEv mX3_setTotal 2 0 0 N [.inr 64, .inl v] [A0, B, (moSeg 64 k f c n kp l nt w sh (p : Int) t d wa), A3, B4, A5, C6] ((fun rv h => rv = none ∧ ∃ sh2 : List Int, sOK p k f c sh2 v ∧ h = [A0, B, (moSeg 64 k f c n kp l nt w sh2 (p : Int) v d wa), A3, B4, A5, C6])) := by
  obtain ⟨hp7, hk, hf, hc, hw, hsh, rk, rf, rc, ht0, ht1⟩ := hb
  refine aEv_of okX3_setTotal caX3_setTotal (Nat.le_of_ble_eq_true rfl) ?_
  refine aGo okX3_setTotal 4 (f' := (6, [some (.inr 64), some (.inl v)], [.inr 64], [A0, B, (moSeg 64 k f c n kp l nt w sh (p : Int) v d wa), A3, B4, A5, C6])) rfl ?_
  refine b_vE (as := []) (rest := []) (k := 64) okX3_setTotal rfl lkX3_95 caX3_shareOut (Nat.le_of_ble_eq_true rfl) rfl (Nat.le_of_ble_eq_true rfl) rfl rfl rfl (c_shareOut_2 (W := wt p k f c) hp7 hsh hw ⟨hv0, hv1⟩ hwo.2.1 (fun q hq => wt_le hp7 rf rc q) hwo.2.2) ?_
  rintro _ _ ⟨rfl, sh2, z1, z2, rfl⟩
  exact b_ret (v := none) ⟨rfl, rfl⟩ ⟨rfl, sh2, ⟨z1, z2⟩, rfl⟩ rfl
set_option maxRecDepth 100000 in
set_option maxHeartbeats 4000000 in
theorem c_setLent_2 (hp : p ≤ 7) (hnt : nt.length = 7) (hl : l.length = 49) {i j : Nat} (hi : i < 7) (hj : j < 7) (v : Int) : aEv mX3_setLent 3 0 0 N [.inr 64, .inl (i : Int), .inl (j : Int), .inl v] [A0, B, (moSeg 64 k f c n kp l nt w sh (p : Int) t d wa), A3, B4, A5, C6] ((fun rv h => rv = none ∧ ∃ nt2 : List Int, nOK p (l.set (7 * i + j) v) nt2 ∧ h = [A0, B, (moSeg 64 k f c n kp (l.set (7 * i + j) v) nt2 w sh (p : Int) t d wa), A3, B4, A5, C6])) := by
  refine aEv_of okX3_setLent caX3_setLent (Nat.le_of_ble_eq_true rfl) ?_
  refine aGo okX3_setLent 4 (f' := (4, [some (.inr 64), some (.inl (i : Int)), some (.inl (j : Int)), some (.inl v)], [.inl v, .inl (j : Int), .inl (i : Int), .inr 64], _)) rfl ?_
  refine b_vN (as := [.inl (i : Int), .inl (j : Int), .inl v]) (rest := []) (k := 64) okX3_setLent rfl lkX3_102 caX3_putLent (Nat.le_of_ble_eq_true rfl) rfl (Nat.le_of_ble_eq_true rfl) rfl rfl rfl (c_putLent_2 (i := i) (j := j) (by first | omega | (simp only [List.length_set]; omega)) (by omega) (by omega) v) ?_
  refine b_cast (f' := (7, [some (.inr 64), some (.inl (i : Int)), some (.inl (j : Int)), some (.inl v)], [], [A0, B, (moSeg 64 k f c n kp (l.set (7 * i + j) v) nt w sh (p : Int) t d wa), A3, B4, A5, C6])) rfl ?_
  refine aGo okX3_setLent 1 (f' := (8, [some (.inr 64), some (.inl (i : Int)), some (.inl (j : Int)), some (.inl v)], [.inr 64], _)) rfl ?_
  refine b_vE (as := []) (rest := []) (k := 64) okX3_setLent rfl lkX3_106 caX3_netLoans (Nat.le_of_ble_eq_true rfl) rfl (Nat.le_of_ble_eq_true rfl) rfl rfl rfl (c_netLoans_2 (p := p) hp hnt (by rw [List.length_set]; exact hl)) ?_
  rintro _ _ ⟨rfl, nt2, zn, rfl⟩
  exact b_ret (v := none) ⟨rfl, rfl⟩ ⟨rfl, nt2, zn, rfl⟩ rfl
set_option maxRecDepth 100000 in
set_option maxHeartbeats 4000000 in
theorem c_setKind_2 (hb : wH p k f c w sh t) {i : Nat} (hi : i < 7) {v : Int} (hv0 : 0 ≤ v) (hv1 : v ≤ 5) : aEv mX3_setKind 4 0 0 N [.inr 64, .inl (i : Int), .inl v] [A0, B, (moSeg 64 k f c n kp l nt w sh (p : Int) t d wa), A3, B4, A5, C6] ((fun rv h => rv = none ∧ ∃ w2 sh2 : List Int, wOK p (k.set i v) f c w2 (wAll p (k.set i v) f c) ∧ sOK p (k.set i v) f c sh2 t ∧ h = [A0, B, (moSeg 64 (k.set i v) f c n kp l nt w2 sh2 (p : Int) t d (wAll p (k.set i v) f c)), A3, B4, A5, C6])) := by
  obtain ⟨hp7, hk, hf, hc, hw, hsh, rk, rf, rc, ht0, ht1⟩ := hb
  refine aEv_of okX3_setKind caX3_setKind (Nat.le_of_ble_eq_true rfl) ?_
  refine aGo okX3_setKind 4 (f' := (6, [some (.inr 64), some (.inl (i : Int)), some (.inl v)], [.inl v, .inl (i : Int), .inr 65], _)) rfl ?_
  refine b_vN (as := [.inl (i : Int), .inl v]) (rest := []) (k := 65) okX3_setKind rfl lkX3_98 caX4_put (Nat.le_of_ble_eq_true rfl) rfl (Nat.le_of_ble_eq_true rfl) rfl rfl rfl (c_put (i := i) rfl rfl (by first | omega | (simp only [List.length_set]; omega)) (by first | omega | (simp only [List.length_set]; omega)) v) ?_
  refine b_cast (f' := (9, [some (.inr 64), some (.inl (i : Int)), some (.inl v)], [], [A0, B, (moSeg 64 (k.set i v) f c n kp l nt w sh (p : Int) t d wa), A3, B4, A5, C6])) rfl ?_
  refine aGo okX3_setKind 1 (f' := (10, [some (.inr 64), some (.inl (i : Int)), some (.inl v)], [.inr 64], _)) rfl ?_
  refine b_vE (as := []) (rest := []) (k := 64) okX3_setKind rfl lkX3_109 caX3_weigh (Nat.le_of_ble_eq_true rfl) rfl (Nat.le_of_ble_eq_true rfl) rfl rfl rfl (c_weigh_2 (p := p) ⟨hp7, (by rw [List.length_set]; exact hk), hf, hc, hw, hsh, (rng_set rk hv0 hv1), rf, rc, ht0, ht1⟩) ?_
  rintro _ _ ⟨rfl, w2, sh2, zw, zs, rfl⟩
  exact b_ret (v := none) ⟨rfl, rfl⟩ ⟨rfl, w2, sh2, zw, zs, rfl⟩ rfl
set_option maxRecDepth 100000 in
set_option maxHeartbeats 4000000 in
theorem c_setFigure_2 (hb : wH p k f c w sh t) {i : Nat} (hi : i < 7) {v : Int} (hv0 : 0 ≤ v) (hv1 : v ≤ 9) : aEv mX3_setFigure 4 0 0 N [.inr 64, .inl (i : Int), .inl v] [A0, B, (moSeg 64 k f c n kp l nt w sh (p : Int) t d wa), A3, B4, A5, C6] ((fun rv h => rv = none ∧ ∃ w2 sh2 : List Int, wOK p k (f.set i v) c w2 (wAll p k (f.set i v) c) ∧ sOK p k (f.set i v) c sh2 t ∧ h = [A0, B, (moSeg 64 k (f.set i v) c n kp l nt w2 sh2 (p : Int) t d (wAll p k (f.set i v) c)), A3, B4, A5, C6])) := by
  obtain ⟨hp7, hk, hf, hc, hw, hsh, rk, rf, rc, ht0, ht1⟩ := hb
  refine aEv_of okX3_setFigure caX3_setFigure (Nat.le_of_ble_eq_true rfl) ?_
  refine aGo okX3_setFigure 4 (f' := (6, [some (.inr 64), some (.inl (i : Int)), some (.inl v)], [.inl v, .inl (i : Int), .inr 67], _)) rfl ?_
  refine b_vN (as := [.inl (i : Int), .inl v]) (rest := []) (k := 67) okX3_setFigure rfl lkX3_98 caX4_put (Nat.le_of_ble_eq_true rfl) rfl (Nat.le_of_ble_eq_true rfl) rfl rfl rfl (c_put (i := i) rfl rfl (by first | omega | (simp only [List.length_set]; omega)) (by first | omega | (simp only [List.length_set]; omega)) v) ?_
  refine b_cast (f' := (9, [some (.inr 64), some (.inl (i : Int)), some (.inl v)], [], [A0, B, (moSeg 64 k (f.set i v) c n kp l nt w sh (p : Int) t d wa), A3, B4, A5, C6])) rfl ?_
  refine aGo okX3_setFigure 1 (f' := (10, [some (.inr 64), some (.inl (i : Int)), some (.inl v)], [.inr 64], _)) rfl ?_
  refine b_vE (as := []) (rest := []) (k := 64) okX3_setFigure rfl lkX3_109 caX3_weigh (Nat.le_of_ble_eq_true rfl) rfl (Nat.le_of_ble_eq_true rfl) rfl rfl rfl (c_weigh_2 (p := p) ⟨hp7, hk, (by rw [List.length_set]; exact hf), hc, hw, hsh, rk, (rng_set rf hv0 hv1), rc, ht0, ht1⟩) ?_
  rintro _ _ ⟨rfl, w2, sh2, zw, zs, rfl⟩
  exact b_ret (v := none) ⟨rfl, rfl⟩ ⟨rfl, w2, sh2, zw, zs, rfl⟩ rfl
set_option maxRecDepth 100000 in
set_option maxHeartbeats 4000000 in
theorem c_place_2 (hb : wH p k f c w sh t) {i : Nat} (hi : i < 7) {v : Int} (hv0 : 0 ≤ v) (hv1 : v ≤ 35) : aEv mX3_place 4 0 0 N [.inr 64, .inl (i : Int), .inl v] [A0, B, (moSeg 64 k f c n kp l nt w sh (p : Int) t d wa), A3, B4, A5, C6] ((fun rv h => rv = none ∧ ∃ w2 sh2 : List Int, wOK p k f (c.set i v) w2 (wAll p k f (c.set i v)) ∧ sOK p k f (c.set i v) sh2 t ∧ h = [A0, B, (moSeg 64 k f (c.set i v) n kp l nt w2 sh2 (p : Int) t d (wAll p k f (c.set i v))), A3, B4, A5, C6])) := by
  obtain ⟨hp7, hk, hf, hc, hw, hsh, rk, rf, rc, ht0, ht1⟩ := hb
  refine aEv_of okX3_place caX3_place (Nat.le_of_ble_eq_true rfl) ?_
  refine aGo okX3_place 4 (f' := (6, [some (.inr 64), some (.inl (i : Int)), some (.inl v)], [.inl v, .inl (i : Int), .inr 69], _)) rfl ?_
  refine b_vN (as := [.inl (i : Int), .inl v]) (rest := []) (k := 69) okX3_place rfl lkX3_98 caX4_put (Nat.le_of_ble_eq_true rfl) rfl (Nat.le_of_ble_eq_true rfl) rfl rfl rfl (c_put (i := i) rfl rfl (by first | omega | (simp only [List.length_set]; omega)) (by first | omega | (simp only [List.length_set]; omega)) v) ?_
  refine b_cast (f' := (9, [some (.inr 64), some (.inl (i : Int)), some (.inl v)], [], [A0, B, (moSeg 64 k f (c.set i v) n kp l nt w sh (p : Int) t d wa), A3, B4, A5, C6])) rfl ?_
  refine aGo okX3_place 1 (f' := (10, [some (.inr 64), some (.inl (i : Int)), some (.inl v)], [.inr 64], _)) rfl ?_
  refine b_vE (as := []) (rest := []) (k := 64) okX3_place rfl lkX3_109 caX3_weigh (Nat.le_of_ble_eq_true rfl) rfl (Nat.le_of_ble_eq_true rfl) rfl rfl rfl (c_weigh_2 (p := p) ⟨hp7, hk, hf, (by rw [List.length_set]; exact hc), hw, hsh, rk, rf, (rng_set rc hv0 hv1), ht0, ht1⟩) ?_
  rintro _ _ ⟨rfl, w2, sh2, zw, zs, rfl⟩
  exact b_ret (v := none) ⟨rfl, rfl⟩ ⟨rfl, w2, sh2, zw, zs, rfl⟩ rfl
set_option maxRecDepth 100000 in
set_option maxHeartbeats 4000000 in
theorem c_add_2 (hb : wH p k f c w sh t) (hp6 : p ≤ 6) (hn : n.length = 7) (hkp : kp.length = 7) (hl : l.length = 49) (hnt : nt.length = 7) {x1 x2 x3 x4 : Int} (g1 : 0 ≤ x1 ∧ x1 ≤ 5) (g2 : 0 ≤ x2 ∧ x2 ≤ 9) (g3 : 0 ≤ x3 ∧ x3 ≤ 35) : aEv mX3_add 4 0 0 N [.inr 64, .inl x1, .inl x2, .inl x3, .inl x4] [A0, B, (moSeg 64 k f c n kp l nt w sh (p : Int) t d wa), A3, B4, A5, C6] ((fun rv h => rv = none ∧ ∃ nt2 w2 sh2 : List Int, nOK (p + 1) (addL p l 7) nt2 ∧ wOK (p + 1) (k.set p x1) (f.set p x2) (c.set p x3) w2 (wAll (p + 1) (k.set p x1) (f.set p x2) (c.set p x3)) ∧ sOK (p + 1) (k.set p x1) (f.set p x2) (c.set p x3) sh2 t ∧ h = [A0, B, (moSeg 64 (k.set p x1) (f.set p x2) (c.set p x3) (n.set p x4) (kp.set p 0) (addL p l 7) nt2 w2 sh2 (((p + 1) : Nat) : Int) t d (wAll (p + 1) (k.set p x1) (f.set p x2) (c.set p x3))), A3, B4, A5, C6])) := by
  obtain ⟨hp7, hk, hf, hc, hw, hsh, rk, rf, rc, ht0, ht1⟩ := hb
  refine aEv_of okX3_add caX3_add (Nat.le_of_ble_eq_true rfl) ?_
  have lp : ∀ (j i : Nat), i + j = 7 → AW mX3_add 4 0 0 N none (fun rv h => rv = none ∧ ∃ nt2 w2 sh2 : List Int, nOK (p + 1) (addL p l 7) nt2 ∧ wOK (p + 1) (k.set p x1) (f.set p x2) (c.set p x3) w2 (wAll (p + 1) (k.set p x1) (f.set p x2) (c.set p x3)) ∧ sOK (p + 1) (k.set p x1) (f.set p x2) (c.set p x3) sh2 t ∧ h = [A0, B, (moSeg 64 (k.set p x1) (f.set p x2) (c.set p x3) (n.set p x4) (kp.set p 0) (addL p l 7) nt2 w2 sh2 (((p + 1) : Nat) : Int) t d (wAll (p + 1) (k.set p x1) (f.set p x2) (c.set p x3))), A3, B4, A5, C6]) (74, [some (.inr 64), some (.inl x1), some (.inl x2), some (.inl x3), some (.inl x4), some (.inl (i : Int))], [], [A0, B, (moSeg 64 (k.set p x1) (f.set p x2) (c.set p x3) (n.set p x4) (kp.set p 0) (addL p l i) nt w sh (p : Int) t d wa), A3, B4, A5, C6]) := by
    intro j
    induction j with
    | zero =>
      intro i  hij 
      obtain rfl : 7 = i := by omega
      refine aGo okX3_add 2 (f' := (78, [some (.inr 64), some (.inl x1), some (.inl x2), some (.inl x3), some (.inl x4), some (.inl (7 : Int))], [.inl 7, .inl (7 : Int)], _)) rfl ?_
      refine b_ge (tgt := 109) okX3_add rfl rfl ⟨by omega, by omega⟩ ⟨by omega, by omega⟩ (fun h78 => ?_) (fun h78 => absurd h78 (by omega))
      refine aGo okX3_add 6 (f' := (119, [some (.inr 64), some (.inl x1), some (.inl x2), some (.inl x3), some (.inl x4), some (.inl (7 : Int))], [], [A0, B, (moSeg 64 (k.set p x1) (f.set p x2) (c.set p x3) (n.set p x4) (kp.set p 0) (addL p l 7) nt w sh ((p : Int) + 1) t d wa), A3, B4, A5, C6])) rfl ?_
      refine b_cast (f' := (119, [some (.inr 64), some (.inl x1), some (.inl x2), some (.inl x3), some (.inl x4), some (.inl (7 : Int))], [], [A0, B, (moSeg 64 (k.set p x1) (f.set p x2) (c.set p x3) (n.set p x4) (kp.set p 0) (addL p l 7) nt w sh (((p + 1) : Nat) : Int) t d wa), A3, B4, A5, C6])) (rfl) ?_
      refine aGo okX3_add 1 (f' := (120, [some (.inr 64), some (.inl x1), some (.inl x2), some (.inl x3), some (.inl x4), some (.inl (7 : Int))], [.inr 64], _)) rfl ?_
      refine b_vE (as := []) (rest := []) (k := 64) okX3_add rfl lkX3_106 caX3_netLoans (Nat.le_of_ble_eq_true rfl) rfl (Nat.le_of_ble_eq_true rfl) rfl rfl rfl (c_netLoans_2 (p := (p + 1)) (by omega) hnt (by rw [addL_len]; exact hl)) ?_
      rintro _ _ ⟨rfl, nt2, zn, rfl⟩
      refine aGo okX3_add 1 (f' := (124, [some (.inr 64), some (.inl x1), some (.inl x2), some (.inl x3), some (.inl x4), some (.inl (7 : Int))], [.inr 64], _)) rfl ?_
      refine b_vE (as := []) (rest := []) (k := 64) okX3_add rfl lkX3_109 caX3_weigh (Nat.le_of_ble_eq_true rfl) rfl (Nat.le_of_ble_eq_true rfl) rfl rfl rfl (c_weigh_2 (p := (p + 1)) ⟨by omega, by rw [List.length_set]; exact hk, by rw [List.length_set]; exact hf, by rw [List.length_set]; exact hc, hw, hsh, rng_set rk g1.1 g1.2, rng_set rf g2.1 g2.2, rng_set rc g3.1 g3.2, ht0, ht1⟩) ?_
      rintro _ _ ⟨rfl, w2, sh2, zw, zs, rfl⟩
      exact b_ret (v := none) ⟨rfl, rfl⟩ ⟨rfl, nt2, w2, sh2, zn, zw, zs, rfl⟩ rfl
    | succ j ih =>
      intro i  hij 
      have e0 : (addL p l i).length = 49 := by rw [addL_len]; exact hl
      refine aGo okX3_add 2 (f' := (78, [some (.inr 64), some (.inl x1), some (.inl x2), some (.inl x3), some (.inl x4), some (.inl (i : Int))], [.inl 7, .inl (i : Int)], _)) rfl ?_
      refine b_ge (tgt := 109) okX3_add rfl rfl ⟨by omega, by omega⟩ ⟨by omega, by omega⟩ (fun h78 => absurd h78 (by omega)) (fun h78 => ?_)
      refine aGo okX3_add 5 (f' := (89, [some (.inr 64), some (.inl x1), some (.inl x2), some (.inl x3), some (.inl x4), some (.inl (i : Int))], [.inl 0, .inl (i : Int), .inl (p : Int), .inr 64], _)) rfl ?_
      refine b_vN (as := [.inl (p : Int), .inl (i : Int), .inl 0]) (rest := []) (k := 64) okX3_add rfl lkX3_102 caX3_putLent (Nat.le_of_ble_eq_true rfl) rfl (Nat.le_of_ble_eq_true rfl) rfl rfl rfl (c_putLent_2 (i := p) (j := i) (by first | omega | (simp only [List.length_set]; omega)) (by omega) (by omega) 0) ?_
      refine b_cast (f' := (92, [some (.inr 64), some (.inl x1), some (.inl x2), some (.inl x3), some (.inl x4), some (.inl (i : Int))], [], [A0, B, (moSeg 64 (k.set p x1) (f.set p x2) (c.set p x3) (n.set p x4) (kp.set p 0) ((addL p l i).set (7 * p + i) 0) nt w sh (p : Int) t d wa), A3, B4, A5, C6])) rfl ?_
      refine aGo okX3_add 5 (f' := (100, [some (.inr 64), some (.inl x1), some (.inl x2), some (.inl x3), some (.inl x4), some (.inl (i : Int))], [.inl 0, .inl (p : Int), .inl (i : Int), .inr 64], _)) rfl ?_
      refine b_vN (as := [.inl (i : Int), .inl (p : Int), .inl 0]) (rest := []) (k := 64) okX3_add rfl lkX3_102 caX3_putLent (Nat.le_of_ble_eq_true rfl) rfl (Nat.le_of_ble_eq_true rfl) rfl rfl rfl (c_putLent_2 (i := i) (j := p) (by first | omega | (simp only [List.length_set]; omega)) (by omega) (by omega) 0) ?_
      refine b_cast (f' := (103, [some (.inr 64), some (.inl x1), some (.inl x2), some (.inl x3), some (.inl x4), some (.inl (i : Int))], [], [A0, B, (moSeg 64 (k.set p x1) (f.set p x2) (c.set p x3) (n.set p x4) (kp.set p 0) (((addL p l i).set (7 * p + i) 0).set (7 * i + p) 0) nt w sh (p : Int) t d wa), A3, B4, A5, C6])) rfl ?_
      refine aGo okX3_add 2 (f' := (74, [some (.inr 64), some (.inl x1), some (.inl x2), some (.inl x3), some (.inl x4), some (.inl ((i : Int) + 1))], [], _)) rfl ?_
      exact ih (i + 1) (by omega)
  refine aGo okX3_add 3 (f' := (6, [some (.inr 64), some (.inl x1), some (.inl x2), some (.inl x3), some (.inl x4), none], [.inl 7, .inl (p : Int)], _)) rfl ?_
  refine b_lt (tgt := 10) okX3_add rfl rfl ⟨by omega, by omega⟩ ⟨by omega, by omega⟩ (fun h6 => ?_) (fun h6 => absurd h6 (by omega))
  refine aGo okX3_add 5 (f' := (19, [some (.inr 64), some (.inl x1), some (.inl x2), some (.inl x3), some (.inl x4), none], [.inl x1, .inl (p : Int), .inr 65], _)) rfl ?_
  refine b_vN (as := [.inl (p : Int), .inl x1]) (rest := []) (k := 65) okX3_add rfl lkX3_98 caX4_put (Nat.le_of_ble_eq_true rfl) rfl (Nat.le_of_ble_eq_true rfl) rfl rfl rfl (c_put (i := p) rfl rfl (by first | omega | (simp only [List.length_set]; omega)) (by first | omega | (simp only [List.length_set]; omega)) x1) ?_
  refine b_cast (f' := (22, [some (.inr 64), some (.inl x1), some (.inl x2), some (.inl x3), some (.inl x4), none], [], [A0, B, (moSeg 64 (k.set p x1) f c n kp l nt w sh (p : Int) t d wa), A3, B4, A5, C6])) rfl ?_
  refine aGo okX3_add 5 (f' := (31, [some (.inr 64), some (.inl x1), some (.inl x2), some (.inl x3), some (.inl x4), none], [.inl x2, .inl (p : Int), .inr 67], _)) rfl ?_
  refine b_vN (as := [.inl (p : Int), .inl x2]) (rest := []) (k := 67) okX3_add rfl lkX3_98 caX4_put (Nat.le_of_ble_eq_true rfl) rfl (Nat.le_of_ble_eq_true rfl) rfl rfl rfl (c_put (i := p) rfl rfl (by first | omega | (simp only [List.length_set]; omega)) (by first | omega | (simp only [List.length_set]; omega)) x2) ?_
  refine b_cast (f' := (34, [some (.inr 64), some (.inl x1), some (.inl x2), some (.inl x3), some (.inl x4), none], [], [A0, B, (moSeg 64 (k.set p x1) (f.set p x2) c n kp l nt w sh (p : Int) t d wa), A3, B4, A5, C6])) rfl ?_
  refine aGo okX3_add 5 (f' := (43, [some (.inr 64), some (.inl x1), some (.inl x2), some (.inl x3), some (.inl x4), none], [.inl x3, .inl (p : Int), .inr 69], _)) rfl ?_
  refine b_vN (as := [.inl (p : Int), .inl x3]) (rest := []) (k := 69) okX3_add rfl lkX3_98 caX4_put (Nat.le_of_ble_eq_true rfl) rfl (Nat.le_of_ble_eq_true rfl) rfl rfl rfl (c_put (i := p) rfl rfl (by first | omega | (simp only [List.length_set]; omega)) (by first | omega | (simp only [List.length_set]; omega)) x3) ?_
  refine b_cast (f' := (46, [some (.inr 64), some (.inl x1), some (.inl x2), some (.inl x3), some (.inl x4), none], [], [A0, B, (moSeg 64 (k.set p x1) (f.set p x2) (c.set p x3) n kp l nt w sh (p : Int) t d wa), A3, B4, A5, C6])) rfl ?_
  refine aGo okX3_add 5 (f' := (56, [some (.inr 64), some (.inl x1), some (.inl x2), some (.inl x3), some (.inl x4), none], [.inl x4, .inl (p : Int), .inr 71], _)) rfl ?_
  refine b_vN (as := [.inl (p : Int), .inl x4]) (rest := []) (k := 71) okX3_add rfl lkX3_98 caX4_put (Nat.le_of_ble_eq_true rfl) rfl (Nat.le_of_ble_eq_true rfl) rfl rfl rfl (c_put (i := p) rfl rfl (by first | omega | (simp only [List.length_set]; omega)) (by first | omega | (simp only [List.length_set]; omega)) x4) ?_
  refine b_cast (f' := (59, [some (.inr 64), some (.inl x1), some (.inl x2), some (.inl x3), some (.inl x4), none], [], [A0, B, (moSeg 64 (k.set p x1) (f.set p x2) (c.set p x3) (n.set p x4) kp l nt w sh (p : Int) t d wa), A3, B4, A5, C6])) rfl ?_
  refine aGo okX3_add 5 (f' := (68, [some (.inr 64), some (.inl x1), some (.inl x2), some (.inl x3), some (.inl x4), none], [.inl 0, .inl (p : Int), .inr 73], _)) rfl ?_
  refine b_vN (as := [.inl (p : Int), .inl 0]) (rest := []) (k := 73) okX3_add rfl lkX3_98 caX4_put (Nat.le_of_ble_eq_true rfl) rfl (Nat.le_of_ble_eq_true rfl) rfl rfl rfl (c_put (i := p) rfl rfl (by first | omega | (simp only [List.length_set]; omega)) (by first | omega | (simp only [List.length_set]; omega)) 0) ?_
  refine b_cast (f' := (71, [some (.inr 64), some (.inl x1), some (.inl x2), some (.inl x3), some (.inl x4), none], [], [A0, B, (moSeg 64 (k.set p x1) (f.set p x2) (c.set p x3) (n.set p x4) (kp.set p 0) l nt w sh (p : Int) t d wa), A3, B4, A5, C6])) rfl ?_
  refine aGo okX3_add 2 (f' := (74, [some (.inr 64), some (.inl x1), some (.inl x2), some (.inl x3), some (.inl x4), some (.inl 0)], [], _)) rfl ?_
  exact lp 7 0 (by omega)
set_option maxRecDepth 100000 in
set_option maxHeartbeats 4000000 in
theorem c_remove_2 (hb : wH (p + 1) k f c w sh t) {g : Nat} (hg : g ≤ p) (hn : n.length = 7) (hkp : kp.length = 7) (hl : l.length = 49) (hnt : nt.length = 7) : aEv mX3_remove 4 0 0 N [.inr 64, .inl (g : Int)] [A0, B, (moSeg 64 k f c n kp l nt w sh (((p + 1) : Nat) : Int) t d wa), A3, B4, A5, C6] ((fun rv h => rv = none ∧ ∃ nt2 w2 sh2 : List Int, nOK p (colsL g (p + 1) (rowsL g (p + 1) l (p - g)) (p - g)) nt2 ∧ wOK p (shL g k (p - g)) (shL g f (p - g)) (shL g c (p - g)) w2 (wAll p (shL g k (p - g)) (shL g f (p - g)) (shL g c (p - g))) ∧ sOK p (shL g k (p - g)) (shL g f (p - g)) (shL g c (p - g)) sh2 t ∧ h = [A0, B, (moSeg 64 (shL g k (p - g)) (shL g f (p - g)) (shL g c (p - g)) (shL g n (p - g)) (shL g kp (p - g)) (colsL g (p + 1) (rowsL g (p + 1) l (p - g)) (p - g)) nt2 w2 sh2 (p : Int) t d (wAll p (shL g k (p - g)) (shL g f (p - g)) (shL g c (p - g)))), A3, B4, A5, C6])) := by
  obtain ⟨hp7, hk, hf, hc, hw, hsh, rk, rf, rc, ht0, ht1⟩ := hb
  refine aEv_of okX3_remove caX3_remove (Nat.le_of_ble_eq_true rfl) ?_
  have l2 : ∀ (j i : Nat), i + j = (p - g) → AW mX3_remove 4 0 0 N none (fun rv h => rv = none ∧ ∃ nt2 w2 sh2 : List Int, nOK p (colsL g (p + 1) (rowsL g (p + 1) l (p - g)) (p - g)) nt2 ∧ wOK p (shL g k (p - g)) (shL g f (p - g)) (shL g c (p - g)) w2 (wAll p (shL g k (p - g)) (shL g f (p - g)) (shL g c (p - g))) ∧ sOK p (shL g k (p - g)) (shL g f (p - g)) (shL g c (p - g)) sh2 t ∧ h = [A0, B, (moSeg 64 (shL g k (p - g)) (shL g f (p - g)) (shL g c (p - g)) (shL g n (p - g)) (shL g kp (p - g)) (colsL g (p + 1) (rowsL g (p + 1) l (p - g)) (p - g)) nt2 w2 sh2 (p : Int) t d (wAll p (shL g k (p - g)) (shL g f (p - g)) (shL g c (p - g)))), A3, B4, A5, C6]) (149, [some (.inr 64), some (.inl (g : Int)), some (.inl (((g + i) : Nat) : Int)), none], [], [A0, B, (moSeg 64 (shL g k (p - g)) (shL g f (p - g)) (shL g c (p - g)) (shL g n (p - g)) (shL g kp (p - g)) (colsL g (p + 1) (rowsL g (p + 1) l (p - g)) i) nt w sh (((p + 1) : Nat) : Int) t d wa), A3, B4, A5, C6]) := by
    intro j
    induction j with
    | zero =>
      intro i  hij 
      obtain rfl : (p - g) = i := by omega
      refine aGo okX3_remove 5 (f' := (156, [some (.inr 64), some (.inl (g : Int)), some (.inl (((g + (p - g)) : Nat) : Int)), none], [.inl (((p + 1) : Nat) : Int), .inl ((((g + (p - g)) : Nat) : Int) + 1)], _)) rfl ?_
      refine b_ge (tgt := 195) okX3_remove rfl rfl ⟨by omega, by omega⟩ ⟨by omega, by omega⟩ (fun h156 => ?_) (fun h156 => absurd h156 (by omega))
      refine aGo okX3_remove 6 (f' := (205, [some (.inr 64), some (.inl (g : Int)), some (.inl (((g + (p - g)) : Nat) : Int)), none], [], [A0, B, (moSeg 64 (shL g k (p - g)) (shL g f (p - g)) (shL g c (p - g)) (shL g n (p - g)) (shL g kp (p - g)) (colsL g (p + 1) (rowsL g (p + 1) l (p - g)) (p - g)) nt w sh ((((p + 1) : Nat) : Int) - 1) t d wa), A3, B4, A5, C6])) rfl ?_
      refine b_cast (f' := (205, [some (.inr 64), some (.inl (g : Int)), some (.inl (((g + (p - g)) : Nat) : Int)), none], [], [A0, B, (moSeg 64 (shL g k (p - g)) (shL g f (p - g)) (shL g c (p - g)) (shL g n (p - g)) (shL g kp (p - g)) (colsL g (p + 1) (rowsL g (p + 1) l (p - g)) (p - g)) nt w sh (p : Int) t d wa), A3, B4, A5, C6])) (by rw [show ((p + 1 : Nat) : Int) - 1 = (p : Int) by omega]) ?_
      refine aGo okX3_remove 1 (f' := (206, [some (.inr 64), some (.inl (g : Int)), some (.inl (((g + (p - g)) : Nat) : Int)), none], [.inr 64], _)) rfl ?_
      refine b_vE (as := []) (rest := []) (k := 64) okX3_remove rfl lkX3_106 caX3_netLoans (Nat.le_of_ble_eq_true rfl) rfl (Nat.le_of_ble_eq_true rfl) rfl rfl rfl (c_netLoans_2 (p := p) (by omega) hnt (by rw [colsL_len, rowsL_len]; exact hl)) ?_
      rintro _ _ ⟨rfl, nt2, zn, rfl⟩
      refine aGo okX3_remove 1 (f' := (210, [some (.inr 64), some (.inl (g : Int)), some (.inl (((g + (p - g)) : Nat) : Int)), none], [.inr 64], _)) rfl ?_
      refine b_vE (as := []) (rest := []) (k := 64) okX3_remove rfl lkX3_109 caX3_weigh (Nat.le_of_ble_eq_true rfl) rfl (Nat.le_of_ble_eq_true rfl) rfl rfl rfl (c_weigh_2 (p := p) ⟨by omega, by rw [shL_len]; exact hk, by rw [shL_len]; exact hf, by rw [shL_len]; exact hc, hw, hsh, shL_rng rk _, shL_rng rf _, shL_rng rc _, ht0, ht1⟩) ?_
      rintro _ _ ⟨rfl, w2, sh2, zw, zs, rfl⟩
      exact b_ret (v := none) ⟨rfl, rfl⟩ ⟨rfl, nt2, w2, sh2, zn, zw, zs, rfl⟩ rfl
    | succ j ih =>
      intro i  hij 
      have lq : ∀ (j2 x : Nat), x + j2 = p + 1 → AW mX3_remove 4 0 0 N none (fun rv h => rv = none ∧ ∃ nt2 w2 sh2 : List Int, nOK p (colsL g (p + 1) (rowsL g (p + 1) l (p - g)) (p - g)) nt2 ∧ wOK p (shL g k (p - g)) (shL g f (p - g)) (shL g c (p - g)) w2 (wAll p (shL g k (p - g)) (shL g f (p - g)) (shL g c (p - g))) ∧ sOK p (shL g k (p - g)) (shL g f (p - g)) (shL g c (p - g)) sh2 t ∧ h = [A0, B, (moSeg 64 (shL g k (p - g)) (shL g f (p - g)) (shL g c (p - g)) (shL g n (p - g)) (shL g kp (p - g)) (colsL g (p + 1) (rowsL g (p + 1) l (p - g)) (p - g)) nt2 w2 sh2 (p : Int) t d (wAll p (shL g k (p - g)) (shL g f (p - g)) (shL g c (p - g)))), A3, B4, A5, C6]) (161, [some (.inr 64), some (.inl (g : Int)), some (.inl (((g + i) : Nat) : Int)), some (.inl (x : Int))], [], [A0, B, (moSeg 64 (shL g k (p - g)) (shL g f (p - g)) (shL g c (p - g)) (shL g n (p - g)) (shL g kp (p - g)) (colL (colsL g (p + 1) (rowsL g (p + 1) l (p - g)) i) (g + i) x) nt w sh (((p + 1) : Nat) : Int) t d wa), A3, B4, A5, C6]) := by
        intro j2
        induction j2 with
        | zero =>
          intro x  hij2 
          obtain rfl : p + 1 = x := by omega
          refine aGo okX3_remove 3 (f' := (166, [some (.inr 64), some (.inl (g : Int)), some (.inl (((g + i) : Nat) : Int)), some (.inl (p + 1 : Int))], [.inl (((p + 1) : Nat) : Int), .inl (p + 1 : Int)], _)) rfl ?_
          refine b_ge (tgt := 189) okX3_remove rfl rfl ⟨by omega, by omega⟩ ⟨by omega, by omega⟩ (fun h166 => ?_) (fun h166 => absurd h166 (by omega))
          refine aGo okX3_remove 2 (f' := (149, [some (.inr 64), some (.inl (g : Int)), some (.inl ((((g + i) : Nat) : Int) + 1)), some (.inl (p + 1 : Int))], [], _)) rfl ?_
          refine b_lose (ls' := [some (.inr 64), some (.inl (g : Int)), some (.inl ((((g + i) : Nat) : Int) + 1)), none]) (lose3 _ _ _ _) ?_
          exact ih (i + 1) (by omega)
        | succ j2 ih2 =>
          intro x  hij2 
          have e0 : (colL (colsL g (p + 1) (rowsL g (p + 1) l (p - g)) i) (g + i) x).length = 49 := by rw [colL_len, colsL_len, rowsL_len]; exact hl
          refine aGo okX3_remove 3 (f' := (166, [some (.inr 64), some (.inl (g : Int)), some (.inl (((g + i) : Nat) : Int)), some (.inl (x : Int))], [.inl (((p + 1) : Nat) : Int), .inl (x : Int)], _)) rfl ?_
          refine b_ge (tgt := 189) okX3_remove rfl rfl ⟨by omega, by omega⟩ ⟨by omega, by omega⟩ (fun h166 => absurd h166 (by omega)) (fun h166 => ?_)
          refine aGo okX3_remove 8 (f' := (177, [some (.inr 64), some (.inl (g : Int)), some (.inl (((g + i) : Nat) : Int)), some (.inl (x : Int))], [.inl ((((g + i) : Nat) : Int) + 1), .inl (x : Int), .inr 64, .inl (((g + i) : Nat) : Int), .inl (x : Int), .inr 64], _)) rfl ?_
          refine b_vV (as := [.inl (x : Int), .inl ((((g + i) : Nat) : Int) + 1)]) (rest := [.inl (((g + i) : Nat) : Int), .inl (x : Int), .inr 64]) (k := 64) (.inl ((colL (colsL g (p + 1) (rowsL g (p + 1) l (p - g)) i) (g + i) x).getD (7 * x + ((g + i) + 1)) 0)) okX3_remove rfl lkX3_80 caX3_lentBy (Nat.le_of_ble_eq_true rfl) rfl (Nat.le_of_ble_eq_true rfl) rfl rfl rfl (c_lentBy_2 (i := x) (j := ((g + i) + 1)) (by first | omega | (simp only [List.length_set]; omega)) (by omega) (by omega)) ?_
          refine b_vN (as := [.inl (x : Int), .inl (((g + i) : Nat) : Int), .inl ((colL (colsL g (p + 1) (rowsL g (p + 1) l (p - g)) i) (g + i) x).getD (7 * x + ((g + i) + 1)) 0)]) (rest := []) (k := 64) okX3_remove rfl lkX3_102 caX3_putLent (Nat.le_of_ble_eq_true rfl) rfl (Nat.le_of_ble_eq_true rfl) rfl rfl rfl (c_putLent_2 (i := x) (j := (g + i)) (by first | omega | (simp only [List.length_set]; omega)) (by omega) (by omega) ((colL (colsL g (p + 1) (rowsL g (p + 1) l (p - g)) i) (g + i) x).getD (7 * x + ((g + i) + 1)) 0)) ?_
          refine b_cast (f' := (183, [some (.inr 64), some (.inl (g : Int)), some (.inl (((g + i) : Nat) : Int)), some (.inl (x : Int))], [], [A0, B, (moSeg 64 (shL g k (p - g)) (shL g f (p - g)) (shL g c (p - g)) (shL g n (p - g)) (shL g kp (p - g)) ((colL (colsL g (p + 1) (rowsL g (p + 1) l (p - g)) i) (g + i) x).set (7 * x + (g + i)) ((colL (colsL g (p + 1) (rowsL g (p + 1) l (p - g)) i) (g + i) x).getD (7 * x + ((g + i) + 1)) 0)) nt w sh (((p + 1) : Nat) : Int) t d wa), A3, B4, A5, C6])) rfl ?_
          refine aGo okX3_remove 2 (f' := (161, [some (.inr 64), some (.inl (g : Int)), some (.inl (((g + i) : Nat) : Int)), some (.inl ((x : Int) + 1))], [], _)) rfl ?_
          exact ih2 (x + 1) (by omega)
      refine aGo okX3_remove 5 (f' := (156, [some (.inr 64), some (.inl (g : Int)), some (.inl (((g + i) : Nat) : Int)), none], [.inl (((p + 1) : Nat) : Int), .inl ((((g + i) : Nat) : Int) + 1)], _)) rfl ?_
      refine b_ge (tgt := 195) okX3_remove rfl rfl ⟨by omega, by omega⟩ ⟨by omega, by omega⟩ (fun h156 => absurd h156 (by omega)) (fun h156 => ?_)
      refine aGo okX3_remove 2 (f' := (161, [some (.inr 64), some (.inl (g : Int)), some (.inl (((g + i) : Nat) : Int)), some (.inl 0)], [], _)) rfl ?_
      exact lq (p + 1) 0 (by omega)
  have l1 : ∀ (j i : Nat), i + j = (p - g) → AW mX3_remove 4 0 0 N none (fun rv h => rv = none ∧ ∃ nt2 w2 sh2 : List Int, nOK p (colsL g (p + 1) (rowsL g (p + 1) l (p - g)) (p - g)) nt2 ∧ wOK p (shL g k (p - g)) (shL g f (p - g)) (shL g c (p - g)) w2 (wAll p (shL g k (p - g)) (shL g f (p - g)) (shL g c (p - g))) ∧ sOK p (shL g k (p - g)) (shL g f (p - g)) (shL g c (p - g)) sh2 t ∧ h = [A0, B, (moSeg 64 (shL g k (p - g)) (shL g f (p - g)) (shL g c (p - g)) (shL g n (p - g)) (shL g kp (p - g)) (colsL g (p + 1) (rowsL g (p + 1) l (p - g)) (p - g)) nt2 w2 sh2 (p : Int) t d (wAll p (shL g k (p - g)) (shL g f (p - g)) (shL g c (p - g)))), A3, B4, A5, C6]) (11, [some (.inr 64), some (.inl (g : Int)), some (.inl (((g + i) : Nat) : Int)), none], [], [A0, B, (moSeg 64 (shL g k i) (shL g f i) (shL g c i) (shL g n i) (shL g kp i) (rowsL g (p + 1) l i) nt w sh (((p + 1) : Nat) : Int) t d wa), A3, B4, A5, C6]) := by
    intro j
    induction j with
    | zero =>
      intro i  hij 
      obtain rfl : (p - g) = i := by omega
      refine aGo okX3_remove 5 (f' := (18, [some (.inr 64), some (.inl (g : Int)), some (.inl (((g + (p - g)) : Nat) : Int)), none], [.inl (((p + 1) : Nat) : Int), .inl ((((g + (p - g)) : Nat) : Int) + 1)], _)) rfl ?_
      refine b_ge (tgt := 147) okX3_remove rfl rfl ⟨by omega, by omega⟩ ⟨by omega, by omega⟩ (fun h18 => ?_) (fun h18 => absurd h18 (by omega))
      refine aGo okX3_remove 2 (f' := (149, [some (.inr 64), some (.inl (g : Int)), some (.inl (g : Int)), none], [], _)) rfl ?_
      exact l2 (p - g) 0 (by omega)
    | succ j ih =>
      intro i  hij 
      have lq : ∀ (j2 x : Nat), x + j2 = p + 1 → AW mX3_remove 4 0 0 N none (fun rv h => rv = none ∧ ∃ nt2 w2 sh2 : List Int, nOK p (colsL g (p + 1) (rowsL g (p + 1) l (p - g)) (p - g)) nt2 ∧ wOK p (shL g k (p - g)) (shL g f (p - g)) (shL g c (p - g)) w2 (wAll p (shL g k (p - g)) (shL g f (p - g)) (shL g c (p - g))) ∧ sOK p (shL g k (p - g)) (shL g f (p - g)) (shL g c (p - g)) sh2 t ∧ h = [A0, B, (moSeg 64 (shL g k (p - g)) (shL g f (p - g)) (shL g c (p - g)) (shL g n (p - g)) (shL g kp (p - g)) (colsL g (p + 1) (rowsL g (p + 1) l (p - g)) (p - g)) nt2 w2 sh2 (p : Int) t d (wAll p (shL g k (p - g)) (shL g f (p - g)) (shL g c (p - g)))), A3, B4, A5, C6]) (113, [some (.inr 64), some (.inl (g : Int)), some (.inl (((g + i) : Nat) : Int)), some (.inl (x : Int))], [], [A0, B, (moSeg 64 (shL g k (i + 1)) (shL g f (i + 1)) (shL g c (i + 1)) (shL g n (i + 1)) (shL g kp (i + 1)) (rowL (rowsL g (p + 1) l i) (g + i) x) nt w sh (((p + 1) : Nat) : Int) t d wa), A3, B4, A5, C6]) := by
        intro j2
        induction j2 with
        | zero =>
          intro x  hij2 
          obtain rfl : p + 1 = x := by omega
          refine aGo okX3_remove 3 (f' := (118, [some (.inr 64), some (.inl (g : Int)), some (.inl (((g + i) : Nat) : Int)), some (.inl (p + 1 : Int))], [.inl (((p + 1) : Nat) : Int), .inl (p + 1 : Int)], _)) rfl ?_
          refine b_ge (tgt := 141) okX3_remove rfl rfl ⟨by omega, by omega⟩ ⟨by omega, by omega⟩ (fun h118 => ?_) (fun h118 => absurd h118 (by omega))
          refine aGo okX3_remove 2 (f' := (11, [some (.inr 64), some (.inl (g : Int)), some (.inl ((((g + i) : Nat) : Int) + 1)), some (.inl (p + 1 : Int))], [], _)) rfl ?_
          refine b_lose (ls' := [some (.inr 64), some (.inl (g : Int)), some (.inl ((((g + i) : Nat) : Int) + 1)), none]) (lose3 _ _ _ _) ?_
          exact ih (i + 1) (by omega)
        | succ j2 ih2 =>
          intro x  hij2 
          have e0 : (rowL (rowsL g (p + 1) l i) (g + i) x).length = 49 := by rw [rowL_len, rowsL_len]; exact hl
          refine aGo okX3_remove 3 (f' := (118, [some (.inr 64), some (.inl (g : Int)), some (.inl (((g + i) : Nat) : Int)), some (.inl (x : Int))], [.inl (((p + 1) : Nat) : Int), .inl (x : Int)], _)) rfl ?_
          refine b_ge (tgt := 141) okX3_remove rfl rfl ⟨by omega, by omega⟩ ⟨by omega, by omega⟩ (fun h118 => absurd h118 (by omega)) (fun h118 => ?_)
          refine aGo okX3_remove 8 (f' := (129, [some (.inr 64), some (.inl (g : Int)), some (.inl (((g + i) : Nat) : Int)), some (.inl (x : Int))], [.inl (x : Int), .inl ((((g + i) : Nat) : Int) + 1), .inr 64, .inl (x : Int), .inl (((g + i) : Nat) : Int), .inr 64], _)) rfl ?_
          refine b_vV (as := [.inl ((((g + i) : Nat) : Int) + 1), .inl (x : Int)]) (rest := [.inl (x : Int), .inl (((g + i) : Nat) : Int), .inr 64]) (k := 64) (.inl ((rowL (rowsL g (p + 1) l i) (g + i) x).getD (7 * ((g + i) + 1) + x) 0)) okX3_remove rfl lkX3_80 caX3_lentBy (Nat.le_of_ble_eq_true rfl) rfl (Nat.le_of_ble_eq_true rfl) rfl rfl rfl (c_lentBy_2 (i := ((g + i) + 1)) (j := x) (by first | omega | (simp only [List.length_set]; omega)) (by omega) (by omega)) ?_
          refine b_vN (as := [.inl (((g + i) : Nat) : Int), .inl (x : Int), .inl ((rowL (rowsL g (p + 1) l i) (g + i) x).getD (7 * ((g + i) + 1) + x) 0)]) (rest := []) (k := 64) okX3_remove rfl lkX3_102 caX3_putLent (Nat.le_of_ble_eq_true rfl) rfl (Nat.le_of_ble_eq_true rfl) rfl rfl rfl (c_putLent_2 (i := (g + i)) (j := x) (by first | omega | (simp only [List.length_set]; omega)) (by omega) (by omega) ((rowL (rowsL g (p + 1) l i) (g + i) x).getD (7 * ((g + i) + 1) + x) 0)) ?_
          refine b_cast (f' := (135, [some (.inr 64), some (.inl (g : Int)), some (.inl (((g + i) : Nat) : Int)), some (.inl (x : Int))], [], [A0, B, (moSeg 64 (shL g k (i + 1)) (shL g f (i + 1)) (shL g c (i + 1)) (shL g n (i + 1)) (shL g kp (i + 1)) ((rowL (rowsL g (p + 1) l i) (g + i) x).set (7 * (g + i) + x) ((rowL (rowsL g (p + 1) l i) (g + i) x).getD (7 * ((g + i) + 1) + x) 0)) nt w sh (((p + 1) : Nat) : Int) t d wa), A3, B4, A5, C6])) rfl ?_
          refine aGo okX3_remove 2 (f' := (113, [some (.inr 64), some (.inl (g : Int)), some (.inl (((g + i) : Nat) : Int)), some (.inl ((x : Int) + 1))], [], _)) rfl ?_
          exact ih2 (x + 1) (by omega)
      have e_k : (shL g k i).length = 7 := by rw [shL_len]; exact hk
      have e_f : (shL g f i).length = 7 := by rw [shL_len]; exact hf
      have e_c : (shL g c i).length = 7 := by rw [shL_len]; exact hc
      have e_n : (shL g n i).length = 7 := by rw [shL_len]; exact hn
      have e_kp : (shL g kp i).length = 7 := by rw [shL_len]; exact hkp
      refine aGo okX3_remove 5 (f' := (18, [some (.inr 64), some (.inl (g : Int)), some (.inl (((g + i) : Nat) : Int)), none], [.inl (((p + 1) : Nat) : Int), .inl ((((g + i) : Nat) : Int) + 1)], _)) rfl ?_
      refine b_ge (tgt := 147) okX3_remove rfl rfl ⟨by omega, by omega⟩ ⟨by omega, by omega⟩ (fun h18 => absurd h18 (by omega)) (fun h18 => ?_)
      refine aGo okX3_remove 8 (f' := (33, [some (.inr 64), some (.inl (g : Int)), some (.inl (((g + i) : Nat) : Int)), none], [.inl ((((g + i) : Nat) : Int) + 1), .inr 65, .inl (((g + i) : Nat) : Int), .inr 65], _)) rfl ?_
      refine b_vV (as := [.inl ((((g + i) : Nat) : Int) + 1)]) (rest := [.inl (((g + i) : Nat) : Int), .inr 65]) (k := 65) (.inl ((shL g k i).getD ((g + i) + 1) 0)) okX3_remove rfl lkX3_65 caX4_at (Nat.le_of_ble_eq_true rfl) rfl (Nat.le_of_ble_eq_true rfl) rfl rfl rfl (c_at (i := ((g + i) + 1)) rfl rfl (by first | omega | (simp only [List.length_set]; omega)) (by omega)) ?_
      refine b_vN (as := [.inl (((g + i) : Nat) : Int), .inl ((shL g k i).getD ((g + i) + 1) 0)]) (rest := []) (k := 65) okX3_remove rfl lkX3_98 caX4_put (Nat.le_of_ble_eq_true rfl) rfl (Nat.le_of_ble_eq_true rfl) rfl rfl rfl (c_put (i := (g + i)) rfl rfl (by first | omega | (simp only [List.length_set]; omega)) (by first | omega | (simp only [List.length_set]; omega)) ((shL g k i).getD ((g + i) + 1) 0)) ?_
      refine b_cast (f' := (39, [some (.inr 64), some (.inl (g : Int)), some (.inl (((g + i) : Nat) : Int)), none], [], [A0, B, (moSeg 64 ((shL g k i).set (g + i) ((shL g k i).getD ((g + i) + 1) 0)) (shL g f i) (shL g c i) (shL g n i) (shL g kp i) (rowsL g (p + 1) l i) nt w sh (((p + 1) : Nat) : Int) t d wa), A3, B4, A5, C6])) rfl ?_
      refine aGo okX3_remove 8 (f' := (51, [some (.inr 64), some (.inl (g : Int)), some (.inl (((g + i) : Nat) : Int)), none], [.inl ((((g + i) : Nat) : Int) + 1), .inr 67, .inl (((g + i) : Nat) : Int), .inr 67], _)) rfl ?_
      refine b_vV (as := [.inl ((((g + i) : Nat) : Int) + 1)]) (rest := [.inl (((g + i) : Nat) : Int), .inr 67]) (k := 67) (.inl ((shL g f i).getD ((g + i) + 1) 0)) okX3_remove rfl lkX3_65 caX4_at (Nat.le_of_ble_eq_true rfl) rfl (Nat.le_of_ble_eq_true rfl) rfl rfl rfl (c_at (i := ((g + i) + 1)) rfl rfl (by first | omega | (simp only [List.length_set]; omega)) (by omega)) ?_
      refine b_vN (as := [.inl (((g + i) : Nat) : Int), .inl ((shL g f i).getD ((g + i) + 1) 0)]) (rest := []) (k := 67) okX3_remove rfl lkX3_98 caX4_put (Nat.le_of_ble_eq_true rfl) rfl (Nat.le_of_ble_eq_true rfl) rfl rfl rfl (c_put (i := (g + i)) rfl rfl (by first | omega | (simp only [List.length_set]; omega)) (by first | omega | (simp only [List.length_set]; omega)) ((shL g f i).getD ((g + i) + 1) 0)) ?_
      refine b_cast (f' := (57, [some (.inr 64), some (.inl (g : Int)), some (.inl (((g + i) : Nat) : Int)), none], [], [A0, B, (moSeg 64 ((shL g k i).set (g + i) ((shL g k i).getD ((g + i) + 1) 0)) ((shL g f i).set (g + i) ((shL g f i).getD ((g + i) + 1) 0)) (shL g c i) (shL g n i) (shL g kp i) (rowsL g (p + 1) l i) nt w sh (((p + 1) : Nat) : Int) t d wa), A3, B4, A5, C6])) rfl ?_
      refine aGo okX3_remove 8 (f' := (69, [some (.inr 64), some (.inl (g : Int)), some (.inl (((g + i) : Nat) : Int)), none], [.inl ((((g + i) : Nat) : Int) + 1), .inr 69, .inl (((g + i) : Nat) : Int), .inr 69], _)) rfl ?_
      refine b_vV (as := [.inl ((((g + i) : Nat) : Int) + 1)]) (rest := [.inl (((g + i) : Nat) : Int), .inr 69]) (k := 69) (.inl ((shL g c i).getD ((g + i) + 1) 0)) okX3_remove rfl lkX3_65 caX4_at (Nat.le_of_ble_eq_true rfl) rfl (Nat.le_of_ble_eq_true rfl) rfl rfl rfl (c_at (i := ((g + i) + 1)) rfl rfl (by first | omega | (simp only [List.length_set]; omega)) (by omega)) ?_
      refine b_vN (as := [.inl (((g + i) : Nat) : Int), .inl ((shL g c i).getD ((g + i) + 1) 0)]) (rest := []) (k := 69) okX3_remove rfl lkX3_98 caX4_put (Nat.le_of_ble_eq_true rfl) rfl (Nat.le_of_ble_eq_true rfl) rfl rfl rfl (c_put (i := (g + i)) rfl rfl (by first | omega | (simp only [List.length_set]; omega)) (by first | omega | (simp only [List.length_set]; omega)) ((shL g c i).getD ((g + i) + 1) 0)) ?_
      refine b_cast (f' := (75, [some (.inr 64), some (.inl (g : Int)), some (.inl (((g + i) : Nat) : Int)), none], [], [A0, B, (moSeg 64 ((shL g k i).set (g + i) ((shL g k i).getD ((g + i) + 1) 0)) ((shL g f i).set (g + i) ((shL g f i).getD ((g + i) + 1) 0)) ((shL g c i).set (g + i) ((shL g c i).getD ((g + i) + 1) 0)) (shL g n i) (shL g kp i) (rowsL g (p + 1) l i) nt w sh (((p + 1) : Nat) : Int) t d wa), A3, B4, A5, C6])) rfl ?_
      refine aGo okX3_remove 8 (f' := (87, [some (.inr 64), some (.inl (g : Int)), some (.inl (((g + i) : Nat) : Int)), none], [.inl ((((g + i) : Nat) : Int) + 1), .inr 71, .inl (((g + i) : Nat) : Int), .inr 71], _)) rfl ?_
      refine b_vV (as := [.inl ((((g + i) : Nat) : Int) + 1)]) (rest := [.inl (((g + i) : Nat) : Int), .inr 71]) (k := 71) (.inl ((shL g n i).getD ((g + i) + 1) 0)) okX3_remove rfl lkX3_65 caX4_at (Nat.le_of_ble_eq_true rfl) rfl (Nat.le_of_ble_eq_true rfl) rfl rfl rfl (c_at (i := ((g + i) + 1)) rfl rfl (by first | omega | (simp only [List.length_set]; omega)) (by omega)) ?_
      refine b_vN (as := [.inl (((g + i) : Nat) : Int), .inl ((shL g n i).getD ((g + i) + 1) 0)]) (rest := []) (k := 71) okX3_remove rfl lkX3_98 caX4_put (Nat.le_of_ble_eq_true rfl) rfl (Nat.le_of_ble_eq_true rfl) rfl rfl rfl (c_put (i := (g + i)) rfl rfl (by first | omega | (simp only [List.length_set]; omega)) (by first | omega | (simp only [List.length_set]; omega)) ((shL g n i).getD ((g + i) + 1) 0)) ?_
      refine b_cast (f' := (93, [some (.inr 64), some (.inl (g : Int)), some (.inl (((g + i) : Nat) : Int)), none], [], [A0, B, (moSeg 64 ((shL g k i).set (g + i) ((shL g k i).getD ((g + i) + 1) 0)) ((shL g f i).set (g + i) ((shL g f i).getD ((g + i) + 1) 0)) ((shL g c i).set (g + i) ((shL g c i).getD ((g + i) + 1) 0)) ((shL g n i).set (g + i) ((shL g n i).getD ((g + i) + 1) 0)) (shL g kp i) (rowsL g (p + 1) l i) nt w sh (((p + 1) : Nat) : Int) t d wa), A3, B4, A5, C6])) rfl ?_
      refine aGo okX3_remove 8 (f' := (105, [some (.inr 64), some (.inl (g : Int)), some (.inl (((g + i) : Nat) : Int)), none], [.inl ((((g + i) : Nat) : Int) + 1), .inr 73, .inl (((g + i) : Nat) : Int), .inr 73], _)) rfl ?_
      refine b_vV (as := [.inl ((((g + i) : Nat) : Int) + 1)]) (rest := [.inl (((g + i) : Nat) : Int), .inr 73]) (k := 73) (.inl ((shL g kp i).getD ((g + i) + 1) 0)) okX3_remove rfl lkX3_65 caX4_at (Nat.le_of_ble_eq_true rfl) rfl (Nat.le_of_ble_eq_true rfl) rfl rfl rfl (c_at (i := ((g + i) + 1)) rfl rfl (by first | omega | (simp only [List.length_set]; omega)) (by omega)) ?_
      refine b_vN (as := [.inl (((g + i) : Nat) : Int), .inl ((shL g kp i).getD ((g + i) + 1) 0)]) (rest := []) (k := 73) okX3_remove rfl lkX3_98 caX4_put (Nat.le_of_ble_eq_true rfl) rfl (Nat.le_of_ble_eq_true rfl) rfl rfl rfl (c_put (i := (g + i)) rfl rfl (by first | omega | (simp only [List.length_set]; omega)) (by first | omega | (simp only [List.length_set]; omega)) ((shL g kp i).getD ((g + i) + 1) 0)) ?_
      refine b_cast (f' := (111, [some (.inr 64), some (.inl (g : Int)), some (.inl (((g + i) : Nat) : Int)), none], [], [A0, B, (moSeg 64 ((shL g k i).set (g + i) ((shL g k i).getD ((g + i) + 1) 0)) ((shL g f i).set (g + i) ((shL g f i).getD ((g + i) + 1) 0)) ((shL g c i).set (g + i) ((shL g c i).getD ((g + i) + 1) 0)) ((shL g n i).set (g + i) ((shL g n i).getD ((g + i) + 1) 0)) ((shL g kp i).set (g + i) ((shL g kp i).getD ((g + i) + 1) 0)) (rowsL g (p + 1) l i) nt w sh (((p + 1) : Nat) : Int) t d wa), A3, B4, A5, C6])) rfl ?_
      refine aGo okX3_remove 2 (f' := (113, [some (.inr 64), some (.inl (g : Int)), some (.inl (((g + i) : Nat) : Int)), some (.inl 0)], [], _)) rfl ?_
      exact lq (p + 1) 0 (by omega)
  refine aGo okX3_remove 2 (f' := (2, [some (.inr 64), some (.inl (g : Int)), none, none], [.inl (g : Int), .inr 64], _)) rfl ?_
  refine b_vV (as := [.inl (g : Int)]) (rest := []) (k := 64) (.inl 1) okX3_remove rfl lkX3_61 caX3_isThere (Nat.le_of_ble_eq_true rfl) rfl (Nat.le_of_ble_eq_true rfl) rfl rfl rfl (c_isThere_2_t (p := p + 1) (x := (g : Int)) (by omega) (by omega) (by omega)) ?_
  refine b0_ne (tgt := 9) okX3_remove rfl rfl ⟨by omega, by omega⟩ (fun h5 => ?_) (fun h5 => absurd h5 (by omega))
  refine aGo okX3_remove 2 (f' := (11, [some (.inr 64), some (.inl (g : Int)), some (.inl (g : Int)), none], [], _)) rfl ?_
  exact l1 (p - g) 0 (by omega)
set_option maxRecDepth 100000 in
set_option maxHeartbeats 4000000 in
theorem c_loansAboveNothing_2 (hp : p ≤ 7) (hl : l.length = 49) (rl : rng l 99) : aEv mX3_loansAboveNothing 2 0 0 N [.inr 64] [A0, B, (moSeg 64 k f c n kp l nt w sh (p : Int) t d wa), A3, B4, A5, C6] ((aQx (some (.inl (sumN p (fun i => loansN p l i p)))) [A0, B, (moSeg 64 k f c n kp l nt w sh (p : Int) t d wa), A3, B4, A5, C6])) := by
  refine aEv_of okX3_loansAboveNothing caX3_loansAboveNothing (Nat.le_of_ble_eq_true rfl) ?_
  have lp : ∀ (j i : Nat), i + j = p → AW mX3_loansAboveNothing 2 0 0 N none (aQx (some (.inl (sumN p (fun i => loansN p l i p)))) [A0, B, (moSeg 64 k f c n kp l nt w sh (p : Int) t d wa), A3, B4, A5, C6]) (4, [some (.inr 64), some (.inl (sumN i (fun i => loansN p l i p))), some (.inl (i : Int)), none], [], [A0, B, (moSeg 64 k f c n kp l nt w sh (p : Int) t d wa), A3, B4, A5, C6]) := by
    intro j
    induction j with
    | zero =>
      intro i  hij 
      obtain rfl : p = i := by omega
      refine aGo okX3_loansAboveNothing 3 (f' := (9, [some (.inr 64), some (.inl (sumN p (fun i => loansN p l i p))), some (.inl (p : Int)), none], [.inl (p : Int), .inl (p : Int)], _)) rfl ?_
      refine b_ge (tgt := 46) okX3_loansAboveNothing rfl rfl ⟨by omega, by omega⟩ ⟨by omega, by omega⟩ (fun h9 => ?_) (fun h9 => absurd h9 (by omega))
      refine aGo okX3_loansAboveNothing 1 (f' := (47, [some (.inr 64), some (.inl (sumN p (fun i => loansN p l i p))), some (.inl (p : Int)), none], [.inl (sumN p (fun i => loansN p l i p))], _)) rfl ?_
      exact b_ret (v := (some (.inl (sumN p (fun i => loansN p l i p))))) ⟨rfl, Or.inl rfl⟩ ⟨rfl, rfl⟩ rfl
    | succ j ih =>
      intro i  hij 
      have lq : ∀ (j2 x : Nat), x + j2 = p → AW mX3_loansAboveNothing 2 0 0 N none (aQx (some (.inl (sumN p (fun i => loansN p l i p)))) [A0, B, (moSeg 64 k f c n kp l nt w sh (p : Int) t d wa), A3, B4, A5, C6]) (14, [some (.inr 64), some (.inl ((sumN i (fun i => loansN p l i p)) + (loansN p l i x))), some (.inl (i : Int)), some (.inl (x : Int))], [], [A0, B, (moSeg 64 k f c n kp l nt w sh (p : Int) t d wa), A3, B4, A5, C6]) := by
        intro j2
        induction j2 with
        | zero =>
          intro x  hij2 
          obtain rfl : p = x := by omega
          refine aGo okX3_loansAboveNothing 3 (f' := (19, [some (.inr 64), some (.inl ((sumN i (fun i => loansN p l i p)) + (loansN p l i p))), some (.inl (i : Int)), some (.inl (p : Int))], [.inl (p : Int), .inl (p : Int)], _)) rfl ?_
          refine b_ge (tgt := 40) okX3_loansAboveNothing rfl rfl ⟨by omega, by omega⟩ ⟨by omega, by omega⟩ (fun h19 => ?_) (fun h19 => absurd h19 (by omega))
          refine aGo okX3_loansAboveNothing 2 (f' := (4, [some (.inr 64), some (.inl ((sumN i (fun i => loansN p l i p)) + (loansN p l i p))), some (.inl ((i : Int) + 1)), some (.inl (p : Int))], [], _)) rfl ?_
          refine b_lose (ls' := [some (.inr 64), some (.inl ((sumN i (fun i => loansN p l i p)) + (loansN p l i p))), some (.inl ((i : Int) + 1)), none]) (lose3 _ _ _ _) ?_
          exact ih (i + 1) (by omega)
        | succ j2 ih2 =>
          intro x  hij2 
          have r1 := rl (7 * i + x)
          refine aGo okX3_loansAboveNothing 3 (f' := (19, [some (.inr 64), some (.inl ((sumN i (fun i => loansN p l i p)) + (loansN p l i x))), some (.inl (i : Int)), some (.inl (x : Int))], [.inl (p : Int), .inl (x : Int)], _)) rfl ?_
          refine b_ge (tgt := 40) okX3_loansAboveNothing rfl rfl ⟨by omega, by omega⟩ ⟨by omega, by omega⟩ (fun h19 => absurd h19 (by omega)) (fun h19 => ?_)
          refine aGo okX3_loansAboveNothing 3 (f' := (25, [some (.inr 64), some (.inl ((sumN i (fun i => loansN p l i p)) + (loansN p l i x))), some (.inl (i : Int)), some (.inl (x : Int))], [.inl (x : Int), .inl (i : Int), .inr 64], _)) rfl ?_
          refine b_vV (as := [.inl (i : Int), .inl (x : Int)]) (rest := []) (k := 64) (.inl (l.getD (7 * i + x) 0)) okX3_loansAboveNothing rfl lkX3_80 caX3_lentBy (Nat.le_of_ble_eq_true rfl) rfl (Nat.le_of_ble_eq_true rfl) rfl rfl rfl (c_lentBy_2 (i := i) (j := x) (by first | omega | (simp only [List.length_set]; omega)) (by omega) (by omega)) ?_
          refine b0_le (tgt := 34) okX3_loansAboveNothing rfl rfl ⟨by omega, by omega⟩ (fun h28 => ?_) (fun h28 => ?_)
          · refine aGo okX3_loansAboveNothing 2 (f' := (14, [some (.inr 64), some (.inl ((sumN i (fun i => loansN p l i p)) + (loansN p l i x))), some (.inl (i : Int)), some (.inl ((x : Int) + 1))], [], _)) rfl ?_
            refine b_cast (f' := (14, [some (.inr 64), some (.inl ((sumN i (fun i => loansN p l i p)) + (loansN p l i (x + 1)))), some (.inl (i : Int)), some (.inl ((x : Int) + 1))], [], [A0, B, (moSeg 64 k f c n kp l nt w sh (p : Int) t d wa), A3, B4, A5, C6])) (congrArg (fun z : Int => ((14, [some (.inr 64), some (.inl z), some (.inl (i : Int)), some (.inl ((x : Int) + 1))], [], [A0, B, (moSeg 64 k f c n kp l nt w sh (p : Int) t d wa), A3, B4, A5, C6]) : aF)) (show sumN i (fun i => loansN p l i p) + loansN p l i x = sumN i (fun i => loansN p l i p) + (loansN p l i x + (if 0 < l.getD (7 * i + x) 0 then 1 else 0)) from by rw [if_neg (by omega)]; omega)) ?_
            exact ih2 (x + 1) (by omega)
          · refine aGo okX3_loansAboveNothing 3 (f' := (14, [some (.inr 64), some (.inl (((sumN i (fun i => loansN p l i p)) + (loansN p l i x)) + 1)), some (.inl (i : Int)), some (.inl ((x : Int) + 1))], [], _)) rfl ?_
            refine b_cast (f' := (14, [some (.inr 64), some (.inl ((sumN i (fun i => loansN p l i p)) + (loansN p l i (x + 1)))), some (.inl (i : Int)), some (.inl ((x : Int) + 1))], [], [A0, B, (moSeg 64 k f c n kp l nt w sh (p : Int) t d wa), A3, B4, A5, C6])) (congrArg (fun z : Int => ((14, [some (.inr 64), some (.inl z), some (.inl (i : Int)), some (.inl ((x : Int) + 1))], [], [A0, B, (moSeg 64 k f c n kp l nt w sh (p : Int) t d wa), A3, B4, A5, C6]) : aF)) (show sumN i (fun i => loansN p l i p) + loansN p l i x + 1 = sumN i (fun i => loansN p l i p) + (loansN p l i x + (if 0 < l.getD (7 * i + x) 0 then 1 else 0)) from by rw [if_pos (by omega)]; omega)) ?_
            exact ih2 (x + 1) (by omega)
      refine aGo okX3_loansAboveNothing 3 (f' := (9, [some (.inr 64), some (.inl (sumN i (fun i => loansN p l i p))), some (.inl (i : Int)), none], [.inl (p : Int), .inl (i : Int)], _)) rfl ?_
      refine b_ge (tgt := 46) okX3_loansAboveNothing rfl rfl ⟨by omega, by omega⟩ ⟨by omega, by omega⟩ (fun h9 => absurd h9 (by omega)) (fun h9 => ?_)
      refine aGo okX3_loansAboveNothing 2 (f' := (14, [some (.inr 64), some (.inl (sumN i (fun i => loansN p l i p))), some (.inl (i : Int)), some (.inl 0)], [], _)) rfl ?_
      refine b_cast (f' := (14, [some (.inr 64), some (.inl ((sumN i (fun i => loansN p l i p)) + (loansN p l i 0))), some (.inl (i : Int)), some (.inl 0)], [], [A0, B, (moSeg 64 k f c n kp l nt w sh (p : Int) t d wa), A3, B4, A5, C6])) (congrArg (fun z : Int => ((14, [some (.inr 64), some (.inl z), some (.inl (i : Int)), some (.inl 0)], [], [A0, B, (moSeg 64 k f c n kp l nt w sh (p : Int) t d wa), A3, B4, A5, C6]) : aF)) (show sumN i (fun i => loansN p l i p) = sumN i (fun i => loansN p l i p) + 0 from (Int.add_zero _).symm)) ?_
      exact lq p 0 (by omega)
  refine aGo okX3_loansAboveNothing 4 (f' := (4, [some (.inr 64), some (.inl 0), some (.inl 0), none], [], _)) rfl ?_
  exact lp p 0 (by omega)
set_option maxRecDepth 100000 in
set_option maxHeartbeats 4000000 in
theorem c_mostSteps_2 (hp : p ≤ 7) (hc : c.length = 7) (rc : rng c 35) : aEv mX3_mostSteps 3 0 0 N [.inr 64] [A0, B, (moSeg 64 k f c n kp l nt w sh (p : Int) t d wa), A3, B4, A5, C6] ((aQx (some (.inl (msO c p p))) [A0, B, (moSeg 64 k f c n kp l nt w sh (p : Int) t d wa), A3, B4, A5, C6])) := by
  refine aEv_of okX3_mostSteps caX3_mostSteps (Nat.le_of_ble_eq_true rfl) ?_
  have lp : ∀ (j i : Nat), i + j = p → AW mX3_mostSteps 3 0 0 N none (aQx (some (.inl (msO c p p))) [A0, B, (moSeg 64 k f c n kp l nt w sh (p : Int) t d wa), A3, B4, A5, C6]) (5, [some (.inr 64), some (.inl (msO c p i)), some (.inl (i : Int)), none], [], [A0, B, (moSeg 64 k f c n kp l nt w sh (p : Int) t d wa), A3, B4, A5, C6]) := by
    intro j
    induction j with
    | zero =>
      intro i  hij 
      obtain rfl : p = i := by omega
      refine aGo okX3_mostSteps 3 (f' := (10, [some (.inr 64), some (.inl (msO c p p)), some (.inl (p : Int)), none], [.inl (p : Int), .inl (p : Int)], _)) rfl ?_
      refine b_ge (tgt := 48) okX3_mostSteps rfl rfl ⟨by omega, by omega⟩ ⟨by omega, by omega⟩ (fun h10 => ?_) (fun h10 => absurd h10 (by omega))
      refine aGo okX3_mostSteps 1 (f' := (49, [some (.inr 64), some (.inl (msO c p p)), some (.inl (p : Int)), none], [.inl (msO c p p)], _)) rfl ?_
      exact b_ret (v := (some (.inl (msO c p p)))) ⟨rfl, Or.inl rfl⟩ ⟨rfl, rfl⟩ rfl
    | succ j ih =>
      intro i  hij 
      have lq : ∀ (j2 x : Nat), x + j2 = (p - (i + 1)) → AW mX3_mostSteps 3 0 0 N none (aQx (some (.inl (msO c p p))) [A0, B, (moSeg 64 k f c n kp l nt w sh (p : Int) t d wa), A3, B4, A5, C6]) (17, [some (.inr 64), some (.inl (msI c i (msO c p i) x)), some (.inl (i : Int)), some (.inl ((((i + 1) + x) : Nat) : Int))], [], [A0, B, (moSeg 64 k f c n kp l nt w sh (p : Int) t d wa), A3, B4, A5, C6]) := by
        intro j2
        induction j2 with
        | zero =>
          intro x  hij2 
          obtain rfl : (p - (i + 1)) = x := by omega
          refine aGo okX3_mostSteps 3 (f' := (22, [some (.inr 64), some (.inl (msI c i (msO c p i) (p - (i + 1)))), some (.inl (i : Int)), some (.inl ((((i + 1) + (p - (i + 1))) : Nat) : Int))], [.inl (p : Int), .inl ((((i + 1) + (p - (i + 1))) : Nat) : Int)], _)) rfl ?_
          refine b_ge (tgt := 42) okX3_mostSteps rfl rfl ⟨by omega, by omega⟩ ⟨by omega, by omega⟩ (fun h22 => ?_) (fun h22 => absurd h22 (by omega))
          refine aGo okX3_mostSteps 2 (f' := (5, [some (.inr 64), some (.inl (msI c i (msO c p i) (p - (i + 1)))), some (.inl ((i : Int) + 1)), some (.inl ((((i + 1) + (p - (i + 1))) : Nat) : Int))], [], _)) rfl ?_
          refine b_lose (ls' := [some (.inr 64), some (.inl (msI c i (msO c p i) (p - (i + 1)))), some (.inl ((i : Int) + 1)), none]) (lose3 _ _ _ _) ?_
          exact ih (i + 1) (by omega)
        | succ j2 ih2 =>
          intro x  hij2 
          have r1 := msI_le rc (msO_le rc (p := p) i) (a := i) x
          have r2 := stp_le (rc i) (rc ((i + 1) + x))
          refine aGo okX3_mostSteps 3 (f' := (22, [some (.inr 64), some (.inl (msI c i (msO c p i) x)), some (.inl (i : Int)), some (.inl ((((i + 1) + x) : Nat) : Int))], [.inl (p : Int), .inl ((((i + 1) + x) : Nat) : Int)], _)) rfl ?_
          refine b_ge (tgt := 42) okX3_mostSteps rfl rfl ⟨by omega, by omega⟩ ⟨by omega, by omega⟩ (fun h22 => absurd h22 (by omega)) (fun h22 => ?_)
          refine aGo okX3_mostSteps 4 (f' := (29, [some (.inr 64), some (.inl (msI c i (msO c p i) x)), some (.inl (i : Int)), some (.inl ((((i + 1) + x) : Nat) : Int))], [.inl ((((i + 1) + x) : Nat) : Int), .inl (i : Int), .inr 64, .inl (msI c i (msO c p i) x)], _)) rfl ?_
          refine b_vV (as := [.inl (i : Int), .inl ((((i + 1) + x) : Nat) : Int)]) (rest := [.inl (msI c i (msO c p i) x)]) (k := 64) (.inl (stp (c.getD i 0) (c.getD ((i + 1) + x) 0))) okX3_mostSteps rfl lkX3_83 caX3_stepsOf (Nat.le_of_ble_eq_true rfl) rfl (Nat.le_of_ble_eq_true rfl) rfl rfl rfl (c_stepsOf_2 (i := i) (j := ((i + 1) + x)) (by first | omega | (simp only [List.length_set]; omega)) rc (by omega) (by omega)) ?_
          refine b_max okX3_mostSteps rfl lkX3_86 ma_max_s ma_max_c (Nat.le_of_ble_eq_true rfl) (Nat.le_of_ble_eq_true rfl) ⟨by omega, by omega⟩ ⟨by omega, by omega⟩ ?_
          refine aGo okX3_mostSteps 3 (f' := (17, [some (.inr 64), some (.inl (max (msI c i (msO c p i) x) (stp (c.getD i 0) (c.getD ((i + 1) + x) 0)))), some (.inl (i : Int)), some (.inl (((((i + 1) + x) : Nat) : Int) + 1))], [], _)) rfl ?_
          exact ih2 (x + 1) (by omega)
      refine aGo okX3_mostSteps 3 (f' := (10, [some (.inr 64), some (.inl (msO c p i)), some (.inl (i : Int)), none], [.inl (p : Int), .inl (i : Int)], _)) rfl ?_
      refine b_ge (tgt := 48) okX3_mostSteps rfl rfl ⟨by omega, by omega⟩ ⟨by omega, by omega⟩ (fun h10 => absurd h10 (by omega)) (fun h10 => ?_)
      refine aGo okX3_mostSteps 4 (f' := (17, [some (.inr 64), some (.inl (msO c p i)), some (.inl (i : Int)), some (.inl ((i : Int) + 1))], [], _)) rfl ?_
      exact lq (p - (i + 1)) 0 (by omega)
  refine aGo okX3_mostSteps 4 (f' := (5, [some (.inr 64), some (.inl (-9)), some (.inl 0), none], [], _)) rfl ?_
  exact lp p 0 (by omega)
set_option maxRecDepth 100000 in
set_option maxHeartbeats 4000000 in
theorem c_nearestPair_2 (hp : p ≤ 7) (hc : c.length = 7) (rc : rng c 35) : aEv mX3_nearestPair 3 0 0 N [.inr 64] [A0, B, (moSeg 64 k f c n kp l nt w sh (p : Int) t d wa), A3, B4, A5, C6] ((aQx (some (.inl (npO c p p).1)) [A0, B, (moSeg 64 k f c n kp l nt w sh (p : Int) t d wa), A3, B4, A5, C6])) := by
  refine aEv_of okX3_nearestPair caX3_nearestPair (Nat.le_of_ble_eq_true rfl) ?_
  have lp : ∀ (j i : Nat), i + j = p → AW mX3_nearestPair 3 0 0 N none (aQx (some (.inl (npO c p p).1)) [A0, B, (moSeg 64 k f c n kp l nt w sh (p : Int) t d wa), A3, B4, A5, C6]) (8, [some (.inr 64), some (.inl ((npO c p i).1)), some (.inl ((npO c p i).2)), some (.inl (i : Int)), none], [], [A0, B, (moSeg 64 k f c n kp l nt w sh (p : Int) t d wa), A3, B4, A5, C6]) := by
    intro j
    induction j with
    | zero =>
      intro i  hij 
      obtain rfl : p = i := by omega
      refine aGo okX3_nearestPair 3 (f' := (13, [some (.inr 64), some (.inl ((npO c p p).1)), some (.inl ((npO c p p).2)), some (.inl (p : Int)), none], [.inl (p : Int), .inl (p : Int)], _)) rfl ?_
      refine b_ge (tgt := 69) okX3_nearestPair rfl rfl ⟨by omega, by omega⟩ ⟨by omega, by omega⟩ (fun h13 => ?_) (fun h13 => absurd h13 (by omega))
      refine aGo okX3_nearestPair 1 (f' := (70, [some (.inr 64), some (.inl ((npO c p p).1)), some (.inl ((npO c p p).2)), some (.inl (p : Int)), none], [.inl ((npO c p p).1)], _)) rfl ?_
      exact b_ret (v := (some (.inl ((npO c p p).1)))) ⟨rfl, Or.inl rfl⟩ ⟨rfl, rfl⟩ rfl
    | succ j ih =>
      intro i  hij 
      have lq : ∀ (j2 x : Nat), x + j2 = (p - (i + 1)) → AW mX3_nearestPair 3 0 0 N none (aQx (some (.inl (npO c p p).1)) [A0, B, (moSeg 64 k f c n kp l nt w sh (p : Int) t d wa), A3, B4, A5, C6]) (21, [some (.inr 64), some (.inl ((npI c i (npO c p i) x).1)), some (.inl ((npI c i (npO c p i) x).2)), some (.inl (i : Int)), some (.inl ((((i + 1) + x) : Nat) : Int))], [], [A0, B, (moSeg 64 k f c n kp l nt w sh (p : Int) t d wa), A3, B4, A5, C6]) := by
        intro j2
        induction j2 with
        | zero =>
          intro x  hij2 
          obtain rfl : (p - (i + 1)) = x := by omega
          refine aGo okX3_nearestPair 3 (f' := (27, [some (.inr 64), some (.inl ((npI c i (npO c p i) (p - (i + 1))).1)), some (.inl ((npI c i (npO c p i) (p - (i + 1))).2)), some (.inl (i : Int)), some (.inl ((((i + 1) + (p - (i + 1))) : Nat) : Int))], [.inl (p : Int), .inl ((((i + 1) + (p - (i + 1))) : Nat) : Int)], _)) rfl ?_
          refine b_ge (tgt := 63) okX3_nearestPair rfl rfl ⟨by omega, by omega⟩ ⟨by omega, by omega⟩ (fun h27 => ?_) (fun h27 => absurd h27 (by omega))
          refine aGo okX3_nearestPair 2 (f' := (8, [some (.inr 64), some (.inl ((npI c i (npO c p i) (p - (i + 1))).1)), some (.inl ((npI c i (npO c p i) (p - (i + 1))).2)), some (.inl ((i : Int) + 1)), some (.inl ((((i + 1) + (p - (i + 1))) : Nat) : Int))], [], _)) rfl ?_
          refine b_lose (ls' := [some (.inr 64), some (.inl ((npI c i (npO c p i) (p - (i + 1))).1)), some (.inl ((npI c i (npO c p i) (p - (i + 1))).2)), some (.inl ((i : Int) + 1)), none]) (lose4g _ _ _ _ _) ?_
          exact ih (i + 1) (by omega)
        | succ j2 ih2 =>
          intro x  hij2 
          have r0 := npOK_le (p := p) rc hp (npI_ok (p := p) (a := i) (npO_ok (c := c) (p := p) i (by omega)) x (by omega))
          have r2 := stp_le (rc i) (rc ((i + 1) + x))
          refine aGo okX3_nearestPair 3 (f' := (27, [some (.inr 64), some (.inl ((npI c i (npO c p i) x).1)), some (.inl ((npI c i (npO c p i) x).2)), some (.inl (i : Int)), some (.inl ((((i + 1) + x) : Nat) : Int))], [.inl (p : Int), .inl ((((i + 1) + x) : Nat) : Int)], _)) rfl ?_
          refine b_ge (tgt := 63) okX3_nearestPair rfl rfl ⟨by omega, by omega⟩ ⟨by omega, by omega⟩ (fun h27 => absurd h27 (by omega)) (fun h27 => ?_)
          refine aGo okX3_nearestPair 3 (f' := (34, [some (.inr 64), some (.inl ((npI c i (npO c p i) x).1)), some (.inl ((npI c i (npO c p i) x).2)), some (.inl (i : Int)), some (.inl ((((i + 1) + x) : Nat) : Int))], [.inl ((((i + 1) + x) : Nat) : Int), .inl (i : Int), .inr 64], _)) rfl ?_
          refine b_vV (as := [.inl (i : Int), .inl ((((i + 1) + x) : Nat) : Int)]) (rest := []) (k := 64) (.inl (stp (c.getD i 0) (c.getD ((i + 1) + x) 0))) okX3_nearestPair rfl lkX3_83 caX3_stepsOf (Nat.le_of_ble_eq_true rfl) rfl (Nat.le_of_ble_eq_true rfl) rfl rfl rfl (c_stepsOf_2 (i := i) (j := ((i + 1) + x)) (by first | omega | (simp only [List.length_set]; omega)) rc (by omega) (by omega)) ?_
          refine aGo okX3_nearestPair 1 (f' := (38, [some (.inr 64), some (.inl ((npI c i (npO c p i) x).1)), some (.inl ((npI c i (npO c p i) x).2)), some (.inl (i : Int)), some (.inl ((((i + 1) + x) : Nat) : Int))], [.inl ((npI c i (npO c p i) x).2), .inl (stp (c.getD i 0) (c.getD ((i + 1) + x) 0))], _)) rfl ?_
          refine b_ge (tgt := 57) okX3_nearestPair rfl rfl ⟨by omega, by omega⟩ ⟨by omega, by omega⟩ (fun h38 => ?_) (fun h38 => ?_)
          · refine aGo okX3_nearestPair 2 (f' := (21, [some (.inr 64), some (.inl ((npI c i (npO c p i) x).1)), some (.inl ((npI c i (npO c p i) x).2)), some (.inl (i : Int)), some (.inl (((((i + 1) + x) : Nat) : Int) + 1))], [], _)) rfl ?_
            refine b_cast (f' := (21, [some (.inr 64), some (.inl ((npI c i (npO c p i) (x + 1)).1)), some (.inl ((npI c i (npO c p i) (x + 1)).2)), some (.inl (i : Int)), some (.inl (((((i + 1) + x) : Nat) : Int) + 1))], [], [A0, B, (moSeg 64 k f c n kp l nt w sh (p : Int) t d wa), A3, B4, A5, C6])) (by simp only [npI_f h38]; first | done | rfl) ?_
            exact ih2 (x + 1) (by omega)
          · refine aGo okX3_nearestPair 3 (f' := (45, [some (.inr 64), some (.inl ((npI c i (npO c p i) x).1)), some (.inl ((npI c i (npO c p i) x).2)), some (.inl (i : Int)), some (.inl ((((i + 1) + x) : Nat) : Int))], [.inl ((((i + 1) + x) : Nat) : Int), .inl (i : Int), .inr 64], _)) rfl ?_
            refine b_vV (as := [.inl (i : Int), .inl ((((i + 1) + x) : Nat) : Int)]) (rest := []) (k := 64) (.inl (stp (c.getD i 0) (c.getD ((i + 1) + x) 0))) okX3_nearestPair rfl lkX3_83 caX3_stepsOf (Nat.le_of_ble_eq_true rfl) rfl (Nat.le_of_ble_eq_true rfl) rfl rfl rfl (c_stepsOf_2 (i := i) (j := ((i + 1) + x)) (by first | omega | (simp only [List.length_set]; omega)) rc (by omega) (by omega)) ?_
            refine aGo okX3_nearestPair 9 (f' := (21, [some (.inr 64), some (.inl ((10 * (i : Int)) + ((((i + 1) + x) : Nat) : Int))), some (.inl (stp (c.getD i 0) (c.getD ((i + 1) + x) 0))), some (.inl (i : Int)), some (.inl (((((i + 1) + x) : Nat) : Int) + 1))], [], _)) rfl ?_
            refine b_cast (f' := (21, [some (.inr 64), some (.inl ((npI c i (npO c p i) (x + 1)).1)), some (.inl ((npI c i (npO c p i) (x + 1)).2)), some (.inl (i : Int)), some (.inl (((((i + 1) + x) : Nat) : Int) + 1))], [], [A0, B, (moSeg 64 k f c n kp l nt w sh (p : Int) t d wa), A3, B4, A5, C6])) (by simp only [npI_t h38]; first | done | rfl) ?_
            exact ih2 (x + 1) (by omega)
      refine aGo okX3_nearestPair 3 (f' := (13, [some (.inr 64), some (.inl ((npO c p i).1)), some (.inl ((npO c p i).2)), some (.inl (i : Int)), none], [.inl (p : Int), .inl (i : Int)], _)) rfl ?_
      refine b_ge (tgt := 69) okX3_nearestPair rfl rfl ⟨by omega, by omega⟩ ⟨by omega, by omega⟩ (fun h13 => absurd h13 (by omega)) (fun h13 => ?_)
      refine aGo okX3_nearestPair 4 (f' := (21, [some (.inr 64), some (.inl ((npO c p i).1)), some (.inl ((npO c p i).2)), some (.inl (i : Int)), some (.inl ((i : Int) + 1))], [], _)) rfl ?_
      exact lq (p - (i + 1)) 0 (by omega)
  refine aGo okX3_nearestPair 6 (f' := (8, [some (.inr 64), some (.inl (-9)), some (.inl 11), some (.inl 0), none], [], _)) rfl ?_
  exact lp p 0 (by omega)
set_option maxRecDepth 100000 in
set_option maxHeartbeats 4000000 in
theorem c_leastSteps_2_f (hp : p ≤ 7) (hc : c.length = 7) (rc : rng c 35) (hz : (npO c p p).1 = -9) : aEv mX3_leastSteps 4 0 0 N [.inr 64] [A0, B, (moSeg 64 k f c n kp l nt w sh (p : Int) t d wa), A3, B4, A5, C6] ((aQx (some (.inl (-9))) [A0, B, (moSeg 64 k f c n kp l nt w sh (p : Int) t d wa), A3, B4, A5, C6])) := by
  refine aEv_of okX3_leastSteps caX3_leastSteps (Nat.le_of_ble_eq_true rfl) ?_
  have hz2 : -9 ≤ (npO c p p).1 := by omega
  refine aGo okX3_leastSteps 1 (f' := (1, [some (.inr 64), none], [.inr 64], _)) rfl ?_
  refine b_vV (as := []) (rest := []) (k := 64) (.inl ((npO c p p).1)) okX3_leastSteps rfl lkX3_91 caX3_nearestPair (Nat.le_of_ble_eq_true rfl) rfl (Nat.le_of_ble_eq_true rfl) rfl rfl rfl (c_nearestPair_2 hp hc rc) ?_
  refine aGo okX3_leastSteps 3 (f' := (8, [some (.inr 64), some (.inl ((npO c p p).1))], [.inl (-9), .inl ((npO c p p).1)], _)) rfl ?_
  refine b_ne (tgt := 16) okX3_leastSteps rfl rfl ⟨by omega, by omega⟩ ⟨by omega, by omega⟩ (fun h8 => absurd h8 (by omega)) (fun h8 => ?_)
  refine aGo okX3_leastSteps 2 (f' := (28, [some (.inr 64), some (.inl ((npO c p p).1))], [.inl (-9)], _)) rfl ?_
  exact b_ret (v := (some (.inl (-9)))) ⟨rfl, Or.inl rfl⟩ ⟨rfl, rfl⟩ rfl
set_option maxRecDepth 100000 in
set_option maxHeartbeats 4000000 in
theorem c_leastSteps_2_t (hp : p ≤ 7) (hc : c.length = 7) (rc : rng c 35) {a b : Nat} (ha : a < 10) (hb : b < 10) (hz : (npO c p p).1 = 10 * (a : Int) + (b : Int)) : aEv mX3_leastSteps 4 0 0 N [.inr 64] [A0, B, (moSeg 64 k f c n kp l nt w sh (p : Int) t d wa), A3, B4, A5, C6] ((aQx (some (.inl (stp (c.getD a 0) (c.getD b 0)))) [A0, B, (moSeg 64 k f c n kp l nt w sh (p : Int) t d wa), A3, B4, A5, C6])) := by
  refine aEv_of okX3_leastSteps caX3_leastSteps (Nat.le_of_ble_eq_true rfl) ?_
  refine aGo okX3_leastSteps 1 (f' := (1, [some (.inr 64), none], [.inr 64], _)) rfl ?_
  refine b_vV (as := []) (rest := []) (k := 64) (.inl ((npO c p p).1)) okX3_leastSteps rfl lkX3_91 caX3_nearestPair (Nat.le_of_ble_eq_true rfl) rfl (Nat.le_of_ble_eq_true rfl) rfl rfl rfl (c_nearestPair_2 hp hc rc) ?_
  refine aGo okX3_leastSteps 1 (f' := (5, [some (.inr 64), some (.inl ((npO c p p).1))], [], _)) rfl ?_
  refine b_cast (f' := (5, [some (.inr 64), some (.inl ((10 * (a : Int)) + (b : Int)))], [], [A0, B, (moSeg 64 k f c n kp l nt w sh (p : Int) t d wa), A3, B4, A5, C6])) (by rw [hz]) ?_
  refine aGo okX3_leastSteps 2 (f' := (8, [some (.inr 64), some (.inl ((10 * (a : Int)) + (b : Int)))], [.inl (-9), .inl ((10 * (a : Int)) + (b : Int))], _)) rfl ?_
  refine b_ne (tgt := 16) okX3_leastSteps rfl rfl ⟨by omega, by omega⟩ ⟨by omega, by omega⟩ (fun h8 => ?_) (fun h8 => absurd h8 (by omega))
  refine aGo okX3_leastSteps 3 (f' := (20, [some (.inr 64), some (.inl ((10 * (a : Int)) + (b : Int)))], [.inl 10, .inl ((10 * (a : Int)) + (b : Int)), .inr 64], _)) rfl ?_
  refine b_div okX3_leastSteps rfl ⟨by omega, by omega⟩ ⟨by omega, by omega⟩ ?_
  refine b_cast (f' := (21, [some (.inr 64), some (.inl ((10 * (a : Int)) + (b : Int)))], [.inl (a : Int), .inr 64], [A0, B, (moSeg 64 k f c n kp l nt w sh (p : Int) t d wa), A3, B4, A5, C6])) (by rw [show (10 * (a : Int) + (b : Int)) / 10 = (a : Int) by omega]) ?_
  refine aGo okX3_leastSteps 2 (f' := (24, [some (.inr 64), some (.inl ((10 * (a : Int)) + (b : Int)))], [.inl 10, .inl ((10 * (a : Int)) + (b : Int)), .inl (a : Int), .inr 64], _)) rfl ?_
  refine b_rem okX3_leastSteps rfl ⟨by omega, by omega⟩ ⟨by omega, by omega⟩ ?_
  refine b_cast (f' := (25, [some (.inr 64), some (.inl ((10 * (a : Int)) + (b : Int)))], [.inl (b : Int), .inl (a : Int), .inr 64], [A0, B, (moSeg 64 k f c n kp l nt w sh (p : Int) t d wa), A3, B4, A5, C6])) (by rw [show (10 * (a : Int) + (b : Int)) % 10 = (b : Int) by omega]) ?_
  refine b_vV (as := [.inl (a : Int), .inl (b : Int)]) (rest := []) (k := 64) (.inl (stp (c.getD a 0) (c.getD b 0))) okX3_leastSteps rfl lkX3_83 caX3_stepsOf (Nat.le_of_ble_eq_true rfl) rfl (Nat.le_of_ble_eq_true rfl) rfl rfl rfl (c_stepsOf_2 (i := a) (j := b) (by first | omega | (simp only [List.length_set]; omega)) rc (by omega) (by omega)) ?_
  exact b_ret (v := (some (.inl (stp (c.getD a 0) (c.getD b 0))))) ⟨rfl, Or.inl rfl⟩ ⟨rfl, rfl⟩ rfl
variable {B1 B2 : List (Option aE)} {k0 f0 c0 n0 kp0 l0 nt0 w0 sh0 : List Int} {P0 t0 d0 wa0 P : Int}
def lens (k f c n kp l nt w sh : List Int) : Prop := k.length = 7 ∧ f.length = 7 ∧ c.length = 7 ∧ n.length = 7 ∧ kp.length = 7 ∧ l.length = 49 ∧ nt.length = 7 ∧ w.length = 7 ∧ sh.length = 7
set_option maxRecDepth 100000 in
set_option maxHeartbeats 4000000 in
theorem c_take_21 (h1 : lens k f c n kp l nt w sh) (h2 : lens k0 f0 c0 n0 kp0 l0 nt0 w0 sh0) : aEv mX3_takeFrom 2 0 0 N [.inr 64, .inr 32] [A0, (moSeg 32 k f c n kp l nt w sh P t d wa), (moSeg 64 k0 f0 c0 n0 kp0 l0 nt0 w0 sh0 P0 t0 d0 wa0), A3, B4, A5, C6] ((aQx (none) [A0, (moSeg 32 k f c n kp l nt w sh P t d wa), (moSeg 64 k f c n kp l nt w sh P t d wa), A3, B4, A5, C6])) := by
  obtain ⟨e1, e2, e3, e4, e5, e6, e7, e8, e9⟩ := h1
  obtain ⟨g1, g2, g3, g4, g5, g6, g7, g8, g9⟩ := h2
  refine aEv_of okX3_takeFrom caX3_takeFrom (Nat.le_of_ble_eq_true rfl) ?_
  refine aGo okX3_takeFrom 4 (f' := (8, [some (.inr 64), some (.inr 32)], [.inr 33, .inr 65], _)) rfl ?_
  refine b_vN (as := [.inr 33]) (rest := []) (k := 65) okX3_takeFrom rfl lkX3_57 caX4_takeFrom (Nat.le_of_ble_eq_true rfl) rfl (Nat.le_of_ble_eq_true rfl) rfl rfl rfl (c_takeFrom (l := k0) (m := k) (fun _ => rfl) (fun _ => rfl) (fun _ => rfl) (fun _ => rfl) (fun _ _ => rfl) rfl rfl rfl rfl rfl (by omega) (by omega)) ?_
  refine b_cast (f' := (11, [some (.inr 64), some (.inr 32)], [], [A0, (moSeg 32 k f c n kp l nt w sh P t d wa), (moSeg 64 k f0 c0 n0 kp0 l0 nt0 w0 sh0 P0 t0 d0 wa0), A3, B4, A5, C6])) rfl ?_
  refine aGo okX3_takeFrom 4 (f' := (19, [some (.inr 64), some (.inr 32)], [.inr 35, .inr 67], _)) rfl ?_
  refine b_vN (as := [.inr 35]) (rest := []) (k := 67) okX3_takeFrom rfl lkX3_57 caX4_takeFrom (Nat.le_of_ble_eq_true rfl) rfl (Nat.le_of_ble_eq_true rfl) rfl rfl rfl (c_takeFrom (l := f0) (m := f) (fun _ => rfl) (fun _ => rfl) (fun _ => rfl) (fun _ => rfl) (fun _ _ => rfl) rfl rfl rfl rfl rfl (by omega) (by omega)) ?_
  refine b_cast (f' := (22, [some (.inr 64), some (.inr 32)], [], [A0, (moSeg 32 k f c n kp l nt w sh P t d wa), (moSeg 64 k f c0 n0 kp0 l0 nt0 w0 sh0 P0 t0 d0 wa0), A3, B4, A5, C6])) rfl ?_
  refine aGo okX3_takeFrom 4 (f' := (30, [some (.inr 64), some (.inr 32)], [.inr 37, .inr 69], _)) rfl ?_
  refine b_vN (as := [.inr 37]) (rest := []) (k := 69) okX3_takeFrom rfl lkX3_57 caX4_takeFrom (Nat.le_of_ble_eq_true rfl) rfl (Nat.le_of_ble_eq_true rfl) rfl rfl rfl (c_takeFrom (l := c0) (m := c) (fun _ => rfl) (fun _ => rfl) (fun _ => rfl) (fun _ => rfl) (fun _ _ => rfl) rfl rfl rfl rfl rfl (by omega) (by omega)) ?_
  refine b_cast (f' := (33, [some (.inr 64), some (.inr 32)], [], [A0, (moSeg 32 k f c n kp l nt w sh P t d wa), (moSeg 64 k f c n0 kp0 l0 nt0 w0 sh0 P0 t0 d0 wa0), A3, B4, A5, C6])) rfl ?_
  refine aGo okX3_takeFrom 4 (f' := (41, [some (.inr 64), some (.inr 32)], [.inr 39, .inr 71], _)) rfl ?_
  refine b_vN (as := [.inr 39]) (rest := []) (k := 71) okX3_takeFrom rfl lkX3_57 caX4_takeFrom (Nat.le_of_ble_eq_true rfl) rfl (Nat.le_of_ble_eq_true rfl) rfl rfl rfl (c_takeFrom (l := n0) (m := n) (fun _ => rfl) (fun _ => rfl) (fun _ => rfl) (fun _ => rfl) (fun _ _ => rfl) rfl rfl rfl rfl rfl (by omega) (by omega)) ?_
  refine b_cast (f' := (44, [some (.inr 64), some (.inr 32)], [], [A0, (moSeg 32 k f c n kp l nt w sh P t d wa), (moSeg 64 k f c n kp0 l0 nt0 w0 sh0 P0 t0 d0 wa0), A3, B4, A5, C6])) rfl ?_
  refine aGo okX3_takeFrom 4 (f' := (52, [some (.inr 64), some (.inr 32)], [.inr 41, .inr 73], _)) rfl ?_
  refine b_vN (as := [.inr 41]) (rest := []) (k := 73) okX3_takeFrom rfl lkX3_57 caX4_takeFrom (Nat.le_of_ble_eq_true rfl) rfl (Nat.le_of_ble_eq_true rfl) rfl rfl rfl (c_takeFrom (l := kp0) (m := kp) (fun _ => rfl) (fun _ => rfl) (fun _ => rfl) (fun _ => rfl) (fun _ _ => rfl) rfl rfl rfl rfl rfl (by omega) (by omega)) ?_
  refine b_cast (f' := (55, [some (.inr 64), some (.inr 32)], [], [A0, (moSeg 32 k f c n kp l nt w sh P t d wa), (moSeg 64 k f c n kp l0 nt0 w0 sh0 P0 t0 d0 wa0), A3, B4, A5, C6])) rfl ?_
  refine aGo okX3_takeFrom 4 (f' := (63, [some (.inr 64), some (.inr 32)], [.inr 43, .inr 75], _)) rfl ?_
  refine b_vN (as := [.inr 43]) (rest := []) (k := 75) okX3_takeFrom rfl lkX3_57 caX4_takeFrom (Nat.le_of_ble_eq_true rfl) rfl (Nat.le_of_ble_eq_true rfl) rfl rfl rfl (c_takeFrom (l := l0) (m := l) (fun _ => rfl) (fun _ => rfl) (fun _ => rfl) (fun _ => rfl) (fun _ _ => rfl) rfl rfl rfl rfl rfl (by omega) (by omega)) ?_
  refine b_cast (f' := (66, [some (.inr 64), some (.inr 32)], [], [A0, (moSeg 32 k f c n kp l nt w sh P t d wa), (moSeg 64 k f c n kp l nt0 w0 sh0 P0 t0 d0 wa0), A3, B4, A5, C6])) rfl ?_
  refine aGo okX3_takeFrom 4 (f' := (74, [some (.inr 64), some (.inr 32)], [.inr 45, .inr 77], _)) rfl ?_
  refine b_vN (as := [.inr 45]) (rest := []) (k := 77) okX3_takeFrom rfl lkX3_57 caX4_takeFrom (Nat.le_of_ble_eq_true rfl) rfl (Nat.le_of_ble_eq_true rfl) rfl rfl rfl (c_takeFrom (l := nt0) (m := nt) (fun _ => rfl) (fun _ => rfl) (fun _ => rfl) (fun _ => rfl) (fun _ _ => rfl) rfl rfl rfl rfl rfl (by omega) (by omega)) ?_
  refine b_cast (f' := (77, [some (.inr 64), some (.inr 32)], [], [A0, (moSeg 32 k f c n kp l nt w sh P t d wa), (moSeg 64 k f c n kp l nt w0 sh0 P0 t0 d0 wa0), A3, B4, A5, C6])) rfl ?_
  refine aGo okX3_takeFrom 4 (f' := (85, [some (.inr 64), some (.inr 32)], [.inr 47, .inr 79], _)) rfl ?_
  refine b_vN (as := [.inr 47]) (rest := []) (k := 79) okX3_takeFrom rfl lkX3_57 caX4_takeFrom (Nat.le_of_ble_eq_true rfl) rfl (Nat.le_of_ble_eq_true rfl) rfl rfl rfl (c_takeFrom (l := w0) (m := w) (fun _ => rfl) (fun _ => rfl) (fun _ => rfl) (fun _ => rfl) (fun _ _ => rfl) rfl rfl rfl rfl rfl (by omega) (by omega)) ?_
  refine b_cast (f' := (88, [some (.inr 64), some (.inr 32)], [], [A0, (moSeg 32 k f c n kp l nt w sh P t d wa), (moSeg 64 k f c n kp l nt w sh0 P0 t0 d0 wa0), A3, B4, A5, C6])) rfl ?_
  refine aGo okX3_takeFrom 4 (f' := (96, [some (.inr 64), some (.inr 32)], [.inr 49, .inr 81], _)) rfl ?_
  refine b_vN (as := [.inr 49]) (rest := []) (k := 81) okX3_takeFrom rfl lkX3_57 caX4_takeFrom (Nat.le_of_ble_eq_true rfl) rfl (Nat.le_of_ble_eq_true rfl) rfl rfl rfl (c_takeFrom (l := sh0) (m := sh) (fun _ => rfl) (fun _ => rfl) (fun _ => rfl) (fun _ => rfl) (fun _ _ => rfl) rfl rfl rfl rfl rfl (by omega) (by omega)) ?_
  refine b_cast (f' := (99, [some (.inr 64), some (.inr 32)], [], [A0, (moSeg 32 k f c n kp l nt w sh P t d wa), (moSeg 64 k f c n kp l nt w sh P0 t0 d0 wa0), A3, B4, A5, C6])) rfl ?_
  refine aGo okX3_takeFrom 16 (f' := (131, [some (.inr 64), some (.inr 32)], [], [A0, (moSeg 32 k f c n kp l nt w sh P t d wa), (moSeg 64 k f c n kp l nt w sh P t d wa), A3, B4, A5, C6])) rfl ?_
  exact b_ret (v := none) ⟨rfl, rfl⟩ ⟨rfl, rfl⟩ rfl
set_option maxRecDepth 100000 in
set_option maxHeartbeats 4000000 in
theorem c_take_12 (h1 : lens k f c n kp l nt w sh) (h2 : lens k0 f0 c0 n0 kp0 l0 nt0 w0 sh0) : aEv mX3_takeFrom 2 0 0 N [.inr 32, .inr 64] [A0, (moSeg 32 k0 f0 c0 n0 kp0 l0 nt0 w0 sh0 P0 t0 d0 wa0), (moSeg 64 k f c n kp l nt w sh P t d wa), A3, B4, A5, C6] ((aQx (none) [A0, (moSeg 32 k f c n kp l nt w sh P t d wa), (moSeg 64 k f c n kp l nt w sh P t d wa), A3, B4, A5, C6])) := by
  obtain ⟨e1, e2, e3, e4, e5, e6, e7, e8, e9⟩ := h1
  obtain ⟨g1, g2, g3, g4, g5, g6, g7, g8, g9⟩ := h2
  refine aEv_of okX3_takeFrom caX3_takeFrom (Nat.le_of_ble_eq_true rfl) ?_
  refine aGo okX3_takeFrom 4 (f' := (8, [some (.inr 32), some (.inr 64)], [.inr 65, .inr 33], _)) rfl ?_
  refine b_vN (as := [.inr 65]) (rest := []) (k := 33) okX3_takeFrom rfl lkX3_57 caX4_takeFrom (Nat.le_of_ble_eq_true rfl) rfl (Nat.le_of_ble_eq_true rfl) rfl rfl rfl (c_takeFrom (l := k0) (m := k) (fun _ => rfl) (fun _ => rfl) (fun _ => rfl) (fun _ => rfl) (fun _ _ => rfl) rfl rfl rfl rfl rfl (by omega) (by omega)) ?_
  refine b_cast (f' := (11, [some (.inr 32), some (.inr 64)], [], [A0, (moSeg 32 k f0 c0 n0 kp0 l0 nt0 w0 sh0 P0 t0 d0 wa0), (moSeg 64 k f c n kp l nt w sh P t d wa), A3, B4, A5, C6])) rfl ?_
  refine aGo okX3_takeFrom 4 (f' := (19, [some (.inr 32), some (.inr 64)], [.inr 67, .inr 35], _)) rfl ?_
  refine b_vN (as := [.inr 67]) (rest := []) (k := 35) okX3_takeFrom rfl lkX3_57 caX4_takeFrom (Nat.le_of_ble_eq_true rfl) rfl (Nat.le_of_ble_eq_true rfl) rfl rfl rfl (c_takeFrom (l := f0) (m := f) (fun _ => rfl) (fun _ => rfl) (fun _ => rfl) (fun _ => rfl) (fun _ _ => rfl) rfl rfl rfl rfl rfl (by omega) (by omega)) ?_
  refine b_cast (f' := (22, [some (.inr 32), some (.inr 64)], [], [A0, (moSeg 32 k f c0 n0 kp0 l0 nt0 w0 sh0 P0 t0 d0 wa0), (moSeg 64 k f c n kp l nt w sh P t d wa), A3, B4, A5, C6])) rfl ?_
  refine aGo okX3_takeFrom 4 (f' := (30, [some (.inr 32), some (.inr 64)], [.inr 69, .inr 37], _)) rfl ?_
  refine b_vN (as := [.inr 69]) (rest := []) (k := 37) okX3_takeFrom rfl lkX3_57 caX4_takeFrom (Nat.le_of_ble_eq_true rfl) rfl (Nat.le_of_ble_eq_true rfl) rfl rfl rfl (c_takeFrom (l := c0) (m := c) (fun _ => rfl) (fun _ => rfl) (fun _ => rfl) (fun _ => rfl) (fun _ _ => rfl) rfl rfl rfl rfl rfl (by omega) (by omega)) ?_
  refine b_cast (f' := (33, [some (.inr 32), some (.inr 64)], [], [A0, (moSeg 32 k f c n0 kp0 l0 nt0 w0 sh0 P0 t0 d0 wa0), (moSeg 64 k f c n kp l nt w sh P t d wa), A3, B4, A5, C6])) rfl ?_
  refine aGo okX3_takeFrom 4 (f' := (41, [some (.inr 32), some (.inr 64)], [.inr 71, .inr 39], _)) rfl ?_
  refine b_vN (as := [.inr 71]) (rest := []) (k := 39) okX3_takeFrom rfl lkX3_57 caX4_takeFrom (Nat.le_of_ble_eq_true rfl) rfl (Nat.le_of_ble_eq_true rfl) rfl rfl rfl (c_takeFrom (l := n0) (m := n) (fun _ => rfl) (fun _ => rfl) (fun _ => rfl) (fun _ => rfl) (fun _ _ => rfl) rfl rfl rfl rfl rfl (by omega) (by omega)) ?_
  refine b_cast (f' := (44, [some (.inr 32), some (.inr 64)], [], [A0, (moSeg 32 k f c n kp0 l0 nt0 w0 sh0 P0 t0 d0 wa0), (moSeg 64 k f c n kp l nt w sh P t d wa), A3, B4, A5, C6])) rfl ?_
  refine aGo okX3_takeFrom 4 (f' := (52, [some (.inr 32), some (.inr 64)], [.inr 73, .inr 41], _)) rfl ?_
  refine b_vN (as := [.inr 73]) (rest := []) (k := 41) okX3_takeFrom rfl lkX3_57 caX4_takeFrom (Nat.le_of_ble_eq_true rfl) rfl (Nat.le_of_ble_eq_true rfl) rfl rfl rfl (c_takeFrom (l := kp0) (m := kp) (fun _ => rfl) (fun _ => rfl) (fun _ => rfl) (fun _ => rfl) (fun _ _ => rfl) rfl rfl rfl rfl rfl (by omega) (by omega)) ?_
  refine b_cast (f' := (55, [some (.inr 32), some (.inr 64)], [], [A0, (moSeg 32 k f c n kp l0 nt0 w0 sh0 P0 t0 d0 wa0), (moSeg 64 k f c n kp l nt w sh P t d wa), A3, B4, A5, C6])) rfl ?_
  refine aGo okX3_takeFrom 4 (f' := (63, [some (.inr 32), some (.inr 64)], [.inr 75, .inr 43], _)) rfl ?_
  refine b_vN (as := [.inr 75]) (rest := []) (k := 43) okX3_takeFrom rfl lkX3_57 caX4_takeFrom (Nat.le_of_ble_eq_true rfl) rfl (Nat.le_of_ble_eq_true rfl) rfl rfl rfl (c_takeFrom (l := l0) (m := l) (fun _ => rfl) (fun _ => rfl) (fun _ => rfl) (fun _ => rfl) (fun _ _ => rfl) rfl rfl rfl rfl rfl (by omega) (by omega)) ?_
  refine b_cast (f' := (66, [some (.inr 32), some (.inr 64)], [], [A0, (moSeg 32 k f c n kp l nt0 w0 sh0 P0 t0 d0 wa0), (moSeg 64 k f c n kp l nt w sh P t d wa), A3, B4, A5, C6])) rfl ?_
  refine aGo okX3_takeFrom 4 (f' := (74, [some (.inr 32), some (.inr 64)], [.inr 77, .inr 45], _)) rfl ?_
  refine b_vN (as := [.inr 77]) (rest := []) (k := 45) okX3_takeFrom rfl lkX3_57 caX4_takeFrom (Nat.le_of_ble_eq_true rfl) rfl (Nat.le_of_ble_eq_true rfl) rfl rfl rfl (c_takeFrom (l := nt0) (m := nt) (fun _ => rfl) (fun _ => rfl) (fun _ => rfl) (fun _ => rfl) (fun _ _ => rfl) rfl rfl rfl rfl rfl (by omega) (by omega)) ?_
  refine b_cast (f' := (77, [some (.inr 32), some (.inr 64)], [], [A0, (moSeg 32 k f c n kp l nt w0 sh0 P0 t0 d0 wa0), (moSeg 64 k f c n kp l nt w sh P t d wa), A3, B4, A5, C6])) rfl ?_
  refine aGo okX3_takeFrom 4 (f' := (85, [some (.inr 32), some (.inr 64)], [.inr 79, .inr 47], _)) rfl ?_
  refine b_vN (as := [.inr 79]) (rest := []) (k := 47) okX3_takeFrom rfl lkX3_57 caX4_takeFrom (Nat.le_of_ble_eq_true rfl) rfl (Nat.le_of_ble_eq_true rfl) rfl rfl rfl (c_takeFrom (l := w0) (m := w) (fun _ => rfl) (fun _ => rfl) (fun _ => rfl) (fun _ => rfl) (fun _ _ => rfl) rfl rfl rfl rfl rfl (by omega) (by omega)) ?_
  refine b_cast (f' := (88, [some (.inr 32), some (.inr 64)], [], [A0, (moSeg 32 k f c n kp l nt w sh0 P0 t0 d0 wa0), (moSeg 64 k f c n kp l nt w sh P t d wa), A3, B4, A5, C6])) rfl ?_
  refine aGo okX3_takeFrom 4 (f' := (96, [some (.inr 32), some (.inr 64)], [.inr 81, .inr 49], _)) rfl ?_
  refine b_vN (as := [.inr 81]) (rest := []) (k := 49) okX3_takeFrom rfl lkX3_57 caX4_takeFrom (Nat.le_of_ble_eq_true rfl) rfl (Nat.le_of_ble_eq_true rfl) rfl rfl rfl (c_takeFrom (l := sh0) (m := sh) (fun _ => rfl) (fun _ => rfl) (fun _ => rfl) (fun _ => rfl) (fun _ _ => rfl) rfl rfl rfl rfl rfl (by omega) (by omega)) ?_
  refine b_cast (f' := (99, [some (.inr 32), some (.inr 64)], [], [A0, (moSeg 32 k f c n kp l nt w sh P0 t0 d0 wa0), (moSeg 64 k f c n kp l nt w sh P t d wa), A3, B4, A5, C6])) rfl ?_
  refine aGo okX3_takeFrom 16 (f' := (131, [some (.inr 32), some (.inr 64)], [], [A0, (moSeg 32 k f c n kp l nt w sh P t d wa), (moSeg 64 k f c n kp l nt w sh P t d wa), A3, B4, A5, C6])) rfl ?_
  exact b_ret (v := none) ⟨rfl, rfl⟩ ⟨rfl, rfl⟩ rfl
set_option maxRecDepth 100000 in
set_option maxHeartbeats 4000000 in
theorem c_take_41 (h1 : lens k f c n kp l nt w sh) (h2 : lens k0 f0 c0 n0 kp0 l0 nt0 w0 sh0) : aEv mX3_takeFrom 2 0 0 N [.inr 128, .inr 32] [A0, (moSeg 32 k f c n kp l nt w sh P t d wa), B2, A3, (moSeg 128 k0 f0 c0 n0 kp0 l0 nt0 w0 sh0 P0 t0 d0 wa0), A5, C6] ((aQx (none) [A0, (moSeg 32 k f c n kp l nt w sh P t d wa), B2, A3, (moSeg 128 k f c n kp l nt w sh P t d wa), A5, C6])) := by
  obtain ⟨e1, e2, e3, e4, e5, e6, e7, e8, e9⟩ := h1
  obtain ⟨g1, g2, g3, g4, g5, g6, g7, g8, g9⟩ := h2
  refine aEv_of okX3_takeFrom caX3_takeFrom (Nat.le_of_ble_eq_true rfl) ?_
  refine aGo okX3_takeFrom 4 (f' := (8, [some (.inr 128), some (.inr 32)], [.inr 33, .inr 129], _)) rfl ?_
  refine b_vN (as := [.inr 33]) (rest := []) (k := 129) okX3_takeFrom rfl lkX3_57 caX4_takeFrom (Nat.le_of_ble_eq_true rfl) rfl (Nat.le_of_ble_eq_true rfl) rfl rfl rfl (c_takeFrom (l := k0) (m := k) (fun _ => rfl) (fun _ => rfl) (fun _ => rfl) (fun _ => rfl) (fun _ _ => rfl) rfl rfl rfl rfl rfl (by omega) (by omega)) ?_
  refine b_cast (f' := (11, [some (.inr 128), some (.inr 32)], [], [A0, (moSeg 32 k f c n kp l nt w sh P t d wa), B2, A3, (moSeg 128 k f0 c0 n0 kp0 l0 nt0 w0 sh0 P0 t0 d0 wa0), A5, C6])) rfl ?_
  refine aGo okX3_takeFrom 4 (f' := (19, [some (.inr 128), some (.inr 32)], [.inr 35, .inr 131], _)) rfl ?_
  refine b_vN (as := [.inr 35]) (rest := []) (k := 131) okX3_takeFrom rfl lkX3_57 caX4_takeFrom (Nat.le_of_ble_eq_true rfl) rfl (Nat.le_of_ble_eq_true rfl) rfl rfl rfl (c_takeFrom (l := f0) (m := f) (fun _ => rfl) (fun _ => rfl) (fun _ => rfl) (fun _ => rfl) (fun _ _ => rfl) rfl rfl rfl rfl rfl (by omega) (by omega)) ?_
  refine b_cast (f' := (22, [some (.inr 128), some (.inr 32)], [], [A0, (moSeg 32 k f c n kp l nt w sh P t d wa), B2, A3, (moSeg 128 k f c0 n0 kp0 l0 nt0 w0 sh0 P0 t0 d0 wa0), A5, C6])) rfl ?_
  refine aGo okX3_takeFrom 4 (f' := (30, [some (.inr 128), some (.inr 32)], [.inr 37, .inr 133], _)) rfl ?_
  refine b_vN (as := [.inr 37]) (rest := []) (k := 133) okX3_takeFrom rfl lkX3_57 caX4_takeFrom (Nat.le_of_ble_eq_true rfl) rfl (Nat.le_of_ble_eq_true rfl) rfl rfl rfl (c_takeFrom (l := c0) (m := c) (fun _ => rfl) (fun _ => rfl) (fun _ => rfl) (fun _ => rfl) (fun _ _ => rfl) rfl rfl rfl rfl rfl (by omega) (by omega)) ?_
  refine b_cast (f' := (33, [some (.inr 128), some (.inr 32)], [], [A0, (moSeg 32 k f c n kp l nt w sh P t d wa), B2, A3, (moSeg 128 k f c n0 kp0 l0 nt0 w0 sh0 P0 t0 d0 wa0), A5, C6])) rfl ?_
  refine aGo okX3_takeFrom 4 (f' := (41, [some (.inr 128), some (.inr 32)], [.inr 39, .inr 135], _)) rfl ?_
  refine b_vN (as := [.inr 39]) (rest := []) (k := 135) okX3_takeFrom rfl lkX3_57 caX4_takeFrom (Nat.le_of_ble_eq_true rfl) rfl (Nat.le_of_ble_eq_true rfl) rfl rfl rfl (c_takeFrom (l := n0) (m := n) (fun _ => rfl) (fun _ => rfl) (fun _ => rfl) (fun _ => rfl) (fun _ _ => rfl) rfl rfl rfl rfl rfl (by omega) (by omega)) ?_
  refine b_cast (f' := (44, [some (.inr 128), some (.inr 32)], [], [A0, (moSeg 32 k f c n kp l nt w sh P t d wa), B2, A3, (moSeg 128 k f c n kp0 l0 nt0 w0 sh0 P0 t0 d0 wa0), A5, C6])) rfl ?_
  refine aGo okX3_takeFrom 4 (f' := (52, [some (.inr 128), some (.inr 32)], [.inr 41, .inr 137], _)) rfl ?_
  refine b_vN (as := [.inr 41]) (rest := []) (k := 137) okX3_takeFrom rfl lkX3_57 caX4_takeFrom (Nat.le_of_ble_eq_true rfl) rfl (Nat.le_of_ble_eq_true rfl) rfl rfl rfl (c_takeFrom (l := kp0) (m := kp) (fun _ => rfl) (fun _ => rfl) (fun _ => rfl) (fun _ => rfl) (fun _ _ => rfl) rfl rfl rfl rfl rfl (by omega) (by omega)) ?_
  refine b_cast (f' := (55, [some (.inr 128), some (.inr 32)], [], [A0, (moSeg 32 k f c n kp l nt w sh P t d wa), B2, A3, (moSeg 128 k f c n kp l0 nt0 w0 sh0 P0 t0 d0 wa0), A5, C6])) rfl ?_
  refine aGo okX3_takeFrom 4 (f' := (63, [some (.inr 128), some (.inr 32)], [.inr 43, .inr 139], _)) rfl ?_
  refine b_vN (as := [.inr 43]) (rest := []) (k := 139) okX3_takeFrom rfl lkX3_57 caX4_takeFrom (Nat.le_of_ble_eq_true rfl) rfl (Nat.le_of_ble_eq_true rfl) rfl rfl rfl (c_takeFrom (l := l0) (m := l) (fun _ => rfl) (fun _ => rfl) (fun _ => rfl) (fun _ => rfl) (fun _ _ => rfl) rfl rfl rfl rfl rfl (by omega) (by omega)) ?_
  refine b_cast (f' := (66, [some (.inr 128), some (.inr 32)], [], [A0, (moSeg 32 k f c n kp l nt w sh P t d wa), B2, A3, (moSeg 128 k f c n kp l nt0 w0 sh0 P0 t0 d0 wa0), A5, C6])) rfl ?_
  refine aGo okX3_takeFrom 4 (f' := (74, [some (.inr 128), some (.inr 32)], [.inr 45, .inr 141], _)) rfl ?_
  refine b_vN (as := [.inr 45]) (rest := []) (k := 141) okX3_takeFrom rfl lkX3_57 caX4_takeFrom (Nat.le_of_ble_eq_true rfl) rfl (Nat.le_of_ble_eq_true rfl) rfl rfl rfl (c_takeFrom (l := nt0) (m := nt) (fun _ => rfl) (fun _ => rfl) (fun _ => rfl) (fun _ => rfl) (fun _ _ => rfl) rfl rfl rfl rfl rfl (by omega) (by omega)) ?_
  refine b_cast (f' := (77, [some (.inr 128), some (.inr 32)], [], [A0, (moSeg 32 k f c n kp l nt w sh P t d wa), B2, A3, (moSeg 128 k f c n kp l nt w0 sh0 P0 t0 d0 wa0), A5, C6])) rfl ?_
  refine aGo okX3_takeFrom 4 (f' := (85, [some (.inr 128), some (.inr 32)], [.inr 47, .inr 143], _)) rfl ?_
  refine b_vN (as := [.inr 47]) (rest := []) (k := 143) okX3_takeFrom rfl lkX3_57 caX4_takeFrom (Nat.le_of_ble_eq_true rfl) rfl (Nat.le_of_ble_eq_true rfl) rfl rfl rfl (c_takeFrom (l := w0) (m := w) (fun _ => rfl) (fun _ => rfl) (fun _ => rfl) (fun _ => rfl) (fun _ _ => rfl) rfl rfl rfl rfl rfl (by omega) (by omega)) ?_
  refine b_cast (f' := (88, [some (.inr 128), some (.inr 32)], [], [A0, (moSeg 32 k f c n kp l nt w sh P t d wa), B2, A3, (moSeg 128 k f c n kp l nt w sh0 P0 t0 d0 wa0), A5, C6])) rfl ?_
  refine aGo okX3_takeFrom 4 (f' := (96, [some (.inr 128), some (.inr 32)], [.inr 49, .inr 145], _)) rfl ?_
  refine b_vN (as := [.inr 49]) (rest := []) (k := 145) okX3_takeFrom rfl lkX3_57 caX4_takeFrom (Nat.le_of_ble_eq_true rfl) rfl (Nat.le_of_ble_eq_true rfl) rfl rfl rfl (c_takeFrom (l := sh0) (m := sh) (fun _ => rfl) (fun _ => rfl) (fun _ => rfl) (fun _ => rfl) (fun _ _ => rfl) rfl rfl rfl rfl rfl (by omega) (by omega)) ?_
  refine b_cast (f' := (99, [some (.inr 128), some (.inr 32)], [], [A0, (moSeg 32 k f c n kp l nt w sh P t d wa), B2, A3, (moSeg 128 k f c n kp l nt w sh P0 t0 d0 wa0), A5, C6])) rfl ?_
  refine aGo okX3_takeFrom 16 (f' := (131, [some (.inr 128), some (.inr 32)], [], [A0, (moSeg 32 k f c n kp l nt w sh P t d wa), B2, A3, (moSeg 128 k f c n kp l nt w sh P t d wa), A5, C6])) rfl ?_
  exact b_ret (v := none) ⟨rfl, rfl⟩ ⟨rfl, rfl⟩ rfl
set_option maxRecDepth 100000 in
set_option maxHeartbeats 4000000 in
theorem c_take_14 (h1 : lens k f c n kp l nt w sh) (h2 : lens k0 f0 c0 n0 kp0 l0 nt0 w0 sh0) : aEv mX3_takeFrom 2 0 0 N [.inr 32, .inr 128] [A0, (moSeg 32 k0 f0 c0 n0 kp0 l0 nt0 w0 sh0 P0 t0 d0 wa0), B2, A3, (moSeg 128 k f c n kp l nt w sh P t d wa), A5, C6] ((aQx (none) [A0, (moSeg 32 k f c n kp l nt w sh P t d wa), B2, A3, (moSeg 128 k f c n kp l nt w sh P t d wa), A5, C6])) := by
  obtain ⟨e1, e2, e3, e4, e5, e6, e7, e8, e9⟩ := h1
  obtain ⟨g1, g2, g3, g4, g5, g6, g7, g8, g9⟩ := h2
  refine aEv_of okX3_takeFrom caX3_takeFrom (Nat.le_of_ble_eq_true rfl) ?_
  refine aGo okX3_takeFrom 4 (f' := (8, [some (.inr 32), some (.inr 128)], [.inr 129, .inr 33], _)) rfl ?_
  refine b_vN (as := [.inr 129]) (rest := []) (k := 33) okX3_takeFrom rfl lkX3_57 caX4_takeFrom (Nat.le_of_ble_eq_true rfl) rfl (Nat.le_of_ble_eq_true rfl) rfl rfl rfl (c_takeFrom (l := k0) (m := k) (fun _ => rfl) (fun _ => rfl) (fun _ => rfl) (fun _ => rfl) (fun _ _ => rfl) rfl rfl rfl rfl rfl (by omega) (by omega)) ?_
  refine b_cast (f' := (11, [some (.inr 32), some (.inr 128)], [], [A0, (moSeg 32 k f0 c0 n0 kp0 l0 nt0 w0 sh0 P0 t0 d0 wa0), B2, A3, (moSeg 128 k f c n kp l nt w sh P t d wa), A5, C6])) rfl ?_
  refine aGo okX3_takeFrom 4 (f' := (19, [some (.inr 32), some (.inr 128)], [.inr 131, .inr 35], _)) rfl ?_
  refine b_vN (as := [.inr 131]) (rest := []) (k := 35) okX3_takeFrom rfl lkX3_57 caX4_takeFrom (Nat.le_of_ble_eq_true rfl) rfl (Nat.le_of_ble_eq_true rfl) rfl rfl rfl (c_takeFrom (l := f0) (m := f) (fun _ => rfl) (fun _ => rfl) (fun _ => rfl) (fun _ => rfl) (fun _ _ => rfl) rfl rfl rfl rfl rfl (by omega) (by omega)) ?_
  refine b_cast (f' := (22, [some (.inr 32), some (.inr 128)], [], [A0, (moSeg 32 k f c0 n0 kp0 l0 nt0 w0 sh0 P0 t0 d0 wa0), B2, A3, (moSeg 128 k f c n kp l nt w sh P t d wa), A5, C6])) rfl ?_
  refine aGo okX3_takeFrom 4 (f' := (30, [some (.inr 32), some (.inr 128)], [.inr 133, .inr 37], _)) rfl ?_
  refine b_vN (as := [.inr 133]) (rest := []) (k := 37) okX3_takeFrom rfl lkX3_57 caX4_takeFrom (Nat.le_of_ble_eq_true rfl) rfl (Nat.le_of_ble_eq_true rfl) rfl rfl rfl (c_takeFrom (l := c0) (m := c) (fun _ => rfl) (fun _ => rfl) (fun _ => rfl) (fun _ => rfl) (fun _ _ => rfl) rfl rfl rfl rfl rfl (by omega) (by omega)) ?_
  refine b_cast (f' := (33, [some (.inr 32), some (.inr 128)], [], [A0, (moSeg 32 k f c n0 kp0 l0 nt0 w0 sh0 P0 t0 d0 wa0), B2, A3, (moSeg 128 k f c n kp l nt w sh P t d wa), A5, C6])) rfl ?_
  refine aGo okX3_takeFrom 4 (f' := (41, [some (.inr 32), some (.inr 128)], [.inr 135, .inr 39], _)) rfl ?_
  refine b_vN (as := [.inr 135]) (rest := []) (k := 39) okX3_takeFrom rfl lkX3_57 caX4_takeFrom (Nat.le_of_ble_eq_true rfl) rfl (Nat.le_of_ble_eq_true rfl) rfl rfl rfl (c_takeFrom (l := n0) (m := n) (fun _ => rfl) (fun _ => rfl) (fun _ => rfl) (fun _ => rfl) (fun _ _ => rfl) rfl rfl rfl rfl rfl (by omega) (by omega)) ?_
  refine b_cast (f' := (44, [some (.inr 32), some (.inr 128)], [], [A0, (moSeg 32 k f c n kp0 l0 nt0 w0 sh0 P0 t0 d0 wa0), B2, A3, (moSeg 128 k f c n kp l nt w sh P t d wa), A5, C6])) rfl ?_
  refine aGo okX3_takeFrom 4 (f' := (52, [some (.inr 32), some (.inr 128)], [.inr 137, .inr 41], _)) rfl ?_
  refine b_vN (as := [.inr 137]) (rest := []) (k := 41) okX3_takeFrom rfl lkX3_57 caX4_takeFrom (Nat.le_of_ble_eq_true rfl) rfl (Nat.le_of_ble_eq_true rfl) rfl rfl rfl (c_takeFrom (l := kp0) (m := kp) (fun _ => rfl) (fun _ => rfl) (fun _ => rfl) (fun _ => rfl) (fun _ _ => rfl) rfl rfl rfl rfl rfl (by omega) (by omega)) ?_
  refine b_cast (f' := (55, [some (.inr 32), some (.inr 128)], [], [A0, (moSeg 32 k f c n kp l0 nt0 w0 sh0 P0 t0 d0 wa0), B2, A3, (moSeg 128 k f c n kp l nt w sh P t d wa), A5, C6])) rfl ?_
  refine aGo okX3_takeFrom 4 (f' := (63, [some (.inr 32), some (.inr 128)], [.inr 139, .inr 43], _)) rfl ?_
  refine b_vN (as := [.inr 139]) (rest := []) (k := 43) okX3_takeFrom rfl lkX3_57 caX4_takeFrom (Nat.le_of_ble_eq_true rfl) rfl (Nat.le_of_ble_eq_true rfl) rfl rfl rfl (c_takeFrom (l := l0) (m := l) (fun _ => rfl) (fun _ => rfl) (fun _ => rfl) (fun _ => rfl) (fun _ _ => rfl) rfl rfl rfl rfl rfl (by omega) (by omega)) ?_
  refine b_cast (f' := (66, [some (.inr 32), some (.inr 128)], [], [A0, (moSeg 32 k f c n kp l nt0 w0 sh0 P0 t0 d0 wa0), B2, A3, (moSeg 128 k f c n kp l nt w sh P t d wa), A5, C6])) rfl ?_
  refine aGo okX3_takeFrom 4 (f' := (74, [some (.inr 32), some (.inr 128)], [.inr 141, .inr 45], _)) rfl ?_
  refine b_vN (as := [.inr 141]) (rest := []) (k := 45) okX3_takeFrom rfl lkX3_57 caX4_takeFrom (Nat.le_of_ble_eq_true rfl) rfl (Nat.le_of_ble_eq_true rfl) rfl rfl rfl (c_takeFrom (l := nt0) (m := nt) (fun _ => rfl) (fun _ => rfl) (fun _ => rfl) (fun _ => rfl) (fun _ _ => rfl) rfl rfl rfl rfl rfl (by omega) (by omega)) ?_
  refine b_cast (f' := (77, [some (.inr 32), some (.inr 128)], [], [A0, (moSeg 32 k f c n kp l nt w0 sh0 P0 t0 d0 wa0), B2, A3, (moSeg 128 k f c n kp l nt w sh P t d wa), A5, C6])) rfl ?_
  refine aGo okX3_takeFrom 4 (f' := (85, [some (.inr 32), some (.inr 128)], [.inr 143, .inr 47], _)) rfl ?_
  refine b_vN (as := [.inr 143]) (rest := []) (k := 47) okX3_takeFrom rfl lkX3_57 caX4_takeFrom (Nat.le_of_ble_eq_true rfl) rfl (Nat.le_of_ble_eq_true rfl) rfl rfl rfl (c_takeFrom (l := w0) (m := w) (fun _ => rfl) (fun _ => rfl) (fun _ => rfl) (fun _ => rfl) (fun _ _ => rfl) rfl rfl rfl rfl rfl (by omega) (by omega)) ?_
  refine b_cast (f' := (88, [some (.inr 32), some (.inr 128)], [], [A0, (moSeg 32 k f c n kp l nt w sh0 P0 t0 d0 wa0), B2, A3, (moSeg 128 k f c n kp l nt w sh P t d wa), A5, C6])) rfl ?_
  refine aGo okX3_takeFrom 4 (f' := (96, [some (.inr 32), some (.inr 128)], [.inr 145, .inr 49], _)) rfl ?_
  refine b_vN (as := [.inr 145]) (rest := []) (k := 49) okX3_takeFrom rfl lkX3_57 caX4_takeFrom (Nat.le_of_ble_eq_true rfl) rfl (Nat.le_of_ble_eq_true rfl) rfl rfl rfl (c_takeFrom (l := sh0) (m := sh) (fun _ => rfl) (fun _ => rfl) (fun _ => rfl) (fun _ => rfl) (fun _ _ => rfl) rfl rfl rfl rfl rfl (by omega) (by omega)) ?_
  refine b_cast (f' := (99, [some (.inr 32), some (.inr 128)], [], [A0, (moSeg 32 k f c n kp l nt w sh P0 t0 d0 wa0), B2, A3, (moSeg 128 k f c n kp l nt w sh P t d wa), A5, C6])) rfl ?_
  refine aGo okX3_takeFrom 16 (f' := (131, [some (.inr 32), some (.inr 128)], [], [A0, (moSeg 32 k f c n kp l nt w sh P t d wa), B2, A3, (moSeg 128 k f c n kp l nt w sh P t d wa), A5, C6])) rfl ?_
  exact b_ret (v := none) ⟨rfl, rfl⟩ ⟨rfl, rfl⟩ rfl
end AMR
end
section
/-! Bits of a few, by all cases; what a moor is. -/
def pB (x : Nat) : Nat → Bool := fun q => x.testBit q
theorem pB_of : ∀ b0 b1 b2 b3 b4 b5 b6 : Bool, ∃ x, x < 128 ∧ pB x 0 = b0 ∧ pB x 1 = b1 ∧ pB x 2 = b2 ∧ pB x 3 = b3 ∧ pB x 4 = b4 ∧ pB x 5 = b5 ∧ pB x 6 = b6 := by
  intro b0 b1 b2 b3 b4 b5 b6
  refine ⟨b0.toNat + 2 * (b1.toNat + 2 * (b2.toNat + 2 * (b3.toNat + 2 * (b4.toNat + 2 * (b5.toNat + 2 * b6.toNat))))), ?_⟩
  cases b0 <;> cases b1 <;> cases b2 <;> cases b3 <;> cases b4 <;> cases b5 <;> cases b6 <;> decide
theorem pB_ex (P : Nat → Bool) : ∃ x, x < 128 ∧ ∀ q, q < 7 → P q = pB x q := by
  obtain ⟨x, h, h0, h1, h2, h3, h4, h5, h6⟩ := pB_of (P 0) (P 1) (P 2) (P 3) (P 4) (P 5) (P 6)
  refine ⟨x, h, fun q hq => ?_⟩
  match q, hq with
  | 0, _ => exact h0.symm
  | 1, _ => exact h1.symm
  | 2, _ => exact h2.symm
  | 3, _ => exact h3.symm
  | 4, _ => exact h4.symm
  | 5, _ => exact h5.symm
  | 6, _ => exact h6.symm
  | q + 7, h => omega
theorem pB_and : ∀ x, x < 128 → ∀ p, p < 8 → ∀ i, i < p → aAnd (aShr (bitsN p (pB x)) (i : Int)) 1 = if pB x i = true then 1 else 0 := by decide +kernel
theorem pB_le : ∀ x, x < 128 → ∀ p, p < 8 → 0 ≤ bitsN p (pB x) ∧ bitsN p (pB x) ≤ 127 := by decide +kernel
theorem pB_zero : ∀ x, x < 128 → ∀ p, p < 8 → (bitsN p (pB x) = 0 ↔ (List.range p).all (fun q => !pB x q) = true) := by decide +kernel
theorem bits_and {p : Nat} (hp : p ≤ 7) (P : Nat → Bool) {i : Nat} (hi : i < p) : aAnd (aShr (bitsN p P) (i : Int)) 1 = if P i = true then 1 else 0 := by
  obtain ⟨x, hx, h⟩ := pB_ex P
  rw [bitsN_congr (P' := pB x) (fun q hq => h q (by omega)), pB_and x hx p (by omega) i hi, h i (by omega)]
theorem bits_le {p : Nat} (hp : p ≤ 7) (P : Nat → Bool) : 0 ≤ bitsN p P ∧ bitsN p P ≤ 127 := by
  obtain ⟨x, hx, h⟩ := pB_ex P
  rw [bitsN_congr (P' := pB x) (fun q hq => h q (by omega))]
  exact pB_le x hx p (by omega)
theorem bits_zero {p : Nat} (hp : p ≤ 7) (P : Nat → Bool) : bitsN p P = 0 ↔ ∀ q, q < p → P q = false := by
  obtain ⟨x, hx, h⟩ := pB_ex P
  rw [bitsN_congr (P' := pB x) (fun q hq => h q (by omega)), pB_zero x hx p (by omega)]
  simp only [List.all_eq_true, List.mem_range, Bool.not_eq_true']
  constructor
  · intro z q hq; rw [h q (by omega)]; exact z q hq
  · intro z q hq; rw [← h q (by omega)]; exact z q hq
def cntN (p : Nat) (P : Nat → Bool) : Int := sumN p (fun q => if P q = true then 1 else 0)
/-- Integer.bitCount, as its code reckons -/
def bc1 (v : Int) : Int := v - aAnd (aUshr v 1) 1431655765
def bc2 (v : Int) : Int := aAnd v 858993459 + aAnd (aUshr v 2) 858993459
def bc3 (v : Int) : Int := aAnd (v + aUshr v 4) 252645135
def bc4 (v : Int) : Int := v + aUshr v 8
def bc5 (v : Int) : Int := v + aUshr v 16
def bcE (v : Int) : Int := aAnd (bc5 (bc4 (bc3 (bc2 (bc1 v))))) 63
theorem pB_cnt : ∀ x, x < 128 → ∀ p, p < 8 → bcE (bitsN p (pB x)) = cntN p (pB x) := by decide +kernel
theorem bits_cnt {p : Nat} (hp : p ≤ 7) (P : Nat → Bool) : bcE (bitsN p P) = cntN p P := by
  obtain ⟨x, hx, h⟩ := pB_ex P
  rw [bitsN_congr (P' := pB x) (fun q hq => h q (by omega)), pB_cnt x hx p (by omega)]
  exact sumN_congr fun q hq => by rw [h q (by omega)]
theorem cnt_le {p : Nat} (P : Nat → Bool) : 0 ≤ cntN p P ∧ cntN p P ≤ p := by
  have h1 := sumN_ge (n := p) (F := fun q => if P q = true then (1 : Int) else 0) (b := 0) (fun q _ => by split <;> decide)
  have h2 := sumN_le (n := p) (F := fun q => if P q = true then (1 : Int) else 0) (b := 1) (fun q _ => by split <;> decide)
  unfold cntN; omega
theorem cnt_all {p : Nat} (P : Nat → Bool) : cntN p P = p ↔ ∀ q, q < p → P q = true := by
  induction p with
  | zero => simp [cntN, sumN]
  | succ p ih =>
    have h1 := cnt_le (p := p) P
    have e : cntN (p + 1) P = cntN p P + if P p = true then 1 else 0 := rfl
    constructor
    · intro z
      rw [e] at z
      have z2 : P p = true := by
        cases hP : P p with
        | true => rfl
        | false => rw [hP] at z; simp at z; omega
      rw [z2, if_pos rfl] at z
      have z3 := ih.mp (by omega)
      intro q hq
      by_cases hqp : q = p
      · rw [hqp]; exact z2
      · exact z3 q (by omega)
    · intro z
      rw [e, z p (by omega), if_pos rfl, ih.mpr (fun q hq => z q (by omega))]
      omega
/-! what a moor is, with all that follows -/
def mOK (p : Nat) (k f c n kp l nt w sh : List Int) (t d wa : Int) : Prop := bOK p k f c n kp l t d ∧ nOK p l nt ∧ wOK p k f c w wa ∧ sOK p k f c sh t
def hasM (p : Nat) (k f c l : List Int) (t : Int) (q : Nat) : Int := shr p k f c t q - net p l q
theorem shr_le {p : Nat} {k f c : List Int} {t : Int} (hp : p ≤ 7) (hf : rng f 9) (hc : rng c 35) (ht : 0 ≤ t ∧ t ≤ 999) {q : Nat} (hq : q < p) : 0 ≤ shr p k f c t q ∧ shr p k f c t q ≤ 1000 := by
  have := shrS_le (p := p) (w := wt p k f c) ht.1 (fun i _ => (wt_le hp hf hc i).1) hq
  unfold shr; omega
theorem hasM_le {p : Nat} {k f c l : List Int} {t : Int} (hp : p ≤ 7) (hf : rng f 9) (hc : rng c 35) (hl : rng l 99) (ht : 0 ≤ t ∧ t ≤ 999) {q : Nat} (hq : q < p) : -10000 ≤ hasM p k f c l t q ∧ hasM p k f c l t q ≤ 10000 := by
  have h1 := shr_le (k := k) hp hf hc ht hq
  have h2 := net_le hp hl q
  unfold hasM; omega
section MOK
variable {p : Nat} {k f c n kp l nt w sh : List Int} {t d wa : Int}
theorem mOK_lens (h : mOK p k f c n kp l nt w sh t d wa) : lens k f c n kp l nt w sh := by
  obtain ⟨⟨hp7, hk, hf, hc, hn, hkp, hl, -⟩, ⟨hnt, -⟩, ⟨hw, -⟩, ⟨hsh, -⟩⟩ := h
  exact ⟨hk, hf, hc, hn, hkp, hl, hnt, hw, hsh⟩
theorem mOK_has (h : mOK p k f c n kp l nt w sh t d wa) {q : Nat} (hq : q < p) : hasL sh nt q = hasM p k f c l t q := by
  unfold hasL hasM
  rw [h.2.1.2 q hq, h.2.2.2.2 q hq]
theorem mOK_hle (h : mOK p k f c n kp l nt w sh t d wa) : ∀ q, q < p → -10000 ≤ sh.getD q 0 - nt.getD q 0 ∧ sh.getD q 0 - nt.getD q 0 ≤ 10000 := by
  intro q hq
  have e := mOK_has h hq
  unfold hasL at e
  rw [e]
  obtain ⟨⟨hp7, hk, hf, hc, hn, hkp, hl, rk, rf, rc, rn, rkp, rl, ht0, ht1, -⟩, -⟩ := h
  exact hasM_le hp7 rf rc rl ⟨ht0, ht1⟩ hq
theorem mOK_wH (h : mOK p k f c n kp l nt w sh t d wa) : wH p k f c w sh t := by
  obtain ⟨⟨hp7, hk, hf, hc, hn, hkp, hl, rk, rf, rc, rn, rkp, rl, ht0, ht1, -⟩, -, ⟨hw, -⟩, ⟨hsh, -⟩⟩ := h
  exact ⟨hp7, hk, hf, hc, hw, hsh, rk, rf, rc, ht0, ht1⟩
end MOK
/-- the moor to think on, whatever it holds -/
def thk (B : List (Option aE)) : Prop := ∃ (k f c n kp l nt w sh : List Int) (p t d wa : Int), lens k f c n kp l nt w sh ∧ B = moSeg 64 k f c n kp l nt w sh p t d wa
theorem thk_of {k f c n kp l nt w sh : List Int} {p t d wa : Int} (h : lens k f c n kp l nt w sh) : thk (moSeg 64 k f c n kp l nt w sh p t d wa) := ⟨k, f, c, n, kp, l, nt, w, sh, p, t, d, wa, h, rfl⟩
/-! searches -/
/-- the first day (1 and on) on which P holds, of j days from day i on; -9 -/
def firstF (P : Nat → Bool) : Nat → Nat → Int
  | 0, _ => -9
  | j + 1, i => if P i = true then (i : Int) + 1 else firstF P j (i + 1)
def lastF (P : Nat → Bool) : Nat → Nat → Int
  | 0, _ => 99
  | j + 1, i => if P i = true then (i : Int) else lastF P j (i + 1)
/-- the first of j from i on for whom P holds; -9 -/
def firstQ (P : Nat → Bool) : Nat → Nat → Int
  | 0, _ => -9
  | j + 1, i => if P i = true then (i : Int) else firstQ P j (i + 1)
def firstO (P : Nat → Nat → Bool) (p : Nat) : Nat → Nat → Int
  | 0, _ => -9
  | j + 1, i => if firstQ (P i) p 0 = -9 then firstO P p j (i + 1) else firstQ (P i) p 0
theorem firstF_t {P : Nat → Bool} {j i : Nat} (h : P i = true) : firstF P (j + 1) i = (i : Int) + 1 := if_pos h
theorem firstF_f {P : Nat → Bool} {j i : Nat} (h : P i = false) : firstF P (j + 1) i = firstF P j (i + 1) := if_neg (by rw [h]; decide)
theorem lastF_t {P : Nat → Bool} {j i : Nat} (h : P i = true) : lastF P (j + 1) i = (i : Int) := if_pos h
theorem lastF_f {P : Nat → Bool} {j i : Nat} (h : P i = false) : lastF P (j + 1) i = lastF P j (i + 1) := if_neg (by rw [h]; decide)
theorem firstQ_t {P : Nat → Bool} {j i : Nat} (h : P i = true) : firstQ P (j + 1) i = (i : Int) := if_pos h
theorem firstQ_f {P : Nat → Bool} {j i : Nat} (h : P i = false) : firstQ P (j + 1) i = firstQ P j (i + 1) := if_neg (by rw [h]; decide)
theorem firstO_t {P : Nat → Nat → Bool} {p j i : Nat} (h : firstQ (P i) p 0 ≠ -9) : firstO P p (j + 1) i = firstQ (P i) p 0 := if_neg h
theorem firstO_f {P : Nat → Nat → Bool} {p j i : Nat} (h : firstQ (P i) p 0 = -9) : firstO P p (j + 1) i = firstO P p j (i + 1) := if_pos h
/-- is one short on the day behind i days -/
def sht (p : Nat) (has : Nat → Int) (n kp : List Int) (q i : Nat) : Bool := decide (dayV (dayIt p has n i kp) has n q < 0)
theorem dayB_one (p : Nat) (has : Nat → Int) (n kp : List Int) (i : Nat) : dayB p has n (dayIt p has n i kp) 1 = bitsN p (fun q => sht p has n kp q i) := rfl
theorem dayIt_one (p : Nat) (has : Nat → Int) (n kp : List Int) (i : Nat) : dayIt p has n 1 (dayIt p has n i kp) = dayIt p has n (i + 1) kp := rfl
end
section
/-! Integer.bitCount, Draw, DaysToCome; laid by gen_days.py -/
set_option maxRecDepth 100000 in
set_option maxHeartbeats 4000000 in
theorem c_bitCount {N : Nat} {h : aH} (v : Int) : aEx mJ6_bitCount_0f7a4 0 N [.inl v] h (some (.inl (bcE v))) h := by
  refine aEv_of okJ6_bitCount_0f7a4 caJ6_bitCount_0f7a4 (Nat.le_of_ble_eq_true rfl) ?_
  refine aGo okJ6_bitCount_0f7a4 41 (f' := (52, [some (.inl (((aAnd (((aAnd (v - (aAnd (aUshr v 1) 1431655765)) 858993459) + (aAnd (aUshr (v - (aAnd (aUshr v 1) 1431655765)) 2) 858993459)) + (aUshr ((aAnd (v - (aAnd (aUshr v 1) 1431655765)) 858993459) + (aAnd (aUshr (v - (aAnd (aUshr v 1) 1431655765)) 2) 858993459)) 4)) 252645135) + (aUshr (aAnd (((aAnd (v - (aAnd (aUshr v 1) 1431655765)) 858993459) + (aAnd (aUshr (v - (aAnd (aUshr v 1) 1431655765)) 2) 858993459)) + (aUshr ((aAnd (v - (aAnd (aUshr v 1) 1431655765)) 858993459) + (aAnd (aUshr (v - (aAnd (aUshr v 1) 1431655765)) 2) 858993459)) 4)) 252645135) 8)) + (aUshr ((aAnd (((aAnd (v - (aAnd (aUshr v 1) 1431655765)) 858993459) + (aAnd (aUshr (v - (aAnd (aUshr v 1) 1431655765)) 2) 858993459)) + (aUshr ((aAnd (v - (aAnd (aUshr v 1) 1431655765)) 858993459) + (aAnd (aUshr (v - (aAnd (aUshr v 1) 1431655765)) 2) 858993459)) 4)) 252645135) + (aUshr (aAnd (((aAnd (v - (aAnd (aUshr v 1) 1431655765)) 858993459) + (aAnd (aUshr (v - (aAnd (aUshr v 1) 1431655765)) 2) 858993459)) + (aUshr ((aAnd (v - (aAnd (aUshr v 1) 1431655765)) 858993459) + (aAnd (aUshr (v - (aAnd (aUshr v 1) 1431655765)) 2) 858993459)) 4)) 252645135) 8)) 16)))], [.inl (aAnd (((aAnd (((aAnd (v - (aAnd (aUshr v 1) 1431655765)) 858993459) + (aAnd (aUshr (v - (aAnd (aUshr v 1) 1431655765)) 2) 858993459)) + (aUshr ((aAnd (v - (aAnd (aUshr v 1) 1431655765)) 858993459) + (aAnd (aUshr (v - (aAnd (aUshr v 1) 1431655765)) 2) 858993459)) 4)) 252645135) + (aUshr (aAnd (((aAnd (v - (aAnd (aUshr v 1) 1431655765)) 858993459) + (aAnd (aUshr (v - (aAnd (aUshr v 1) 1431655765)) 2) 858993459)) + (aUshr ((aAnd (v - (aAnd (aUshr v 1) 1431655765)) 858993459) + (aAnd (aUshr (v - (aAnd (aUshr v 1) 1431655765)) 2) 858993459)) 4)) 252645135) 8)) + (aUshr ((aAnd (((aAnd (v - (aAnd (aUshr v 1) 1431655765)) 858993459) + (aAnd (aUshr (v - (aAnd (aUshr v 1) 1431655765)) 2) 858993459)) + (aUshr ((aAnd (v - (aAnd (aUshr v 1) 1431655765)) 858993459) + (aAnd (aUshr (v - (aAnd (aUshr v 1) 1431655765)) 2) 858993459)) 4)) 252645135) + (aUshr (aAnd (((aAnd (v - (aAnd (aUshr v 1) 1431655765)) 858993459) + (aAnd (aUshr (v - (aAnd (aUshr v 1) 1431655765)) 2) 858993459)) + (aUshr ((aAnd (v - (aAnd (aUshr v 1) 1431655765)) 858993459) + (aAnd (aUshr (v - (aAnd (aUshr v 1) 1431655765)) 2) 858993459)) 4)) 252645135) 8)) 16)) 63)], _)) rfl ?_
  exact b_ret (v := (some (.inl (aAnd (((aAnd (((aAnd (v - (aAnd (aUshr v 1) 1431655765)) 858993459) + (aAnd (aUshr (v - (aAnd (aUshr v 1) 1431655765)) 2) 858993459)) + (aUshr ((aAnd (v - (aAnd (aUshr v 1) 1431655765)) 858993459) + (aAnd (aUshr (v - (aAnd (aUshr v 1) 1431655765)) 2) 858993459)) 4)) 252645135) + (aUshr (aAnd (((aAnd (v - (aAnd (aUshr v 1) 1431655765)) 858993459) + (aAnd (aUshr (v - (aAnd (aUshr v 1) 1431655765)) 2) 858993459)) + (aUshr ((aAnd (v - (aAnd (aUshr v 1) 1431655765)) 858993459) + (aAnd (aUshr (v - (aAnd (aUshr v 1) 1431655765)) 2) 858993459)) 4)) 252645135) 8)) + (aUshr ((aAnd (((aAnd (v - (aAnd (aUshr v 1) 1431655765)) 858993459) + (aAnd (aUshr (v - (aAnd (aUshr v 1) 1431655765)) 2) 858993459)) + (aUshr ((aAnd (v - (aAnd (aUshr v 1) 1431655765)) 858993459) + (aAnd (aUshr (v - (aAnd (aUshr v 1) 1431655765)) 2) 858993459)) 4)) 252645135) + (aUshr (aAnd (((aAnd (v - (aAnd (aUshr v 1) 1431655765)) 858993459) + (aAnd (aUshr (v - (aAnd (aUshr v 1) 1431655765)) 2) 858993459)) + (aUshr ((aAnd (v - (aAnd (aUshr v 1) 1431655765)) 858993459) + (aAnd (aUshr (v - (aAnd (aUshr v 1) 1431655765)) 2) 858993459)) 4)) 252645135) 8)) 16)) 63)))) ⟨rfl, Or.inl rfl⟩ ⟨rfl, rfl⟩ rfl
section ADA
variable {A0 A3 B B2 B4 A5 C6 : List (Option aE)} {k f c n kp l nt w sh : List Int} {p : Nat} {t d wa : Int} {N : Nat} {z tl : Int} {fs ss sp la gr tp : List Int}
set_option maxRecDepth 100000 in
set_option maxHeartbeats 4000000 in
theorem c_begin {v : Int} : aEv mX1_begin 0 0 0 N [.inr 98, .inl v] [A0, (moSeg 32 k f c n kp l nt w sh (p : Int) t d wa), B, (miscSeg z fs ss sp la gr tl tp), B4, A5, C6] (aQx (none) [A0, (moSeg 32 k f c n kp l nt w sh (p : Int) t d wa), B, (miscSeg v fs ss sp la gr tl tp), B4, A5, C6]) := by
  refine aEv_of okX1_begin caX1_begin (Nat.le_of_ble_eq_true rfl) ?_
  refine aGo okX1_begin 3 (f' := (5, [some (.inr 98), some (.inl v)], [], [A0, (moSeg 32 k f c n kp l nt w sh (p : Int) t d wa), B, (miscSeg v fs ss sp la gr tl tp), B4, A5, C6])) rfl ?_
  exact b_ret (v := none) ⟨rfl, rfl⟩ ⟨rfl, rfl⟩ rfl
def lcg (z : Int) : Int := z * 1664525 + 1013904223
theorem mask_le (x : Int) : 0 ≤ aAnd x 2147483647 ∧ aAnd x 2147483647 ≤ 2147483647 := by
  have h : (Int32.ofInt x &&& 2147483647).toBitVec.toNat ≤ 2147483647 := by
    show (Int32.ofInt x).toBitVec.toNat &&& 2147483647 ≤ 2147483647
    exact Nat.and_le_right
  have e : aAnd x 2147483647 = ((Int32.ofInt x &&& 2147483647).toBitVec.toNat : Int) := by
    show (Int32.ofInt x &&& Int32.ofInt 2147483647).toInt = _
    show (Int32.ofInt x &&& 2147483647).toBitVec.toInt = _
    rw [BitVec.toInt_eq_toNat_of_lt (by omega)]
  omega
set_option maxRecDepth 100000 in
set_option maxHeartbeats 4000000 in
theorem c_below  : aEv mX1_below 0 0 0 N [.inr 98, .inl 36] [A0, (moSeg 32 k f c n kp l nt w sh (p : Int) t d wa), B, (miscSeg z fs ss sp la gr tl tp), B4, A5, C6] (aQx (some (.inl (aAnd (lcg z) 2147483647 / 256 % 36))) [A0, (moSeg 32 k f c n kp l nt w sh (p : Int) t d wa), B, (miscSeg (lcg z) fs ss sp la gr tl tp), B4, A5, C6]) := by
  refine aEv_of okX1_below caX1_below (Nat.le_of_ble_eq_true rfl) ?_
  refine aGo okX1_below 9 (f' := (15, [some (.inr 98), some (.inl 36)], [.inl 36], [A0, (moSeg 32 k f c n kp l nt w sh (p : Int) t d wa), B, (miscSeg ((z * 1664525) + 1013904223) fs ss sp la gr tl tp), B4, A5, C6])) rfl ?_
  refine b0_le (tgt := 34) okX1_below rfl rfl ⟨by omega, by omega⟩ (fun h15 => absurd h15 (by omega)) (fun h15 => ?_)
  refine b_cast (f' := (18, [some (.inr 98), some (.inl 36)], [], [A0, (moSeg 32 k f c n kp l nt w sh (p : Int) t d wa), B, (miscSeg (lcg z) fs ss sp la gr tl tp), B4, A5, C6])) (rfl) ?_
  refine aGo okX1_below 4 (f' := (25, [some (.inr 98), some (.inl 36)], [.inl (aAnd (lcg z) 2147483647)], _)) rfl ?_
  have hq := mask_le (lcg z)
  refine aGo okX1_below 1 (f' := (28, [some (.inr 98), some (.inl 36)], [.inl 256, .inl (aAnd (lcg z) 2147483647)], _)) rfl ?_
  refine b_div okX1_below rfl ⟨by omega, by omega⟩ ⟨by omega, by omega⟩ ?_
  refine aGo okX1_below 1 (f' := (30, [some (.inr 98), some (.inl 36)], [.inl 36, .inl ((aAnd (lcg z) 2147483647) / 256)], _)) rfl ?_
  refine b_rem okX1_below rfl ⟨by omega, by omega⟩ ⟨by omega, by omega⟩ ?_
  refine aGo okX1_below 1 (f' := (35, [some (.inr 98), some (.inl 36)], [.inl (((aAnd (lcg z) 2147483647) / 256) % 36)], _)) rfl ?_
  exact b_ret (v := (some (.inl (((aAnd (lcg z) 2147483647) / 256) % 36)))) ⟨rfl, Or.inl rfl⟩ ⟨rfl, rfl⟩ rfl
set_option maxRecDepth 100000 in
set_option maxHeartbeats 4000000 in
theorem c_keptAfter (hm : mOK p k f c n kp l nt w sh t d wa) (hB : thk B) {i m : Nat} (hi : i < 7) (hm2 : m ≤ 99) : aEv mX0_keptAfter 3 0 0 N [.inr 96, .inl (i : Int), .inl (m : Int)] [A0, (moSeg 32 k f c n kp l nt w sh (p : Int) t d wa), B, (miscSeg z fs ss sp la gr tl tp), B4, A5, C6] ((fun rv h => rv = some (.inl ((dayIt p (hasL sh nt) n m kp).getD i 0)) ∧ ∃ B2, thk B2 ∧ h = [A0, (moSeg 32 k f c n kp l nt w sh (p : Int) t d wa), B2, (miscSeg z fs ss sp la gr tl tp), B4, A5, C6])) := by
  obtain ⟨⟨hp7, hk, hf, hc, hn, hkp, hl, rk, rf, rc, rn, rkp, rl, ht0, ht1, hd0, hd1⟩, ⟨hnt, znt⟩, ⟨hw, zw, zwa⟩, ⟨hsh, zsh⟩⟩ := id hm
  have hle := mOK_hle hm
  obtain ⟨k0, f0, c0, n0, kp0, l0, nt0, w0, sh0, P0, t0, d0, wa0, hl0, rfl⟩ := hB
  refine aEv_of okX0_keptAfter caX0_keptAfter (Nat.le_of_ble_eq_true rfl) ?_
  refine aGo okX0_keptAfter 4 (f' := (8, [some (.inr 96), some (.inl (i : Int)), some (.inl (m : Int))], [.inr 32, .inr 64], _)) rfl ?_
  refine b_vN (as := [.inr 32]) (rest := []) (k := 64) okX0_keptAfter rfl lkX0_18 caX3_takeFrom (Nat.le_of_ble_eq_true rfl) rfl (Nat.le_of_ble_eq_true rfl) rfl rfl rfl (c_take_21 (mOK_lens hm) hl0) ?_
  refine b_cast (f' := (11, [some (.inr 96), some (.inl (i : Int)), some (.inl (m : Int))], [], [A0, (moSeg 32 k f c n kp l nt w sh (p : Int) t d wa), (moSeg 64 k f c n kp l nt w sh (p : Int) t d wa), (miscSeg z fs ss sp la gr tl tp), B4, A5, C6])) rfl ?_
  refine aGo okX0_keptAfter 3 (f' := (16, [some (.inr 96), some (.inl (i : Int)), some (.inl (m : Int))], [.inl (m : Int), .inr 64], _)) rfl ?_
  refine b_vV (as := [.inl (m : Int)]) (rest := []) (k := 64) (.inl (dayB p (hasL sh nt) n kp m)) okX0_keptAfter rfl lkX0_24 caX3_passDays (Nat.le_of_ble_eq_true rfl) rfl (Nat.le_of_ble_eq_true rfl) rfl rfl rfl (c_passDays_2 (m := m) hp7 (by omega) hkp hn hsh hnt rkp rn hle) ?_
  refine b_cast (f' := (19, [some (.inr 96), some (.inl (i : Int)), some (.inl (m : Int))], [.inl (dayB p (hasL sh nt) n kp m)], [A0, (moSeg 32 k f c n kp l nt w sh (p : Int) t d wa), (moSeg 64 k f c n (dayIt p (hasL sh nt) n m kp) l nt w sh (p : Int) t (d + (m : Int)) wa), (miscSeg z fs ss sp la gr tl tp), B4, A5, C6])) rfl ?_
  refine aGo okX0_keptAfter 3 (f' := (24, [some (.inr 96), some (.inl (i : Int)), some (.inl (m : Int))], [.inr 64], _)) rfl ?_
  have e0 : (dayIt p (hasL sh nt) n m kp).length = 7 := by rw [dayIt_len]; exact hkp
  refine aGo okX0_keptAfter 1 (f' := (25, [some (.inr 96), some (.inl (i : Int)), some (.inl (m : Int))], [.inl (i : Int), .inr 64], _)) rfl ?_
  refine b_vV (as := [.inl (i : Int)]) (rest := []) (k := 64) (.inl ((dayIt p (hasL sh nt) n m kp).getD i 0)) okX0_keptAfter rfl lkX0_28 caX3_keptOf (Nat.le_of_ble_eq_true rfl) rfl (Nat.le_of_ble_eq_true rfl) rfl rfl rfl (c_keptOf_2 (i := i) (by first | omega | (simp only [List.length_set]; omega)) (by omega)) ?_
  exact b_ret (v := (some (.inl ((dayIt p (hasL sh nt) n m kp).getD i 0)))) ⟨rfl, Or.inl rfl⟩ ⟨rfl, _, thk_of (by obtain ⟨a1, a2, a3, a4, a5, a6, a7, a8, a9⟩ := mOK_lens hm; exact ⟨a1, a2, a3, a4, by first | exact a5 | (rw [dayIt_len]; exact a5), a6, a7, a8, a9⟩), rfl⟩ rfl
set_option maxRecDepth 100000 in
set_option maxHeartbeats 4000000 in
theorem c_shortDays (hm : mOK p k f c n kp l nt w sh t d wa) (hB : thk B) {i m : Nat} (hi : i < p) (hm2 : m ≤ 99) : aEv mX0_shortDays 3 0 0 N [.inr 96, .inl (i : Int), .inl (m : Int)] [A0, (moSeg 32 k f c n kp l nt w sh (p : Int) t d wa), B, (miscSeg z fs ss sp la gr tl tp), B4, A5, C6] ((fun rv h => rv = some (.inl (sumN m (fun j => if sht p (hasL sh nt) n kp i j = true then (1 : Int) else 0))) ∧ ∃ B2, thk B2 ∧ h = [A0, (moSeg 32 k f c n kp l nt w sh (p : Int) t d wa), B2, (miscSeg z fs ss sp la gr tl tp), B4, A5, C6])) := by
  obtain ⟨⟨hp7, hk, hf, hc, hn, hkp, hl, rk, rf, rc, rn, rkp, rl, ht0, ht1, hd0, hd1⟩, ⟨hnt, znt⟩, ⟨hw, zw, zwa⟩, ⟨hsh, zsh⟩⟩ := id hm
  have hle := mOK_hle hm
  obtain ⟨k0, f0, c0, n0, kp0, l0, nt0, w0, sh0, P0, t0, d0, wa0, hl0, rfl⟩ := hB
  refine aEv_of okX0_shortDays caX0_shortDays (Nat.le_of_ble_eq_true rfl) ?_
  have lp : ∀ (j x : Nat), x + j = m → AW mX0_shortDays 3 0 0 N none (fun rv h => rv = some (.inl (sumN m (fun j => if sht p (hasL sh nt) n kp i j = true then (1 : Int) else 0))) ∧ ∃ B2, thk B2 ∧ h = [A0, (moSeg 32 k f c n kp l nt w sh (p : Int) t d wa), B2, (miscSeg z fs ss sp la gr tl tp), B4, A5, C6]) (16, [some (.inr 96), some (.inl (i : Int)), some (.inl (m : Int)), some (.inl (sumN x (fun j => if sht p (hasL sh nt) n kp i j = true then (1 : Int) else 0))), some (.inl (x : Int))], [], [A0, (moSeg 32 k f c n kp l nt w sh (p : Int) t d wa), (moSeg 64 k f c n (dayIt p (hasL sh nt) n x kp) l nt w sh (p : Int) t (d + (x : Int)) wa), (miscSeg z fs ss sp la gr tl tp), B4, A5, C6]) := by
    intro j
    induction j with
    | zero =>
      intro x  hij 
      obtain rfl : m = x := by omega
      refine aGo okX0_shortDays 2 (f' := (19, [some (.inr 96), some (.inl (i : Int)), some (.inl (m : Int)), some (.inl (sumN m (fun j => if sht p (hasL sh nt) n kp i j = true then (1 : Int) else 0))), some (.inl (m : Int))], [.inl (m : Int), .inl (m : Int)], _)) rfl ?_
      refine b_ge (tgt := 43) okX0_shortDays rfl rfl ⟨by omega, by omega⟩ ⟨by omega, by omega⟩ (fun h19 => ?_) (fun h19 => absurd h19 (by omega))
      refine aGo okX0_shortDays 1 (f' := (44, [some (.inr 96), some (.inl (i : Int)), some (.inl (m : Int)), some (.inl (sumN m (fun j => if sht p (hasL sh nt) n kp i j = true then (1 : Int) else 0))), some (.inl (m : Int))], [.inl (sumN m (fun j => if sht p (hasL sh nt) n kp i j = true then (1 : Int) else 0))], _)) rfl ?_
      exact b_ret (v := (some (.inl (sumN m (fun j => if sht p (hasL sh nt) n kp i j = true then (1 : Int) else 0))))) ⟨rfl, Or.inl rfl⟩ ⟨rfl, _, thk_of (by obtain ⟨a1, a2, a3, a4, a5, a6, a7, a8, a9⟩ := mOK_lens hm; exact ⟨a1, a2, a3, a4, by first | exact a5 | (rw [dayIt_len]; exact a5), a6, a7, a8, a9⟩), rfl⟩ rfl
    | succ j ih =>
      intro x  hij 
      refine aGo okX0_shortDays 2 (f' := (19, [some (.inr 96), some (.inl (i : Int)), some (.inl (m : Int)), some (.inl (sumN x (fun j => if sht p (hasL sh nt) n kp i j = true then (1 : Int) else 0))), some (.inl (x : Int))], [.inl (m : Int), .inl (x : Int)], _)) rfl ?_
      refine b_ge (tgt := 43) okX0_shortDays rfl rfl ⟨by omega, by omega⟩ ⟨by omega, by omega⟩ (fun h19 => absurd h19 (by omega)) (fun h19 => ?_)
      refine aGo okX0_shortDays 4 (f' := (28, [some (.inr 96), some (.inl (i : Int)), some (.inl (m : Int)), some (.inl (sumN x (fun j => if sht p (hasL sh nt) n kp i j = true then (1 : Int) else 0))), some (.inl (x : Int))], [.inl 1, .inr 64, .inl (sumN x (fun j => if sht p (hasL sh nt) n kp i j = true then (1 : Int) else 0))], _)) rfl ?_
      refine b_vV (as := [.inl 1]) (rest := [.inl (sumN x (fun j => if sht p (hasL sh nt) n kp i j = true then (1 : Int) else 0))]) (k := 64) (.inl (dayB p (hasL sh nt) n (dayIt p (hasL sh nt) n x kp) 1)) okX0_shortDays rfl lkX0_24 caX3_passDays (Nat.le_of_ble_eq_true rfl) rfl (Nat.le_of_ble_eq_true rfl) rfl rfl rfl (c_passDays_2 (m := 1) hp7 (by omega) (by rw [dayIt_len]; exact hkp) hn hsh hnt (dayIt_rng rkp) rn hle) ?_
      refine b_cast (f' := (31, [some (.inr 96), some (.inl (i : Int)), some (.inl (m : Int)), some (.inl (sumN x (fun j => if sht p (hasL sh nt) n kp i j = true then (1 : Int) else 0))), some (.inl (x : Int))], [.inl (dayB p (hasL sh nt) n (dayIt p (hasL sh nt) n x kp) 1), .inl (sumN x (fun j => if sht p (hasL sh nt) n kp i j = true then (1 : Int) else 0))], [A0, (moSeg 32 k f c n kp l nt w sh (p : Int) t d wa), (moSeg 64 k f c n (dayIt p (hasL sh nt) n 1 (dayIt p (hasL sh nt) n x kp)) l nt w sh (p : Int) t ((d + (x : Int)) + ((1 : Nat) : Int)) wa), (miscSeg z fs ss sp la gr tl tp), B4, A5, C6])) rfl ?_
      refine b_cast (f' := (31, [some (.inr 96), some (.inl (i : Int)), some (.inl (m : Int)), some (.inl (sumN x (fun j => if sht p (hasL sh nt) n kp i j = true then (1 : Int) else 0))), some (.inl (x : Int))], [.inl (dayB p (hasL sh nt) n (dayIt p (hasL sh nt) n x kp) 1), .inl (sumN x (fun j => if sht p (hasL sh nt) n kp i j = true then (1 : Int) else 0))], [A0, (moSeg 32 k f c n kp l nt w sh (p : Int) t d wa), (moSeg 64 k f c n (dayIt p (hasL sh nt) n (x + 1) kp) l nt w sh (p : Int) t (d + (((x + 1) : Nat) : Int)) wa), (miscSeg z fs ss sp la gr tl tp), B4, A5, C6])) (congrArg (fun q : Int => ((31, [some (.inr 96), some (.inl (i : Int)), some (.inl (m : Int)), some (.inl (sumN x (fun j => if sht p (hasL sh nt) n kp i j = true then (1 : Int) else 0))), some (.inl (x : Int))], [.inl (dayB p (hasL sh nt) n (dayIt p (hasL sh nt) n x kp) 1), .inl (sumN x (fun j => if sht p (hasL sh nt) n kp i j = true then (1 : Int) else 0))], [A0, (moSeg 32 k f c n kp l nt w sh (p : Int) t d wa), (moSeg 64 k f c n (dayIt p (hasL sh nt) n (x + 1) kp) l nt w sh (p : Int) t q wa), (miscSeg z fs ss sp la gr tl tp), B4, A5, C6]) : aF)) (show d + (x : Int) + ((1 : Nat) : Int) = d + ((x + 1 : Nat) : Int) by omega)) ?_
      refine aGo okX0_shortDays 4 (f' := (35, [some (.inr 96), some (.inl (i : Int)), some (.inl (m : Int)), some (.inl (sumN x (fun j => if sht p (hasL sh nt) n kp i j = true then (1 : Int) else 0))), some (.inl (x : Int))], [.inl (aAnd (aShr (dayB p (hasL sh nt) n (dayIt p (hasL sh nt) n x kp) 1) (i : Int)) 1), .inl (sumN x (fun j => if sht p (hasL sh nt) n kp i j = true then (1 : Int) else 0))], _)) rfl ?_
      refine b_cast (f' := (35, [some (.inr 96), some (.inl (i : Int)), some (.inl (m : Int)), some (.inl (sumN x (fun j => if sht p (hasL sh nt) n kp i j = true then (1 : Int) else 0))), some (.inl (x : Int))], [.inl (if sht p (hasL sh nt) n kp i x = true then (1 : Int) else 0), .inl (sumN x (fun j => if sht p (hasL sh nt) n kp i j = true then (1 : Int) else 0))], [A0, (moSeg 32 k f c n kp l nt w sh (p : Int) t d wa), (moSeg 64 k f c n (dayIt p (hasL sh nt) n (x + 1) kp) l nt w sh (p : Int) t (d + (((x + 1) : Nat) : Int)) wa), (miscSeg z fs ss sp la gr tl tp), B4, A5, C6])) (congrArg (fun q : Int => ((35, [some (.inr 96), some (.inl (i : Int)), some (.inl (m : Int)), some (.inl (sumN x (fun j => if sht p (hasL sh nt) n kp i j = true then (1 : Int) else 0))), some (.inl (x : Int))], .inl q :: [.inl (sumN x (fun j => if sht p (hasL sh nt) n kp i j = true then (1 : Int) else 0))], [A0, (moSeg 32 k f c n kp l nt w sh (p : Int) t d wa), (moSeg 64 k f c n (dayIt p (hasL sh nt) n (x + 1) kp) l nt w sh (p : Int) t (d + (((x + 1) : Nat) : Int)) wa), (miscSeg z fs ss sp la gr tl tp), B4, A5, C6]) : aF)) (bits_and hp7 (fun q => sht p (hasL sh nt) n kp q x) hi)) ?_
      refine aGo okX0_shortDays 4 (f' := (16, [some (.inr 96), some (.inl (i : Int)), some (.inl (m : Int)), some (.inl ((sumN x (fun j => if sht p (hasL sh nt) n kp i j = true then (1 : Int) else 0)) + (if sht p (hasL sh nt) n kp i x = true then (1 : Int) else 0))), some (.inl ((x : Int) + 1))], [], _)) rfl ?_
      exact ih (x + 1) (by omega)
  refine aGo okX0_shortDays 4 (f' := (8, [some (.inr 96), some (.inl (i : Int)), some (.inl (m : Int)), none, none], [.inr 32, .inr 64], _)) rfl ?_
  refine b_vN (as := [.inr 32]) (rest := []) (k := 64) okX0_shortDays rfl lkX0_18 caX3_takeFrom (Nat.le_of_ble_eq_true rfl) rfl (Nat.le_of_ble_eq_true rfl) rfl rfl rfl (c_take_21 (mOK_lens hm) hl0) ?_
  refine b_cast (f' := (11, [some (.inr 96), some (.inl (i : Int)), some (.inl (m : Int)), none, none], [], [A0, (moSeg 32 k f c n kp l nt w sh (p : Int) t d wa), (moSeg 64 k f c n kp l nt w sh (p : Int) t d wa), (miscSeg z fs ss sp la gr tl tp), B4, A5, C6])) rfl ?_
  refine aGo okX0_shortDays 4 (f' := (16, [some (.inr 96), some (.inl (i : Int)), some (.inl (m : Int)), some (.inl 0), some (.inl 0)], [], _)) rfl ?_
  refine b_cast (f' := (16, [some (.inr 96), some (.inl (i : Int)), some (.inl (m : Int)), some (.inl 0), some (.inl 0)], [], [A0, (moSeg 32 k f c n kp l nt w sh (p : Int) t d wa), (moSeg 64 k f c n kp l nt w sh (p : Int) t (d + ((0 : Nat) : Int)) wa), (miscSeg z fs ss sp la gr tl tp), B4, A5, C6])) (congrArg (fun q : Int => ((16, [some (.inr 96), some (.inl (i : Int)), some (.inl (m : Int)), some (.inl 0), some (.inl 0)], [], [A0, (moSeg 32 k f c n kp l nt w sh (p : Int) t d wa), (moSeg 64 k f c n kp l nt w sh (p : Int) t q wa), (miscSeg z fs ss sp la gr tl tp), B4, A5, C6]) : aF)) (show d = d + ((0 : Nat) : Int) by omega)) ?_
  exact lp m 0 (by omega)
set_option maxRecDepth 100000 in
set_option maxHeartbeats 4000000 in
theorem c_firstShortDay (hm : mOK p k f c n kp l nt w sh t d wa) (hB : thk B) : aEv mX0_firstShortDay 3 0 0 N [.inr 96] [A0, (moSeg 32 k f c n kp l nt w sh (p : Int) t d wa), B, (miscSeg z fs ss sp la gr tl tp), B4, A5, C6] ((fun rv h => rv = some (.inl (firstF (fun j => !decide (bitsN p (fun q => sht p (hasL sh nt) n kp q j) = 0)) 99 0)) ∧ ∃ B2, thk B2 ∧ h = [A0, (moSeg 32 k f c n kp l nt w sh (p : Int) t d wa), B2, (miscSeg z fs ss sp la gr tl tp), B4, A5, C6])) := by
  obtain ⟨⟨hp7, hk, hf, hc, hn, hkp, hl, rk, rf, rc, rn, rkp, rl, ht0, ht1, hd0, hd1⟩, ⟨hnt, znt⟩, ⟨hw, zw, zwa⟩, ⟨hsh, zsh⟩⟩ := id hm
  have hle := mOK_hle hm
  obtain ⟨k0, f0, c0, n0, kp0, l0, nt0, w0, sh0, P0, t0, d0, wa0, hl0, rfl⟩ := hB
  refine aEv_of okX0_firstShortDay caX0_firstShortDay (Nat.le_of_ble_eq_true rfl) ?_
  have lp : ∀ (j x : Nat), x + j = 99 → AW mX0_firstShortDay 3 0 0 N none (fun rv h => rv = some (.inl (firstF (fun j => !decide (bitsN p (fun q => sht p (hasL sh nt) n kp q j) = 0)) j x)) ∧ ∃ B2, thk B2 ∧ h = [A0, (moSeg 32 k f c n kp l nt w sh (p : Int) t d wa), B2, (miscSeg z fs ss sp la gr tl tp), B4, A5, C6]) (13, [some (.inr 96), some (.inl (((x + 1) : Nat) : Int))], [], [A0, (moSeg 32 k f c n kp l nt w sh (p : Int) t d wa), (moSeg 64 k f c n (dayIt p (hasL sh nt) n x kp) l nt w sh (p : Int) t (d + (x : Int)) wa), (miscSeg z fs ss sp la gr tl tp), B4, A5, C6]) := by
    intro j
    induction j with
    | zero =>
      intro x hij
      obtain rfl : 99 = x := by omega
      refine aGo okX0_firstShortDay 2 (f' := (16, [some (.inr 96), some (.inl (((99 + 1) : Nat) : Int))], [.inl 99, .inl (((99 + 1) : Nat) : Int)], _)) rfl ?_
      refine b_gt (tgt := 38) okX0_firstShortDay rfl rfl ⟨by omega, by omega⟩ ⟨by omega, by omega⟩ (fun h16 => ?_) (fun h16 => absurd h16 (by omega))
      refine aGo okX0_firstShortDay 1 (f' := (40, [some (.inr 96), some (.inl (((99 + 1) : Nat) : Int))], [.inl (-9)], _)) rfl ?_
      exact b_ret (v := (some (.inl (-9)))) ⟨rfl, Or.inl rfl⟩ ⟨rfl, _, thk_of (by obtain ⟨a1, a2, a3, a4, a5, a6, a7, a8, a9⟩ := mOK_lens hm; exact ⟨a1, a2, a3, a4, by first | exact a5 | (rw [dayIt_len]; exact a5), a6, a7, a8, a9⟩), rfl⟩ rfl
    | succ j ih =>
      intro x hij
      refine aGo okX0_firstShortDay 2 (f' := (16, [some (.inr 96), some (.inl (((x + 1) : Nat) : Int))], [.inl 99, .inl (((x + 1) : Nat) : Int)], _)) rfl ?_
      refine b_gt (tgt := 38) okX0_firstShortDay rfl rfl ⟨by omega, by omega⟩ ⟨by omega, by omega⟩ (fun h16 => absurd h16 (by omega)) (fun h16 => ?_)
      refine aGo okX0_firstShortDay 3 (f' := (24, [some (.inr 96), some (.inl (((x + 1) : Nat) : Int))], [.inl 1, .inr 64], _)) rfl ?_
      refine b_vV (as := [.inl 1]) (rest := []) (k := 64) (.inl (dayB p (hasL sh nt) n (dayIt p (hasL sh nt) n x kp) 1)) okX0_firstShortDay rfl lkX0_24 caX3_passDays (Nat.le_of_ble_eq_true rfl) rfl (Nat.le_of_ble_eq_true rfl) rfl rfl rfl (c_passDays_2 (m := 1) hp7 (by omega) (by rw [dayIt_len]; exact hkp) hn hsh hnt (dayIt_rng rkp) rn hle) ?_
      refine b_cast (f' := (27, [some (.inr 96), some (.inl (((x + 1) : Nat) : Int))], [.inl (dayB p (hasL sh nt) n (dayIt p (hasL sh nt) n x kp) 1)], [A0, (moSeg 32 k f c n kp l nt w sh (p : Int) t d wa), (moSeg 64 k f c n (dayIt p (hasL sh nt) n 1 (dayIt p (hasL sh nt) n x kp)) l nt w sh (p : Int) t ((d + (x : Int)) + ((1 : Nat) : Int)) wa), (miscSeg z fs ss sp la gr tl tp), B4, A5, C6])) rfl ?_
      refine b_cast (f' := (27, [some (.inr 96), some (.inl (((x + 1) : Nat) : Int))], [.inl (dayB p (hasL sh nt) n (dayIt p (hasL sh nt) n x kp) 1)], [A0, (moSeg 32 k f c n kp l nt w sh (p : Int) t d wa), (moSeg 64 k f c n (dayIt p (hasL sh nt) n (x + 1) kp) l nt w sh (p : Int) t (d + (((x + 1) : Nat) : Int)) wa), (miscSeg z fs ss sp la gr tl tp), B4, A5, C6])) (congrArg (fun q : Int => ((27, [some (.inr 96), some (.inl (((x + 1) : Nat) : Int))], [.inl (dayB p (hasL sh nt) n (dayIt p (hasL sh nt) n x kp) 1)], [A0, (moSeg 32 k f c n kp l nt w sh (p : Int) t d wa), (moSeg 64 k f c n (dayIt p (hasL sh nt) n (x + 1) kp) l nt w sh (p : Int) t q wa), (miscSeg z fs ss sp la gr tl tp), B4, A5, C6]) : aF)) (show d + (x : Int) + ((1 : Nat) : Int) = d + ((x + 1 : Nat) : Int) by omega)) ?_
      have hb := bits_le hp7 (fun q => sht p (hasL sh nt) n kp q x)
      refine b_cast (f' := (27, [some (.inr 96), some (.inl (((x + 1) : Nat) : Int))], [.inl (bitsN p (fun q => sht p (hasL sh nt) n kp q x))], [A0, (moSeg 32 k f c n kp l nt w sh (p : Int) t d wa), (moSeg 64 k f c n (dayIt p (hasL sh nt) n (x + 1) kp) l nt w sh (p : Int) t (d + (((x + 1) : Nat) : Int)) wa), (miscSeg z fs ss sp la gr tl tp), B4, A5, C6])) rfl ?_
      refine b0_eq (tgt := 32) okX0_firstShortDay rfl rfl ⟨by omega, by omega⟩ (fun h27 => ?_) (fun h27 => ?_)
      · have hz : (fun j => !decide (bitsN p (fun q => sht p (hasL sh nt) n kp q j) = 0)) x = false := by simp only [h27]; rfl
        refine aGo okX0_firstShortDay 2 (f' := (13, [some (.inr 96), some (.inl ((((x + 1) : Nat) : Int) + 1))], [], _)) rfl ?_
        rw [firstF_f hz]
        exact ih (x + 1) (by omega)
      · have hz : (fun j => !decide (bitsN p (fun q => sht p (hasL sh nt) n kp q j) = 0)) x = true := by simp only [decide_eq_false h27]; rfl
        rw [firstF_t hz]
        refine aGo okX0_firstShortDay 1 (f' := (31, [some (.inr 96), some (.inl (((x + 1) : Nat) : Int))], [.inl (((x + 1) : Nat) : Int)], _)) rfl ?_
        exact b_ret (v := (some (.inl (((x + 1) : Nat) : Int)))) ⟨rfl, Or.inl rfl⟩ ⟨rfl, _, thk_of (by obtain ⟨a1, a2, a3, a4, a5, a6, a7, a8, a9⟩ := mOK_lens hm; exact ⟨a1, a2, a3, a4, by first | exact a5 | (rw [dayIt_len]; exact a5), a6, a7, a8, a9⟩), rfl⟩ rfl
  refine aGo okX0_firstShortDay 4 (f' := (8, [some (.inr 96), none], [.inr 32, .inr 64], _)) rfl ?_
  refine b_vN (as := [.inr 32]) (rest := []) (k := 64) okX0_firstShortDay rfl lkX0_18 caX3_takeFrom (Nat.le_of_ble_eq_true rfl) rfl (Nat.le_of_ble_eq_true rfl) rfl rfl rfl (c_take_21 (mOK_lens hm) hl0) ?_
  refine b_cast (f' := (11, [some (.inr 96), none], [], [A0, (moSeg 32 k f c n kp l nt w sh (p : Int) t d wa), (moSeg 64 k f c n kp l nt w sh (p : Int) t d wa), (miscSeg z fs ss sp la gr tl tp), B4, A5, C6])) rfl ?_
  refine aGo okX0_firstShortDay 2 (f' := (13, [some (.inr 96), some (.inl 1)], [], _)) rfl ?_
  refine b_cast (f' := (13, [some (.inr 96), some (.inl 1)], [], [A0, (moSeg 32 k f c n kp l nt w sh (p : Int) t d wa), (moSeg 64 k f c n kp l nt w sh (p : Int) t (d + ((0 : Nat) : Int)) wa), (miscSeg z fs ss sp la gr tl tp), B4, A5, C6])) (congrArg (fun q : Int => ((13, [some (.inr 96), some (.inl 1)], [], [A0, (moSeg 32 k f c n kp l nt w sh (p : Int) t d wa), (moSeg 64 k f c n kp l nt w sh (p : Int) t q wa), (miscSeg z fs ss sp la gr tl tp), B4, A5, C6]) : aF)) (show d = d + ((0 : Nat) : Int) by omega)) ?_
  exact lp 99 0 (by omega)
set_option maxRecDepth 100000 in
set_option maxHeartbeats 4000000 in
theorem c_daysTillShort (hm : mOK p k f c n kp l nt w sh t d wa) (hB : thk B) {i : Nat} (hi : i < p) : aEv mX0_daysTillShort 3 0 0 N [.inr 96, .inl (i : Int)] [A0, (moSeg 32 k f c n kp l nt w sh (p : Int) t d wa), B, (miscSeg z fs ss sp la gr tl tp), B4, A5, C6] ((fun rv h => rv = some (.inl (lastF (fun j => sht p (hasL sh nt) n kp i j) 99 0)) ∧ ∃ B2, thk B2 ∧ h = [A0, (moSeg 32 k f c n kp l nt w sh (p : Int) t d wa), B2, (miscSeg z fs ss sp la gr tl tp), B4, A5, C6])) := by
  obtain ⟨⟨hp7, hk, hf, hc, hn, hkp, hl, rk, rf, rc, rn, rkp, rl, ht0, ht1, hd0, hd1⟩, ⟨hnt, znt⟩, ⟨hw, zw, zwa⟩, ⟨hsh, zsh⟩⟩ := id hm
  have hle := mOK_hle hm
  obtain ⟨k0, f0, c0, n0, kp0, l0, nt0, w0, sh0, P0, t0, d0, wa0, hl0, rfl⟩ := hB
  refine aEv_of okX0_daysTillShort caX0_daysTillShort (Nat.le_of_ble_eq_true rfl) ?_
  have lp : ∀ (j x : Nat), x + j = 99 → AW mX0_daysTillShort 3 0 0 N none (fun rv h => rv = some (.inl (lastF (fun j => sht p (hasL sh nt) n kp i j) j x)) ∧ ∃ B2, thk B2 ∧ h = [A0, (moSeg 32 k f c n kp l nt w sh (p : Int) t d wa), B2, (miscSeg z fs ss sp la gr tl tp), B4, A5, C6]) (13, [some (.inr 96), some (.inl (i : Int)), some (.inl (x : Int))], [], [A0, (moSeg 32 k f c n kp l nt w sh (p : Int) t d wa), (moSeg 64 k f c n (dayIt p (hasL sh nt) n x kp) l nt w sh (p : Int) t (d + (x : Int)) wa), (miscSeg z fs ss sp la gr tl tp), B4, A5, C6]) := by
    intro j
    induction j with
    | zero =>
      intro x hij
      obtain rfl : 99 = x := by omega
      refine aGo okX0_daysTillShort 2 (f' := (16, [some (.inr 96), some (.inl (i : Int)), some (.inl (99 : Int))], [.inl 99, .inl (99 : Int)], _)) rfl ?_
      refine b_ge (tgt := 42) okX0_daysTillShort rfl rfl ⟨by omega, by omega⟩ ⟨by omega, by omega⟩ (fun h16 => ?_) (fun h16 => absurd h16 (by omega))
      refine aGo okX0_daysTillShort 1 (f' := (44, [some (.inr 96), some (.inl (i : Int)), some (.inl (99 : Int))], [.inl 99], _)) rfl ?_
      exact b_ret (v := (some (.inl 99))) ⟨rfl, Or.inl rfl⟩ ⟨rfl, _, thk_of (by obtain ⟨a1, a2, a3, a4, a5, a6, a7, a8, a9⟩ := mOK_lens hm; exact ⟨a1, a2, a3, a4, by first | exact a5 | (rw [dayIt_len]; exact a5), a6, a7, a8, a9⟩), rfl⟩ rfl
    | succ j ih =>
      intro x hij
      refine aGo okX0_daysTillShort 2 (f' := (16, [some (.inr 96), some (.inl (i : Int)), some (.inl (x : Int))], [.inl 99, .inl (x : Int)], _)) rfl ?_
      refine b_ge (tgt := 42) okX0_daysTillShort rfl rfl ⟨by omega, by omega⟩ ⟨by omega, by omega⟩ (fun h16 => absurd h16 (by omega)) (fun h16 => ?_)
      refine aGo okX0_daysTillShort 3 (f' := (24, [some (.inr 96), some (.inl (i : Int)), some (.inl (x : Int))], [.inl 1, .inr 64], _)) rfl ?_
      refine b_vV (as := [.inl 1]) (rest := []) (k := 64) (.inl (dayB p (hasL sh nt) n (dayIt p (hasL sh nt) n x kp) 1)) okX0_daysTillShort rfl lkX0_24 caX3_passDays (Nat.le_of_ble_eq_true rfl) rfl (Nat.le_of_ble_eq_true rfl) rfl rfl rfl (c_passDays_2 (m := 1) hp7 (by omega) (by rw [dayIt_len]; exact hkp) hn hsh hnt (dayIt_rng rkp) rn hle) ?_
      refine b_cast (f' := (27, [some (.inr 96), some (.inl (i : Int)), some (.inl (x : Int))], [.inl (dayB p (hasL sh nt) n (dayIt p (hasL sh nt) n x kp) 1)], [A0, (moSeg 32 k f c n kp l nt w sh (p : Int) t d wa), (moSeg 64 k f c n (dayIt p (hasL sh nt) n 1 (dayIt p (hasL sh nt) n x kp)) l nt w sh (p : Int) t ((d + (x : Int)) + ((1 : Nat) : Int)) wa), (miscSeg z fs ss sp la gr tl tp), B4, A5, C6])) rfl ?_
      refine b_cast (f' := (27, [some (.inr 96), some (.inl (i : Int)), some (.inl (x : Int))], [.inl (dayB p (hasL sh nt) n (dayIt p (hasL sh nt) n x kp) 1)], [A0, (moSeg 32 k f c n kp l nt w sh (p : Int) t d wa), (moSeg 64 k f c n (dayIt p (hasL sh nt) n (x + 1) kp) l nt w sh (p : Int) t (d + (((x + 1) : Nat) : Int)) wa), (miscSeg z fs ss sp la gr tl tp), B4, A5, C6])) (congrArg (fun q : Int => ((27, [some (.inr 96), some (.inl (i : Int)), some (.inl (x : Int))], [.inl (dayB p (hasL sh nt) n (dayIt p (hasL sh nt) n x kp) 1)], [A0, (moSeg 32 k f c n kp l nt w sh (p : Int) t d wa), (moSeg 64 k f c n (dayIt p (hasL sh nt) n (x + 1) kp) l nt w sh (p : Int) t q wa), (miscSeg z fs ss sp la gr tl tp), B4, A5, C6]) : aF)) (show d + (x : Int) + ((1 : Nat) : Int) = d + ((x + 1 : Nat) : Int) by omega)) ?_
      refine aGo okX0_daysTillShort 4 (f' := (31, [some (.inr 96), some (.inl (i : Int)), some (.inl (x : Int))], [.inl (aAnd (aShr (dayB p (hasL sh nt) n (dayIt p (hasL sh nt) n x kp) 1) (i : Int)) 1)], _)) rfl ?_
      have hbv := bits_and hp7 (fun q => sht p (hasL sh nt) n kp q x) hi
      cases hz : sht p (hasL sh nt) n kp i x with
      | false =>
        simp only [hz] at hbv
        refine b_cast (f' := (31, [some (.inr 96), some (.inl (i : Int)), some (.inl (x : Int))], [.inl 0], [A0, (moSeg 32 k f c n kp l nt w sh (p : Int) t d wa), (moSeg 64 k f c n (dayIt p (hasL sh nt) n (x + 1) kp) l nt w sh (p : Int) t (d + (((x + 1) : Nat) : Int)) wa), (miscSeg z fs ss sp la gr tl tp), B4, A5, C6])) (congrArg (fun q : Int => ((31, [some (.inr 96), some (.inl (i : Int)), some (.inl (x : Int))], .inl q :: [], [A0, (moSeg 32 k f c n kp l nt w sh (p : Int) t d wa), (moSeg 64 k f c n (dayIt p (hasL sh nt) n (x + 1) kp) l nt w sh (p : Int) t (d + (((x + 1) : Nat) : Int)) wa), (miscSeg z fs ss sp la gr tl tp), B4, A5, C6]) : aF)) hbv) ?_
        rw [lastF_f (P := (fun j => sht p (hasL sh nt) n kp i j)) hz]
        refine b0_eq (tgt := 36) okX0_daysTillShort rfl rfl ⟨by omega, by omega⟩ (fun h31 => ?_) (fun h31 => absurd h31 (by omega))
        refine aGo okX0_daysTillShort 2 (f' := (13, [some (.inr 96), some (.inl (i : Int)), some (.inl ((x : Int) + 1))], [], _)) rfl ?_
        exact ih (x + 1) (by omega)
      | true =>
        simp only [hz] at hbv
        refine b_cast (f' := (31, [some (.inr 96), some (.inl (i : Int)), some (.inl (x : Int))], [.inl 1], [A0, (moSeg 32 k f c n kp l nt w sh (p : Int) t d wa), (moSeg 64 k f c n (dayIt p (hasL sh nt) n (x + 1) kp) l nt w sh (p : Int) t (d + (((x + 1) : Nat) : Int)) wa), (miscSeg z fs ss sp la gr tl tp), B4, A5, C6])) (congrArg (fun q : Int => ((31, [some (.inr 96), some (.inl (i : Int)), some (.inl (x : Int))], .inl q :: [], [A0, (moSeg 32 k f c n kp l nt w sh (p : Int) t d wa), (moSeg 64 k f c n (dayIt p (hasL sh nt) n (x + 1) kp) l nt w sh (p : Int) t (d + (((x + 1) : Nat) : Int)) wa), (miscSeg z fs ss sp la gr tl tp), B4, A5, C6]) : aF)) hbv) ?_
        rw [lastF_t (P := (fun j => sht p (hasL sh nt) n kp i j)) hz]
        refine b0_eq (tgt := 36) okX0_daysTillShort rfl rfl ⟨by omega, by omega⟩ (fun h31 => absurd h31 (by omega)) (fun h31 => ?_)
        refine aGo okX0_daysTillShort 1 (f' := (35, [some (.inr 96), some (.inl (i : Int)), some (.inl (x : Int))], [.inl (x : Int)], _)) rfl ?_
        exact b_ret (v := (some (.inl (x : Int)))) ⟨rfl, Or.inl rfl⟩ ⟨rfl, _, thk_of (by obtain ⟨a1, a2, a3, a4, a5, a6, a7, a8, a9⟩ := mOK_lens hm; exact ⟨a1, a2, a3, a4, by first | exact a5 | (rw [dayIt_len]; exact a5), a6, a7, a8, a9⟩), rfl⟩ rfl
  refine aGo okX0_daysTillShort 4 (f' := (8, [some (.inr 96), some (.inl (i : Int)), none], [.inr 32, .inr 64], _)) rfl ?_
  refine b_vN (as := [.inr 32]) (rest := []) (k := 64) okX0_daysTillShort rfl lkX0_18 caX3_takeFrom (Nat.le_of_ble_eq_true rfl) rfl (Nat.le_of_ble_eq_true rfl) rfl rfl rfl (c_take_21 (mOK_lens hm) hl0) ?_
  refine b_cast (f' := (11, [some (.inr 96), some (.inl (i : Int)), none], [], [A0, (moSeg 32 k f c n kp l nt w sh (p : Int) t d wa), (moSeg 64 k f c n kp l nt w sh (p : Int) t d wa), (miscSeg z fs ss sp la gr tl tp), B4, A5, C6])) rfl ?_
  refine aGo okX0_daysTillShort 2 (f' := (13, [some (.inr 96), some (.inl (i : Int)), some (.inl 0)], [], _)) rfl ?_
  refine b_cast (f' := (13, [some (.inr 96), some (.inl (i : Int)), some (.inl 0)], [], [A0, (moSeg 32 k f c n kp l nt w sh (p : Int) t d wa), (moSeg 64 k f c n kp l nt w sh (p : Int) t (d + ((0 : Nat) : Int)) wa), (miscSeg z fs ss sp la gr tl tp), B4, A5, C6])) (congrArg (fun q : Int => ((13, [some (.inr 96), some (.inl (i : Int)), some (.inl 0)], [], [A0, (moSeg 32 k f c n kp l nt w sh (p : Int) t d wa), (moSeg 64 k f c n kp l nt w sh (p : Int) t q wa), (miscSeg z fs ss sp la gr tl tp), B4, A5, C6]) : aF)) (show d = d + ((0 : Nat) : Int) by omega)) ?_
  exact lp 99 0 (by omega)
set_option maxRecDepth 100000 in
set_option maxHeartbeats 4000000 in
theorem c_firstShortOne (hm : mOK p k f c n kp l nt w sh t d wa) (hB : thk B) : aEv mX0_firstShortOne 3 0 0 N [.inr 96] [A0, (moSeg 32 k f c n kp l nt w sh (p : Int) t d wa), B, (miscSeg z fs ss sp la gr tl tp), B4, A5, C6] ((fun rv h => rv = some (.inl (firstO (fun j q => sht p (hasL sh nt) n kp q j) p 99 0)) ∧ ∃ B2, thk B2 ∧ h = [A0, (moSeg 32 k f c n kp l nt w sh (p : Int) t d wa), B2, (miscSeg z fs ss sp la gr tl tp), B4, A5, C6])) := by
  obtain ⟨⟨hp7, hk, hf, hc, hn, hkp, hl, rk, rf, rc, rn, rkp, rl, ht0, ht1, hd0, hd1⟩, ⟨hnt, znt⟩, ⟨hw, zw, zwa⟩, ⟨hsh, zsh⟩⟩ := id hm
  have hle := mOK_hle hm
  obtain ⟨k0, f0, c0, n0, kp0, l0, nt0, w0, sh0, P0, t0, d0, wa0, hl0, rfl⟩ := hB
  refine aEv_of okX0_firstShortOne caX0_firstShortOne (Nat.le_of_ble_eq_true rfl) ?_
  have lp : ∀ (j x : Nat), x + j = 99 → AW mX0_firstShortOne 3 0 0 N none (fun rv h => rv = some (.inl (firstO (fun j q => sht p (hasL sh nt) n kp q j) p j x)) ∧ ∃ B2, thk B2 ∧ h = [A0, (moSeg 32 k f c n kp l nt w sh (p : Int) t d wa), B2, (miscSeg z fs ss sp la gr tl tp), B4, A5, C6]) (13, [some (.inr 96), some (.inl (((x + 1) : Nat) : Int)), none, none], [], [A0, (moSeg 32 k f c n kp l nt w sh (p : Int) t d wa), (moSeg 64 k f c n (dayIt p (hasL sh nt) n x kp) l nt w sh (p : Int) t (d + (x : Int)) wa), (miscSeg z fs ss sp la gr tl tp), B4, A5, C6]) := by
    intro j
    induction j with
    | zero =>
      intro x hij
      obtain rfl : 99 = x := by omega
      refine aGo okX0_firstShortOne 2 (f' := (16, [some (.inr 96), some (.inl (((99 + 1) : Nat) : Int)), none, none], [.inl 99, .inl (((99 + 1) : Nat) : Int)], _)) rfl ?_
      refine b_gt (tgt := 63) okX0_firstShortOne rfl rfl ⟨by omega, by omega⟩ ⟨by omega, by omega⟩ (fun h16 => ?_) (fun h16 => absurd h16 (by omega))
      refine aGo okX0_firstShortOne 1 (f' := (65, [some (.inr 96), some (.inl (((99 + 1) : Nat) : Int)), none, none], [.inl (-9)], _)) rfl ?_
      exact b_ret (v := (some (.inl (-9)))) ⟨rfl, Or.inl rfl⟩ ⟨rfl, _, thk_of (by obtain ⟨a1, a2, a3, a4, a5, a6, a7, a8, a9⟩ := mOK_lens hm; exact ⟨a1, a2, a3, a4, by first | exact a5 | (rw [dayIt_len]; exact a5), a6, a7, a8, a9⟩), rfl⟩ rfl
    | succ j ih =>
      intro x hij
      refine aGo okX0_firstShortOne 2 (f' := (16, [some (.inr 96), some (.inl (((x + 1) : Nat) : Int)), none, none], [.inl 99, .inl (((x + 1) : Nat) : Int)], _)) rfl ?_
      refine b_gt (tgt := 63) okX0_firstShortOne rfl rfl ⟨by omega, by omega⟩ ⟨by omega, by omega⟩ (fun h16 => absurd h16 (by omega)) (fun h16 => ?_)
      refine aGo okX0_firstShortOne 3 (f' := (24, [some (.inr 96), some (.inl (((x + 1) : Nat) : Int)), none, none], [.inl 1, .inr 64], _)) rfl ?_
      refine b_vV (as := [.inl 1]) (rest := []) (k := 64) (.inl (dayB p (hasL sh nt) n (dayIt p (hasL sh nt) n x kp) 1)) okX0_firstShortOne rfl lkX0_24 caX3_passDays (Nat.le_of_ble_eq_true rfl) rfl (Nat.le_of_ble_eq_true rfl) rfl rfl rfl (c_passDays_2 (m := 1) hp7 (by omega) (by rw [dayIt_len]; exact hkp) hn hsh hnt (dayIt_rng rkp) rn hle) ?_
      refine b_cast (f' := (27, [some (.inr 96), some (.inl (((x + 1) : Nat) : Int)), none, none], [.inl (dayB p (hasL sh nt) n (dayIt p (hasL sh nt) n x kp) 1)], [A0, (moSeg 32 k f c n kp l nt w sh (p : Int) t d wa), (moSeg 64 k f c n (dayIt p (hasL sh nt) n 1 (dayIt p (hasL sh nt) n x kp)) l nt w sh (p : Int) t ((d + (x : Int)) + ((1 : Nat) : Int)) wa), (miscSeg z fs ss sp la gr tl tp), B4, A5, C6])) rfl ?_
      refine b_cast (f' := (27, [some (.inr 96), some (.inl (((x + 1) : Nat) : Int)), none, none], [.inl (dayB p (hasL sh nt) n (dayIt p (hasL sh nt) n x kp) 1)], [A0, (moSeg 32 k f c n kp l nt w sh (p : Int) t d wa), (moSeg 64 k f c n (dayIt p (hasL sh nt) n (x + 1) kp) l nt w sh (p : Int) t (d + (((x + 1) : Nat) : Int)) wa), (miscSeg z fs ss sp la gr tl tp), B4, A5, C6])) (congrArg (fun q : Int => ((27, [some (.inr 96), some (.inl (((x + 1) : Nat) : Int)), none, none], [.inl (dayB p (hasL sh nt) n (dayIt p (hasL sh nt) n x kp) 1)], [A0, (moSeg 32 k f c n kp l nt w sh (p : Int) t d wa), (moSeg 64 k f c n (dayIt p (hasL sh nt) n (x + 1) kp) l nt w sh (p : Int) t q wa), (miscSeg z fs ss sp la gr tl tp), B4, A5, C6]) : aF)) (show d + (x : Int) + ((1 : Nat) : Int) = d + ((x + 1 : Nat) : Int) by omega)) ?_
      refine b_cast (f' := (27, [some (.inr 96), some (.inl (((x + 1) : Nat) : Int)), none, none], [.inl (bitsN p (fun q => sht p (hasL sh nt) n kp q x))], [A0, (moSeg 32 k f c n kp l nt w sh (p : Int) t d wa), (moSeg 64 k f c n (dayIt p (hasL sh nt) n (x + 1) kp) l nt w sh (p : Int) t (d + (((x + 1) : Nat) : Int)) wa), (miscSeg z fs ss sp la gr tl tp), B4, A5, C6])) rfl ?_
      refine aGo okX0_firstShortOne 3 (f' := (30, [some (.inr 96), some (.inl (((x + 1) : Nat) : Int)), some (.inl (bitsN p (fun q => sht p (hasL sh nt) n kp q x))), some (.inl 0)], [], _)) rfl ?_
      have lq : ∀ (j2 y : Nat), y + j2 = p → (firstQ ((fun j q => sht p (hasL sh nt) n kp q j) x) p 0 = firstQ ((fun j q => sht p (hasL sh nt) n kp q j) x) j2 y) → AW mX0_firstShortOne 3 0 0 N none (fun rv h => rv = some (.inl (firstO (fun j q => sht p (hasL sh nt) n kp q j) p (j + 1) x)) ∧ ∃ B2, thk B2 ∧ h = [A0, (moSeg 32 k f c n kp l nt w sh (p : Int) t d wa), B2, (miscSeg z fs ss sp la gr tl tp), B4, A5, C6]) (30, [some (.inr 96), some (.inl (((x + 1) : Nat) : Int)), some (.inl (bitsN p (fun q => sht p (hasL sh nt) n kp q x))), some (.inl (y : Int))], [], [A0, (moSeg 32 k f c n kp l nt w sh (p : Int) t d wa), (moSeg 64 k f c n (dayIt p (hasL sh nt) n (x + 1) kp) l nt w sh (p : Int) t (d + (((x + 1) : Nat) : Int)) wa), (miscSeg z fs ss sp la gr tl tp), B4, A5, C6]) := by
        intro j2
        induction j2 with
        | zero =>
          intro y hij2 hqe
          obtain rfl : p = y := by omega
          refine aGo okX0_firstShortOne 3 (f' := (35, [some (.inr 96), some (.inl (((x + 1) : Nat) : Int)), some (.inl (bitsN p (fun q => sht p (hasL sh nt) n kp q x))), some (.inl (p : Int))], [.inr 32, .inl (p : Int)], _)) rfl ?_
          refine b_vV (as := []) (rest := [.inl (p : Int)]) (k := 32) (.inl (p : Int)) okX0_firstShortOne rfl lkX0_31 caX3_people (Nat.le_of_ble_eq_true rfl) rfl (Nat.le_of_ble_eq_true rfl) rfl rfl rfl (c_people_1) ?_
          refine b_ge (tgt := 57) okX0_firstShortOne rfl rfl ⟨by omega, by omega⟩ ⟨by omega, by omega⟩ (fun h38 => ?_) (fun h38 => absurd h38 (by omega))
          refine aGo okX0_firstShortOne 2 (f' := (13, [some (.inr 96), some (.inl ((((x + 1) : Nat) : Int) + 1)), some (.inl (bitsN p (fun q => sht p (hasL sh nt) n kp q x))), some (.inl (p : Int))], [], _)) rfl ?_
          refine b_lose (ls' := [some (.inr 96), some (.inl ((((x + 1) : Nat) : Int) + 1)), none, none]) (lose23 _ _ _ _) ?_
          rw [firstO_f (P := (fun j q => sht p (hasL sh nt) n kp q j)) hqe]
          exact ih (x + 1) (by omega)
        | succ j2 ih2 =>
          intro y hij2 hqe
          refine aGo okX0_firstShortOne 3 (f' := (35, [some (.inr 96), some (.inl (((x + 1) : Nat) : Int)), some (.inl (bitsN p (fun q => sht p (hasL sh nt) n kp q x))), some (.inl (y : Int))], [.inr 32, .inl (y : Int)], _)) rfl ?_
          refine b_vV (as := []) (rest := [.inl (y : Int)]) (k := 32) (.inl (p : Int)) okX0_firstShortOne rfl lkX0_31 caX3_people (Nat.le_of_ble_eq_true rfl) rfl (Nat.le_of_ble_eq_true rfl) rfl rfl rfl (c_people_1) ?_
          refine b_ge (tgt := 57) okX0_firstShortOne rfl rfl ⟨by omega, by omega⟩ ⟨by omega, by omega⟩ (fun h38 => absurd h38 (by omega)) (fun h38 => ?_)
          refine aGo okX0_firstShortOne 5 (f' := (46, [some (.inr 96), some (.inl (((x + 1) : Nat) : Int)), some (.inl (bitsN p (fun q => sht p (hasL sh nt) n kp q x))), some (.inl (y : Int))], [.inl (aAnd (aShr (bitsN p (fun q => sht p (hasL sh nt) n kp q x)) (y : Int)) 1)], _)) rfl ?_
          have hbv := bits_and hp7 (fun q => sht p (hasL sh nt) n kp q x) (show y < p by omega)
          cases hz : sht p (hasL sh nt) n kp y x with
          | false =>
            simp only [hz] at hbv
            refine b_cast (f' := (46, [some (.inr 96), some (.inl (((x + 1) : Nat) : Int)), some (.inl (bitsN p (fun q => sht p (hasL sh nt) n kp q x))), some (.inl (y : Int))], [.inl 0], [A0, (moSeg 32 k f c n kp l nt w sh (p : Int) t d wa), (moSeg 64 k f c n (dayIt p (hasL sh nt) n (x + 1) kp) l nt w sh (p : Int) t (d + (((x + 1) : Nat) : Int)) wa), (miscSeg z fs ss sp la gr tl tp), B4, A5, C6])) (congrArg (fun q : Int => ((46, [some (.inr 96), some (.inl (((x + 1) : Nat) : Int)), some (.inl (bitsN p (fun q => sht p (hasL sh nt) n kp q x))), some (.inl (y : Int))], .inl q :: [], [A0, (moSeg 32 k f c n kp l nt w sh (p : Int) t d wa), (moSeg 64 k f c n (dayIt p (hasL sh nt) n (x + 1) kp) l nt w sh (p : Int) t (d + (((x + 1) : Nat) : Int)) wa), (miscSeg z fs ss sp la gr tl tp), B4, A5, C6]) : aF)) hbv) ?_
            rw [firstQ_f (P := (fun j q => sht p (hasL sh nt) n kp q j) x) hz] at hqe
            refine b0_eq (tgt := 51) okX0_firstShortOne rfl rfl ⟨by omega, by omega⟩ (fun h46 => ?_) (fun h46 => absurd h46 (by omega))
            refine aGo okX0_firstShortOne 2 (f' := (30, [some (.inr 96), some (.inl (((x + 1) : Nat) : Int)), some (.inl (bitsN p (fun q => sht p (hasL sh nt) n kp q x))), some (.inl ((y : Int) + 1))], [], _)) rfl ?_
            exact ih2 (y + 1) (by omega) hqe
          | true =>
            simp only [hz] at hbv
            refine b_cast (f' := (46, [some (.inr 96), some (.inl (((x + 1) : Nat) : Int)), some (.inl (bitsN p (fun q => sht p (hasL sh nt) n kp q x))), some (.inl (y : Int))], [.inl 1], [A0, (moSeg 32 k f c n kp l nt w sh (p : Int) t d wa), (moSeg 64 k f c n (dayIt p (hasL sh nt) n (x + 1) kp) l nt w sh (p : Int) t (d + (((x + 1) : Nat) : Int)) wa), (miscSeg z fs ss sp la gr tl tp), B4, A5, C6])) (congrArg (fun q : Int => ((46, [some (.inr 96), some (.inl (((x + 1) : Nat) : Int)), some (.inl (bitsN p (fun q => sht p (hasL sh nt) n kp q x))), some (.inl (y : Int))], .inl q :: [], [A0, (moSeg 32 k f c n kp l nt w sh (p : Int) t d wa), (moSeg 64 k f c n (dayIt p (hasL sh nt) n (x + 1) kp) l nt w sh (p : Int) t (d + (((x + 1) : Nat) : Int)) wa), (miscSeg z fs ss sp la gr tl tp), B4, A5, C6]) : aF)) hbv) ?_
            rw [firstQ_t (P := (fun j q => sht p (hasL sh nt) n kp q j) x) hz] at hqe
            rw [firstO_t (P := (fun j q => sht p (hasL sh nt) n kp q j)) (by rw [hqe]; omega), hqe]
            refine b0_eq (tgt := 51) okX0_firstShortOne rfl rfl ⟨by omega, by omega⟩ (fun h46 => absurd h46 (by omega)) (fun h46 => ?_)
            refine aGo okX0_firstShortOne 1 (f' := (50, [some (.inr 96), some (.inl (((x + 1) : Nat) : Int)), some (.inl (bitsN p (fun q => sht p (hasL sh nt) n kp q x))), some (.inl (y : Int))], [.inl (y : Int)], _)) rfl ?_
            exact b_ret (v := (some (.inl (y : Int)))) ⟨rfl, Or.inl rfl⟩ ⟨rfl, _, thk_of (by obtain ⟨a1, a2, a3, a4, a5, a6, a7, a8, a9⟩ := mOK_lens hm; exact ⟨a1, a2, a3, a4, by first | exact a5 | (rw [dayIt_len]; exact a5), a6, a7, a8, a9⟩), rfl⟩ rfl
      exact lq p 0 (by omega) rfl
  refine aGo okX0_firstShortOne 4 (f' := (8, [some (.inr 96), none, none, none], [.inr 32, .inr 64], _)) rfl ?_
  refine b_vN (as := [.inr 32]) (rest := []) (k := 64) okX0_firstShortOne rfl lkX0_18 caX3_takeFrom (Nat.le_of_ble_eq_true rfl) rfl (Nat.le_of_ble_eq_true rfl) rfl rfl rfl (c_take_21 (mOK_lens hm) hl0) ?_
  refine b_cast (f' := (11, [some (.inr 96), none, none, none], [], [A0, (moSeg 32 k f c n kp l nt w sh (p : Int) t d wa), (moSeg 64 k f c n kp l nt w sh (p : Int) t d wa), (miscSeg z fs ss sp la gr tl tp), B4, A5, C6])) rfl ?_
  refine aGo okX0_firstShortOne 2 (f' := (13, [some (.inr 96), some (.inl 1), none, none], [], _)) rfl ?_
  refine b_cast (f' := (13, [some (.inr 96), some (.inl 1), none, none], [], [A0, (moSeg 32 k f c n kp l nt w sh (p : Int) t d wa), (moSeg 64 k f c n kp l nt w sh (p : Int) t (d + ((0 : Nat) : Int)) wa), (miscSeg z fs ss sp la gr tl tp), B4, A5, C6])) (congrArg (fun q : Int => ((13, [some (.inr 96), some (.inl 1), none, none], [], [A0, (moSeg 32 k f c n kp l nt w sh (p : Int) t d wa), (moSeg 64 k f c n kp l nt w sh (p : Int) t q wa), (miscSeg z fs ss sp la gr tl tp), B4, A5, C6]) : aF)) (show d = d + ((0 : Nat) : Int) by omega)) ?_
  exact lp 99 0 (by omega)
end ADA
end
section
/-! Visits, told rows judged; laid by gen_days2.py -/
def visC (c : List Int) (d : Int) (i g x : Nat) : Int := if (d + (x : Int) + 1) % 7 = 1 then c.getD i 0 else c.getD g 0
def hasE (p : Nat) (k f c l : List Int) (t d : Int) (i g x : Nat) (q : Nat) : Int := shr p k f (c.set g (visC c d i g x)) t q - net p l q
def kpE (p : Nat) (k f c n l : List Int) (t d : Int) (i g : Nat) (kp : List Int) : Nat → List Int
  | 0 => kp
  | x + 1 => dayL p (kpE p k f c n l t d i g kp x) (hasE p k f c l t d i g x) n
theorem kpE_len (p : Nat) (k f c n l : List Int) (t d : Int) (i g : Nat) (kp : List Int) (x : Nat) : (kpE p k f c n l t d i g kp x).length = kp.length := by
  induction x with
  | zero => rfl
  | succ x ih => simp only [kpE, dayL_len, ih]
theorem kpE_rng {p : Nat} {k f c n l : List Int} {t d : Int} {i g : Nat} {kp : List Int} {x : Nat} (h : rng kp 9999) : rng (kpE p k f c n l t d i g kp x) 9999 := by
  induction x with
  | zero => exact h
  | succ x ih => exact dayL_rng ih
theorem set_self {l : List Int} {i : Nat} (h : i < l.length) : l.set i (l.getD i 0) = l := by
  apply List.ext_getElem?
  intro j
  by_cases e : j = i
  · subst e
    rw [List.getElem?_set_self h, List.getD_eq_getElem?_getD, List.getElem?_eq_getElem h]; rfl
  · rw [List.getElem?_set_ne (Ne.symm e)]
theorem visC_le {c : List Int} (rc : rng c 35) (d : Int) (i g x : Nat) : 0 ≤ visC c d i g x ∧ visC c d i g x ≤ 35 := by
  unfold visC; split
  · exact rc i
  · exact rc g
theorem visC_t {c : List Int} {d : Int} {i g x : Nat} (h : (d + (x : Int) + 1) % 7 = 1) : visC c d i g x = c.getD i 0 := if_pos h
theorem visC_f {c : List Int} {d : Int} {i g x : Nat} (h : ¬ (d + (x : Int) + 1) % 7 = 1) : visC c d i g x = c.getD g 0 := if_neg h
theorem kpE_day {p : Nat} {k f c n l : List Int} {t d : Int} {i g : Nat} {kp sh2 nt : List Int} {x : Nat} {v : Int} (hv : visC c d i g x = v) (hs : sOK p k f (c.set g v) sh2 t) (hn : nOK p l nt) : dayIt p (hasL sh2 nt) n 1 (kpE p k f c n l t d i g kp x) = kpE p k f c n l t d i g kp (x + 1) := by
  subst hv
  show dayL p _ _ _ = dayL p _ _ _
  refine dayL_congr (fun q hq => ?_) _ _ p (Nat.le_refl p)
  unfold hasL hasE
  rw [hs.2 q hq, hn.2 q hq]
theorem sOK_hle {p : Nat} {k f c l sh nt : List Int} {t : Int} (hp : p ≤ 7) (rf : rng f 9) (rc : rng c 35) (rl : rng l 99) (ht : 0 ≤ t ∧ t ≤ 999) (hs : sOK p k f c sh t) (hn : nOK p l nt) : ∀ q, q < p → -10000 ≤ sh.getD q 0 - nt.getD q 0 ∧ sh.getD q 0 - nt.getD q 0 ≤ 10000 := by
  intro q hq
  rw [hs.2 q hq, hn.2 q hq]
  exact hasM_le hp rf rc rl ht hq
section ADB
variable {A0 A3 B B2 B4 A5 C6 : List (Option aE)} {k f c n kp l nt w sh : List Int} {p : Nat} {t d wa : Int} {N : Nat} {z tl : Int} {fs ss sp la gr tp : List Int}
variable {to re : List Int}
set_option maxRecDepth 100000 in
set_option maxHeartbeats 4000000 in
theorem c_keptAfterVisits (hm : mOK p k f c n kp l nt w sh t d wa) (hB : thk B) {i g m : Nat} (hi : i < 7) (hg : g < 7) (hm2 : m ≤ 99) : aEv mX0_keptAfterVisits 5 0 0 N [.inr 96, .inl (i : Int), .inl (g : Int), .inl (m : Int)] [A0, (moSeg 32 k f c n kp l nt w sh (p : Int) t d wa), B, (miscSeg z fs ss sp la gr tl tp), B4, A5, C6] ((fun rv h => rv = some (.inl ((kpE p k f c n l t d i g kp m).getD g 0)) ∧ ∃ B2, thk B2 ∧ h = [A0, (moSeg 32 k f c n kp l nt w sh (p : Int) t d wa), B2, (miscSeg z fs ss sp la gr tl tp), B4, A5, C6])) := by
  obtain ⟨⟨hp7, hk, hf, hc, hn, hkp, hl, rk, rf, rc, rn, rkp, rl, ht0, ht1, hd0, hd1⟩, ⟨hnt, znt⟩, ⟨hw, zw, zwa⟩, ⟨hsh, zsh⟩⟩ := id hm
  have hle := mOK_hle hm
  obtain ⟨k0, f0, c0, n0, kp0, l0, nt0, w0, sh0, P0, t0, d0, wa0, hl0, rfl⟩ := hB
  have hnO : nOK p l nt := ⟨hnt, znt⟩
  refine aEv_of okX0_keptAfterVisits caX0_keptAfterVisits (Nat.le_of_ble_eq_true rfl) ?_
  have lp : ∀ (j x : Nat) (cv : Int) (w1 : List Int) (sh1 : List Int) (wa1 : Int), x + j = m → (w1.length = 7) → (sh1.length = 7) → (0 ≤ cv ∧ cv ≤ 35) → AW mX0_keptAfterVisits 5 0 0 N none (fun rv h => rv = some (.inl ((kpE p k f c n l t d i g kp m).getD g 0)) ∧ ∃ B2, thk B2 ∧ h = [A0, (moSeg 32 k f c n kp l nt w sh (p : Int) t d wa), B2, (miscSeg z fs ss sp la gr tl tp), B4, A5, C6]) (14, [some (.inr 96), some (.inl (i : Int)), some (.inl (g : Int)), some (.inl (m : Int)), some (.inl (x : Int)), none], [], [A0, (moSeg 32 k f c n kp l nt w sh (p : Int) t d wa), (moSeg 64 k f (c.set g cv) n (kpE p k f c n l t d i g kp x) l nt w1 sh1 (p : Int) t (d + (x : Int)) wa1), (miscSeg z fs ss sp la gr tl tp), B4, A5, C6]) := by
    intro j
    induction j with
    | zero =>
      intro x cv w1 sh1 wa1 hij q1 q2 q3
      obtain rfl : m = x := by omega
      have e0 : (kpE p k f c n l t d i g kp m).length = 7 := by rw [kpE_len]; exact hkp
      refine aGo okX0_keptAfterVisits 2 (f' := (17, [some (.inr 96), some (.inl (i : Int)), some (.inl (g : Int)), some (.inl (m : Int)), some (.inl (m : Int)), none], [.inl (m : Int), .inl (m : Int)], _)) rfl ?_
      refine b_ge (tgt := 90) okX0_keptAfterVisits rfl rfl ⟨by omega, by omega⟩ ⟨by omega, by omega⟩ (fun h17 => ?_) (fun h17 => absurd h17 (by omega))
      refine aGo okX0_keptAfterVisits 3 (f' := (95, [some (.inr 96), some (.inl (i : Int)), some (.inl (g : Int)), some (.inl (m : Int)), some (.inl (m : Int)), none], [.inl (g : Int), .inr 64], _)) rfl ?_
      refine b_vV (as := [.inl (g : Int)]) (rest := []) (k := 64) (.inl ((kpE p k f c n l t d i g kp m).getD g 0)) okX0_keptAfterVisits rfl lkX0_28 caX3_keptOf (Nat.le_of_ble_eq_true rfl) rfl (Nat.le_of_ble_eq_true rfl) rfl rfl rfl (c_keptOf_2 (i := g) (by first | omega | (simp only [List.length_set]; omega)) (by omega)) ?_
      exact b_ret (v := (some (.inl ((kpE p k f c n l t d i g kp m).getD g 0)))) ⟨rfl, Or.inl rfl⟩ ⟨rfl, _, thk_of ⟨hk, hf, (by rw [List.length_set]; exact hc), hn, (by rw [kpE_len]; exact hkp), hl, hnt, q1, q2⟩, rfl⟩ rfl
    | succ j ih =>
      intro x cv w1 sh1 wa1 hij q1 q2 q3
      refine aGo okX0_keptAfterVisits 2 (f' := (17, [some (.inr 96), some (.inl (i : Int)), some (.inl (g : Int)), some (.inl (m : Int)), some (.inl (x : Int)), none], [.inl (m : Int), .inl (x : Int)], _)) rfl ?_
      refine b_ge (tgt := 90) okX0_keptAfterVisits rfl rfl ⟨by omega, by omega⟩ ⟨by omega, by omega⟩ (fun h17 => absurd h17 (by omega)) (fun h17 => ?_)
      refine aGo okX0_keptAfterVisits 2 (f' := (24, [some (.inr 96), some (.inl (i : Int)), some (.inl (g : Int)), some (.inl (m : Int)), some (.inl (x : Int)), none], [.inr 64], _)) rfl ?_
      refine b_vV (as := []) (rest := []) (k := 64) (.inl (d + (x : Int))) okX0_keptAfterVisits rfl lkX0_35 caX3_day (Nat.le_of_ble_eq_true rfl) rfl (Nat.le_of_ble_eq_true rfl) rfl rfl rfl (c_day_2) ?_
      refine aGo okX0_keptAfterVisits 3 (f' := (31, [some (.inr 96), some (.inl (i : Int)), some (.inl (g : Int)), some (.inl (m : Int)), some (.inl (x : Int)), none], [.inl 7, .inl ((d + (x : Int)) + 1)], _)) rfl ?_
      refine b_rem okX0_keptAfterVisits rfl ⟨by omega, by omega⟩ ⟨by omega, by omega⟩ ?_
      refine aGo okX0_keptAfterVisits 1 (f' := (33, [some (.inr 96), some (.inl (i : Int)), some (.inl (g : Int)), some (.inl (m : Int)), some (.inl (x : Int)), none], [.inl 1, .inl (((d + (x : Int)) + 1) % 7)], _)) rfl ?_
      refine b_ne (tgt := 40) okX0_keptAfterVisits rfl rfl ⟨by omega, by omega⟩ ⟨by omega, by omega⟩ (fun h33 => ?_) (fun h33 => ?_)
      · refine aGo okX0_keptAfterVisits 6 (f' := (50, [some (.inr 96), some (.inl (i : Int)), some (.inl (g : Int)), some (.inl (m : Int)), some (.inl (x : Int)), some (.inl 0)], [.inl 0, .inl (g : Int), .inr 64], _)) rfl ?_
        refine b0_eq (tgt := 64) okX0_keptAfterVisits rfl rfl ⟨by omega, by omega⟩ (fun h50 => ?_) (fun h50 => absurd h50 (by omega))
        refine aGo okX0_keptAfterVisits 3 (f' := (69, [some (.inr 96), some (.inl (i : Int)), some (.inl (g : Int)), some (.inl (m : Int)), some (.inl (x : Int)), some (.inl 0)], [.inl (g : Int), .inr 32, .inl (g : Int), .inr 64], _)) rfl ?_
        refine b_vV (as := [.inl (g : Int)]) (rest := [.inl (g : Int), .inr 64]) (k := 32) (.inl (c.getD g 0)) okX0_keptAfterVisits rfl lkX0_38 caX3_cellOf (Nat.le_of_ble_eq_true rfl) rfl (Nat.le_of_ble_eq_true rfl) rfl rfl rfl (c_cellOf_1 (i := g) (by first | omega | (simp only [List.length_set]; omega)) (by omega)) ?_
        refine b_vE (as := [.inl (g : Int), .inl (c.getD g 0)]) (rest := []) (k := 64) okX0_keptAfterVisits rfl lkX0_41 caX3_place (Nat.le_of_ble_eq_true rfl) rfl (Nat.le_of_ble_eq_true rfl) rfl rfl rfl (c_place_2 ⟨hp7, hk, hf, (by rw [List.length_set]; exact hc), q1, q2, rk, rf, rng_set rc q3.1 q3.2, ht0, ht1⟩ (i := g) (by omega) (v := (c.getD g 0)) (rc _).1 (rc _).2) ?_
        rintro _ _ ⟨rfl, w2, sh2, zw2, zs2, rfl⟩
        rw [List.set_set] at zw2 zs2 ⊢
        have hvv : visC c d i g x = (c.getD g 0) := visC_f h33
        have hle2 := sOK_hle hp7 rf (rng_set rc (rc _).1 (rc _).2) rl ⟨ht0, ht1⟩ zs2 hnO
        refine aGo okX0_keptAfterVisits 3 (f' := (80, [some (.inr 96), some (.inl (i : Int)), some (.inl (g : Int)), some (.inl (m : Int)), some (.inl (x : Int)), some (.inl 0)], [.inl 1, .inr 64], _)) rfl ?_
        refine b_vV (as := [.inl 1]) (rest := []) (k := 64) (.inl (dayB p (hasL sh2 nt) n (kpE p k f c n l t d i g kp x) 1)) okX0_keptAfterVisits rfl lkX0_24 caX3_passDays (Nat.le_of_ble_eq_true rfl) rfl (Nat.le_of_ble_eq_true rfl) rfl rfl rfl (c_passDays_2 (m := 1) hp7 (by omega) (by rw [kpE_len]; exact hkp) hn zs2.1 hnt (kpE_rng rkp) rn hle2) ?_
        refine b_cast (f' := (83, [some (.inr 96), some (.inl (i : Int)), some (.inl (g : Int)), some (.inl (m : Int)), some (.inl (x : Int)), some (.inl 0)], [.inl (dayB p (hasL sh2 nt) n (kpE p k f c n l t d i g kp x) 1)], [A0, (moSeg 32 k f c n kp l nt w sh (p : Int) t d wa), (moSeg 64 k f (c.set g (c.getD g 0)) n (dayIt p (hasL sh2 nt) n 1 (kpE p k f c n l t d i g kp x)) l nt w2 sh2 (p : Int) t ((d + (x : Int)) + ((1 : Nat) : Int)) (wAll p k f (c.set g (c.getD g 0)))), (miscSeg z fs ss sp la gr tl tp), B4, A5, C6])) rfl ?_
        rw [kpE_day (kp := kp) hvv zs2 hnO]
        refine b_cast (f' := (83, [some (.inr 96), some (.inl (i : Int)), some (.inl (g : Int)), some (.inl (m : Int)), some (.inl (x : Int)), some (.inl 0)], [.inl (dayB p (hasL sh2 nt) n (kpE p k f c n l t d i g kp x) 1)], [A0, (moSeg 32 k f c n kp l nt w sh (p : Int) t d wa), (moSeg 64 k f (c.set g (c.getD g 0)) n (kpE p k f c n l t d i g kp (x + 1)) l nt w2 sh2 (p : Int) t (d + (((x + 1) : Nat) : Int)) (wAll p k f (c.set g (c.getD g 0)))), (miscSeg z fs ss sp la gr tl tp), B4, A5, C6])) (congrArg (fun q : Int => ((83, [some (.inr 96), some (.inl (i : Int)), some (.inl (g : Int)), some (.inl (m : Int)), some (.inl (x : Int)), some (.inl 0)], [.inl (dayB p (hasL sh2 nt) n (kpE p k f c n l t d i g kp x) 1)], [A0, (moSeg 32 k f c n kp l nt w sh (p : Int) t d wa), (moSeg 64 k f (c.set g (c.getD g 0)) n (kpE p k f c n l t d i g kp (x + 1)) l nt w2 sh2 (p : Int) t q (wAll p k f (c.set g (c.getD g 0)))), (miscSeg z fs ss sp la gr tl tp), B4, A5, C6]) : aF)) (show d + (x : Int) + ((1 : Nat) : Int) = d + ((x + 1 : Nat) : Int) by omega)) ?_
        refine aGo okX0_keptAfterVisits 3 (f' := (14, [some (.inr 96), some (.inl (i : Int)), some (.inl (g : Int)), some (.inl (m : Int)), some (.inl ((x : Int) + 1)), some (.inl 0)], [], _)) rfl ?_
        refine b_lose (ls' := [some (.inr 96), some (.inl (i : Int)), some (.inl (g : Int)), some (.inl (m : Int)), some (.inl ((x : Int) + 1)), none]) (lose5 _ _ _ _ _ _) ?_
        exact ih (x + 1) (c.getD g 0) w2 sh2 _ (by omega) zw2.1 zs2.1 (rc _)
      · refine aGo okX0_keptAfterVisits 7 (f' := (50, [some (.inr 96), some (.inl (i : Int)), some (.inl (g : Int)), some (.inl (m : Int)), some (.inl (x : Int)), some (.inl 1)], [.inl 1, .inl (g : Int), .inr 64], _)) rfl ?_
        refine b0_eq (tgt := 64) okX0_keptAfterVisits rfl rfl ⟨by omega, by omega⟩ (fun h50 => absurd h50 (by omega)) (fun h50 => ?_)
        refine aGo okX0_keptAfterVisits 3 (f' := (58, [some (.inr 96), some (.inl (i : Int)), some (.inl (g : Int)), some (.inl (m : Int)), some (.inl (x : Int)), some (.inl 1)], [.inl (i : Int), .inr 32, .inl (g : Int), .inr 64], _)) rfl ?_
        refine b_vV (as := [.inl (i : Int)]) (rest := [.inl (g : Int), .inr 64]) (k := 32) (.inl (c.getD i 0)) okX0_keptAfterVisits rfl lkX0_38 caX3_cellOf (Nat.le_of_ble_eq_true rfl) rfl (Nat.le_of_ble_eq_true rfl) rfl rfl rfl (c_cellOf_1 (i := i) (by first | omega | (simp only [List.length_set]; omega)) (by omega)) ?_
        refine aGo okX0_keptAfterVisits 1 (f' := (72, [some (.inr 96), some (.inl (i : Int)), some (.inl (g : Int)), some (.inl (m : Int)), some (.inl (x : Int)), some (.inl 1)], [.inl (c.getD i 0), .inl (g : Int), .inr 64], _)) rfl ?_
        refine b_vE (as := [.inl (g : Int), .inl (c.getD i 0)]) (rest := []) (k := 64) okX0_keptAfterVisits rfl lkX0_41 caX3_place (Nat.le_of_ble_eq_true rfl) rfl (Nat.le_of_ble_eq_true rfl) rfl rfl rfl (c_place_2 ⟨hp7, hk, hf, (by rw [List.length_set]; exact hc), q1, q2, rk, rf, rng_set rc q3.1 q3.2, ht0, ht1⟩ (i := g) (by omega) (v := (c.getD i 0)) (rc _).1 (rc _).2) ?_
        rintro _ _ ⟨rfl, w2, sh2, zw2, zs2, rfl⟩
        rw [List.set_set] at zw2 zs2 ⊢
        have hvv : visC c d i g x = (c.getD i 0) := visC_t h33
        have hle2 := sOK_hle hp7 rf (rng_set rc (rc _).1 (rc _).2) rl ⟨ht0, ht1⟩ zs2 hnO
        refine aGo okX0_keptAfterVisits 3 (f' := (80, [some (.inr 96), some (.inl (i : Int)), some (.inl (g : Int)), some (.inl (m : Int)), some (.inl (x : Int)), some (.inl 1)], [.inl 1, .inr 64], _)) rfl ?_
        refine b_vV (as := [.inl 1]) (rest := []) (k := 64) (.inl (dayB p (hasL sh2 nt) n (kpE p k f c n l t d i g kp x) 1)) okX0_keptAfterVisits rfl lkX0_24 caX3_passDays (Nat.le_of_ble_eq_true rfl) rfl (Nat.le_of_ble_eq_true rfl) rfl rfl rfl (c_passDays_2 (m := 1) hp7 (by omega) (by rw [kpE_len]; exact hkp) hn zs2.1 hnt (kpE_rng rkp) rn hle2) ?_
        refine b_cast (f' := (83, [some (.inr 96), some (.inl (i : Int)), some (.inl (g : Int)), some (.inl (m : Int)), some (.inl (x : Int)), some (.inl 1)], [.inl (dayB p (hasL sh2 nt) n (kpE p k f c n l t d i g kp x) 1)], [A0, (moSeg 32 k f c n kp l nt w sh (p : Int) t d wa), (moSeg 64 k f (c.set g (c.getD i 0)) n (dayIt p (hasL sh2 nt) n 1 (kpE p k f c n l t d i g kp x)) l nt w2 sh2 (p : Int) t ((d + (x : Int)) + ((1 : Nat) : Int)) (wAll p k f (c.set g (c.getD i 0)))), (miscSeg z fs ss sp la gr tl tp), B4, A5, C6])) rfl ?_
        rw [kpE_day (kp := kp) hvv zs2 hnO]
        refine b_cast (f' := (83, [some (.inr 96), some (.inl (i : Int)), some (.inl (g : Int)), some (.inl (m : Int)), some (.inl (x : Int)), some (.inl 1)], [.inl (dayB p (hasL sh2 nt) n (kpE p k f c n l t d i g kp x) 1)], [A0, (moSeg 32 k f c n kp l nt w sh (p : Int) t d wa), (moSeg 64 k f (c.set g (c.getD i 0)) n (kpE p k f c n l t d i g kp (x + 1)) l nt w2 sh2 (p : Int) t (d + (((x + 1) : Nat) : Int)) (wAll p k f (c.set g (c.getD i 0)))), (miscSeg z fs ss sp la gr tl tp), B4, A5, C6])) (congrArg (fun q : Int => ((83, [some (.inr 96), some (.inl (i : Int)), some (.inl (g : Int)), some (.inl (m : Int)), some (.inl (x : Int)), some (.inl 1)], [.inl (dayB p (hasL sh2 nt) n (kpE p k f c n l t d i g kp x) 1)], [A0, (moSeg 32 k f c n kp l nt w sh (p : Int) t d wa), (moSeg 64 k f (c.set g (c.getD i 0)) n (kpE p k f c n l t d i g kp (x + 1)) l nt w2 sh2 (p : Int) t q (wAll p k f (c.set g (c.getD i 0)))), (miscSeg z fs ss sp la gr tl tp), B4, A5, C6]) : aF)) (show d + (x : Int) + ((1 : Nat) : Int) = d + ((x + 1 : Nat) : Int) by omega)) ?_
        refine aGo okX0_keptAfterVisits 3 (f' := (14, [some (.inr 96), some (.inl (i : Int)), some (.inl (g : Int)), some (.inl (m : Int)), some (.inl ((x : Int) + 1)), some (.inl 1)], [], _)) rfl ?_
        refine b_lose (ls' := [some (.inr 96), some (.inl (i : Int)), some (.inl (g : Int)), some (.inl (m : Int)), some (.inl ((x : Int) + 1)), none]) (lose5 _ _ _ _ _ _) ?_
        exact ih (x + 1) (c.getD i 0) w2 sh2 _ (by omega) zw2.1 zs2.1 (rc _)
  refine aGo okX0_keptAfterVisits 4 (f' := (8, [some (.inr 96), some (.inl (i : Int)), some (.inl (g : Int)), some (.inl (m : Int)), none, none], [.inr 32, .inr 64], _)) rfl ?_
  refine b_vN (as := [.inr 32]) (rest := []) (k := 64) okX0_keptAfterVisits rfl lkX0_18 caX3_takeFrom (Nat.le_of_ble_eq_true rfl) rfl (Nat.le_of_ble_eq_true rfl) rfl rfl rfl (c_take_21 (mOK_lens hm) hl0) ?_
  refine b_cast (f' := (11, [some (.inr 96), some (.inl (i : Int)), some (.inl (g : Int)), some (.inl (m : Int)), none, none], [], [A0, (moSeg 32 k f c n kp l nt w sh (p : Int) t d wa), (moSeg 64 k f c n kp l nt w sh (p : Int) t d wa), (miscSeg z fs ss sp la gr tl tp), B4, A5, C6])) rfl ?_
  refine aGo okX0_keptAfterVisits 2 (f' := (14, [some (.inr 96), some (.inl (i : Int)), some (.inl (g : Int)), some (.inl (m : Int)), some (.inl 0), none], [], _)) rfl ?_
  refine b_cast (f' := (14, [some (.inr 96), some (.inl (i : Int)), some (.inl (g : Int)), some (.inl (m : Int)), some (.inl 0), none], [], [A0, (moSeg 32 k f c n kp l nt w sh (p : Int) t d wa), (moSeg 64 k f c n kp l nt w sh (p : Int) t (d + ((0 : Nat) : Int)) wa), (miscSeg z fs ss sp la gr tl tp), B4, A5, C6])) (congrArg (fun q : Int => ((14, [some (.inr 96), some (.inl (i : Int)), some (.inl (g : Int)), some (.inl (m : Int)), some (.inl 0), none], [], [A0, (moSeg 32 k f c n kp l nt w sh (p : Int) t d wa), (moSeg 64 k f c n kp l nt w sh (p : Int) t q wa), (miscSeg z fs ss sp la gr tl tp), B4, A5, C6]) : aF)) (show d = d + ((0 : Nat) : Int) by omega)) ?_
  have lp0 := lp m 0 (c.getD g 0) w sh wa (by omega) hw hsh (rc _)
  rw [set_self (by omega)] at lp0
  exact lp0
set_option maxRecDepth 100000 in
set_option maxHeartbeats 4000000 in
theorem c_firstMistold (hm : mOK p k f c n kp l nt w sh t d wa) (hB : thk B) {i m : Nat} (hi : i < 7) (hm2 : m ≤ 12) (hto : to.length = 12) (rto : rng to 99) : aEv mX0_firstMistold 3 0 0 N [.inr 96, .inl (i : Int), .inr 160, .inl (m : Int)] [A0, (moSeg 32 k f c n kp l nt w sh (p : Int) t d wa), B, (miscSeg z fs ss sp la gr tl tp), B4, (auxSeg to re), C6] ((fun rv h => rv = some (.inl (firstQ (fun j => !decide (min ((dayIt p (hasL sh nt) n j kp).getD i 0) 99 = to.getD j 0)) m 0)) ∧ ∃ B2, thk B2 ∧ h = [A0, (moSeg 32 k f c n kp l nt w sh (p : Int) t d wa), B2, (miscSeg z fs ss sp la gr tl tp), B4, (auxSeg to re), C6])) := by
  obtain ⟨⟨hp7, hk, hf, hc, hn, hkp, hl, rk, rf, rc, rn, rkp, rl, ht0, ht1, hd0, hd1⟩, ⟨hnt, znt⟩, ⟨hw, zw, zwa⟩, ⟨hsh, zsh⟩⟩ := id hm
  have hle := mOK_hle hm
  obtain ⟨k0, f0, c0, n0, kp0, l0, nt0, w0, sh0, P0, t0, d0, wa0, hl0, rfl⟩ := hB
  refine aEv_of okX0_firstMistold caX0_firstMistold (Nat.le_of_ble_eq_true rfl) ?_
  have lp : ∀ (j x : Nat), x + j = m → AW mX0_firstMistold 3 0 0 N none (fun rv h => rv = some (.inl (firstQ (fun j => !decide (min ((dayIt p (hasL sh nt) n j kp).getD i 0) 99 = to.getD j 0)) j x)) ∧ ∃ B2, thk B2 ∧ h = [A0, (moSeg 32 k f c n kp l nt w sh (p : Int) t d wa), B2, (miscSeg z fs ss sp la gr tl tp), B4, (auxSeg to re), C6]) (14, [some (.inr 96), some (.inl (i : Int)), some (.inr 160), some (.inl (m : Int)), some (.inl (x : Int))], [], [A0, (moSeg 32 k f c n kp l nt w sh (p : Int) t d wa), (moSeg 64 k f c n (dayIt p (hasL sh nt) n x kp) l nt w sh (p : Int) t (d + (x : Int)) wa), (miscSeg z fs ss sp la gr tl tp), B4, (auxSeg to re), C6]) := by
    intro j
    induction j with
    | zero =>
      intro x hij
      obtain rfl : m = x := by omega
      refine aGo okX0_firstMistold 2 (f' := (17, [some (.inr 96), some (.inl (i : Int)), some (.inr 160), some (.inl (m : Int)), some (.inl (m : Int))], [.inl (m : Int), .inl (m : Int)], _)) rfl ?_
      refine b_ge (tgt := 60) okX0_firstMistold rfl rfl ⟨by omega, by omega⟩ ⟨by omega, by omega⟩ (fun h17 => ?_) (fun h17 => absurd h17 (by omega))
      refine aGo okX0_firstMistold 1 (f' := (62, [some (.inr 96), some (.inl (i : Int)), some (.inr 160), some (.inl (m : Int)), some (.inl (m : Int))], [.inl (-9)], _)) rfl ?_
      exact b_ret (v := (some (.inl (-9)))) ⟨rfl, Or.inl rfl⟩ ⟨rfl, _, thk_of (by obtain ⟨a1, a2, a3, a4, a5, a6, a7, a8, a9⟩ := mOK_lens hm; exact ⟨a1, a2, a3, a4, by first | exact a5 | (rw [dayIt_len]; exact a5), a6, a7, a8, a9⟩), rfl⟩ rfl
    | succ j ih =>
      intro x hij
      have e0 : (dayIt p (hasL sh nt) n x kp).length = 7 := by rw [dayIt_len]; exact hkp
      have e1 := dayIt_rng (p := p) (has := (hasL sh nt)) (n := n) (m := x) rkp i
      have e2 := rto x
      refine aGo okX0_firstMistold 2 (f' := (17, [some (.inr 96), some (.inl (i : Int)), some (.inr 160), some (.inl (m : Int)), some (.inl (x : Int))], [.inl (m : Int), .inl (x : Int)], _)) rfl ?_
      refine b_ge (tgt := 60) okX0_firstMistold rfl rfl ⟨by omega, by omega⟩ ⟨by omega, by omega⟩ (fun h17 => absurd h17 (by omega)) (fun h17 => ?_)
      refine aGo okX0_firstMistold 3 (f' := (25, [some (.inr 96), some (.inl (i : Int)), some (.inr 160), some (.inl (m : Int)), some (.inl (x : Int))], [.inl (i : Int), .inr 64], _)) rfl ?_
      refine b_vV (as := [.inl (i : Int)]) (rest := []) (k := 64) (.inl ((dayIt p (hasL sh nt) n x kp).getD i 0)) okX0_firstMistold rfl lkX0_28 caX3_keptOf (Nat.le_of_ble_eq_true rfl) rfl (Nat.le_of_ble_eq_true rfl) rfl rfl rfl (c_keptOf_2 (i := i) (by first | omega | (simp only [List.length_set]; omega)) (by omega)) ?_
      refine aGo okX0_firstMistold 1 (f' := (30, [some (.inr 96), some (.inl (i : Int)), some (.inr 160), some (.inl (m : Int)), some (.inl (x : Int))], [.inl 99, .inl ((dayIt p (hasL sh nt) n x kp).getD i 0)], _)) rfl ?_
      refine b_min okX0_firstMistold rfl lkX0_45 ma_min_s ma_min_c (Nat.le_of_ble_eq_true rfl) (Nat.le_of_ble_eq_true rfl) ⟨by omega, by omega⟩ ⟨by omega, by omega⟩ ?_
      refine aGo okX0_firstMistold 2 (f' := (36, [some (.inr 96), some (.inl (i : Int)), some (.inr 160), some (.inl (m : Int)), some (.inl (x : Int))], [.inl (x : Int), .inr 160, .inl (min ((dayIt p (hasL sh nt) n x kp).getD i 0) 99)], _)) rfl ?_
      refine b_vV (as := [.inl (x : Int)]) (rest := [.inl (min ((dayIt p (hasL sh nt) n x kp).getD i 0) 99)]) (k := 160) (.inl (to.getD x 0)) okX0_firstMistold rfl lkX0_51 caX4_at (Nat.le_of_ble_eq_true rfl) rfl (Nat.le_of_ble_eq_true rfl) rfl rfl rfl (c_at (i := x) rfl rfl (by first | omega | (simp only [List.length_set]; omega)) (by omega)) ?_
      refine b_eq (tgt := 45) okX0_firstMistold rfl rfl ⟨by omega, by omega⟩ ⟨by omega, by omega⟩ (fun h39 => ?_) (fun h39 => ?_)
      · have hz : (fun j => !decide (min ((dayIt p (hasL sh nt) n j kp).getD i 0) 99 = to.getD j 0)) x = false := by simp only [decide_eq_true h39]; rfl
        rw [firstQ_f (P := (fun j => !decide (min ((dayIt p (hasL sh nt) n j kp).getD i 0) 99 = to.getD j 0))) hz]
        refine aGo okX0_firstMistold 3 (f' := (50, [some (.inr 96), some (.inl (i : Int)), some (.inr 160), some (.inl (m : Int)), some (.inl (x : Int))], [.inl 1, .inr 64], _)) rfl ?_
        refine b_vV (as := [.inl 1]) (rest := []) (k := 64) (.inl (dayB p (hasL sh nt) n (dayIt p (hasL sh nt) n x kp) 1)) okX0_firstMistold rfl lkX0_24 caX3_passDays (Nat.le_of_ble_eq_true rfl) rfl (Nat.le_of_ble_eq_true rfl) rfl rfl rfl (c_passDays_2 (m := 1) hp7 (by omega) (by rw [dayIt_len]; exact hkp) hn hsh hnt (dayIt_rng rkp) rn hle) ?_
        refine b_cast (f' := (53, [some (.inr 96), some (.inl (i : Int)), some (.inr 160), some (.inl (m : Int)), some (.inl (x : Int))], [.inl (dayB p (hasL sh nt) n (dayIt p (hasL sh nt) n x kp) 1)], [A0, (moSeg 32 k f c n kp l nt w sh (p : Int) t d wa), (moSeg 64 k f c n (dayIt p (hasL sh nt) n 1 (dayIt p (hasL sh nt) n x kp)) l nt w sh (p : Int) t ((d + (x : Int)) + ((1 : Nat) : Int)) wa), (miscSeg z fs ss sp la gr tl tp), B4, (auxSeg to re), C6])) rfl ?_
        refine b_cast (f' := (53, [some (.inr 96), some (.inl (i : Int)), some (.inr 160), some (.inl (m : Int)), some (.inl (x : Int))], [.inl (dayB p (hasL sh nt) n (dayIt p (hasL sh nt) n x kp) 1)], [A0, (moSeg 32 k f c n kp l nt w sh (p : Int) t d wa), (moSeg 64 k f c n (dayIt p (hasL sh nt) n (x + 1) kp) l nt w sh (p : Int) t (d + (((x + 1) : Nat) : Int)) wa), (miscSeg z fs ss sp la gr tl tp), B4, (auxSeg to re), C6])) (congrArg (fun q : Int => ((53, [some (.inr 96), some (.inl (i : Int)), some (.inr 160), some (.inl (m : Int)), some (.inl (x : Int))], [.inl (dayB p (hasL sh nt) n (dayIt p (hasL sh nt) n x kp) 1)], [A0, (moSeg 32 k f c n kp l nt w sh (p : Int) t d wa), (moSeg 64 k f c n (dayIt p (hasL sh nt) n (x + 1) kp) l nt w sh (p : Int) t q wa), (miscSeg z fs ss sp la gr tl tp), B4, (auxSeg to re), C6]) : aF)) (show d + (x : Int) + ((1 : Nat) : Int) = d + ((x + 1 : Nat) : Int) by omega)) ?_
        refine aGo okX0_firstMistold 3 (f' := (14, [some (.inr 96), some (.inl (i : Int)), some (.inr 160), some (.inl (m : Int)), some (.inl ((x : Int) + 1))], [], _)) rfl ?_
        exact ih (x + 1) (by omega)
      · have hz : (fun j => !decide (min ((dayIt p (hasL sh nt) n j kp).getD i 0) 99 = to.getD j 0)) x = true := by simp only [decide_eq_false h39]; rfl
        rw [firstQ_t (P := (fun j => !decide (min ((dayIt p (hasL sh nt) n j kp).getD i 0) 99 = to.getD j 0))) hz]
        refine aGo okX0_firstMistold 1 (f' := (44, [some (.inr 96), some (.inl (i : Int)), some (.inr 160), some (.inl (m : Int)), some (.inl (x : Int))], [.inl (x : Int)], _)) rfl ?_
        exact b_ret (v := (some (.inl (x : Int)))) ⟨rfl, Or.inl rfl⟩ ⟨rfl, _, thk_of (by obtain ⟨a1, a2, a3, a4, a5, a6, a7, a8, a9⟩ := mOK_lens hm; exact ⟨a1, a2, a3, a4, by first | exact a5 | (rw [dayIt_len]; exact a5), a6, a7, a8, a9⟩), rfl⟩ rfl
  refine aGo okX0_firstMistold 4 (f' := (8, [some (.inr 96), some (.inl (i : Int)), some (.inr 160), some (.inl (m : Int)), none], [.inr 32, .inr 64], _)) rfl ?_
  refine b_vN (as := [.inr 32]) (rest := []) (k := 64) okX0_firstMistold rfl lkX0_18 caX3_takeFrom (Nat.le_of_ble_eq_true rfl) rfl (Nat.le_of_ble_eq_true rfl) rfl rfl rfl (c_take_21 (mOK_lens hm) hl0) ?_
  refine b_cast (f' := (11, [some (.inr 96), some (.inl (i : Int)), some (.inr 160), some (.inl (m : Int)), none], [], [A0, (moSeg 32 k f c n kp l nt w sh (p : Int) t d wa), (moSeg 64 k f c n kp l nt w sh (p : Int) t d wa), (miscSeg z fs ss sp la gr tl tp), B4, (auxSeg to re), C6])) rfl ?_
  refine aGo okX0_firstMistold 2 (f' := (14, [some (.inr 96), some (.inl (i : Int)), some (.inr 160), some (.inl (m : Int)), some (.inl 0)], [], _)) rfl ?_
  refine b_cast (f' := (14, [some (.inr 96), some (.inl (i : Int)), some (.inr 160), some (.inl (m : Int)), some (.inl 0)], [], [A0, (moSeg 32 k f c n kp l nt w sh (p : Int) t d wa), (moSeg 64 k f c n kp l nt w sh (p : Int) t (d + ((0 : Nat) : Int)) wa), (miscSeg z fs ss sp la gr tl tp), B4, (auxSeg to re), C6])) (congrArg (fun q : Int => ((14, [some (.inr 96), some (.inl (i : Int)), some (.inr 160), some (.inl (m : Int)), some (.inl 0)], [], [A0, (moSeg 32 k f c n kp l nt w sh (p : Int) t d wa), (moSeg 64 k f c n kp l nt w sh (p : Int) t q wa), (miscSeg z fs ss sp la gr tl tp), B4, (auxSeg to re), C6]) : aF)) (show d = d + ((0 : Nat) : Int) by omega)) ?_
  exact lp m 0 (by omega)
end ADB
end
section
theorem lose7h (a0 a1 a2 a3 a4 a5 a6 a7 : Option aV) : ∀ (i : Nat) (v : aV), [a0, a1, a2, a3, a4, a5, a6, none][i]? = some (some v) → [a0, a1, a2, a3, a4, a5, a6, a7][i]? = some (some v) := by
  intro i v h
  match i, h with
  | 0, h => exact h
  | 1, h => exact h
  | 2, h => exact h
  | 3, h => exact h
  | 4, h => exact h
  | 5, h => exact h
  | 6, h => exact h
  | 7, h => cases h
  | i + 8, h => exact h
/-! OtherMoors, first half; laid by gen_other.py -/
def amy (F : Nat → Int) (z : Int × Int) : Nat → Int × Int
  | 0 => z
  | x + 1 => if (amy F z x).2 < F x then ((x : Int), F x) else amy F z x
theorem amy_t {F : Nat → Int} {z : Int × Int} {x : Nat} (h : (amy F z x).2 < F x) : amy F z (x + 1) = ((x : Int), F x) := if_pos h
theorem amy_f {F : Nat → Int} {z : Int × Int} {x : Nat} (h : F x ≤ (amy F z x).2) : amy F z (x + 1) = amy F z x := if_neg (by omega)
theorem amy_le {F : Nat → Int} {z : Int × Int} {a b : Int} {m : Nat} (hz : a ≤ z.2 ∧ z.2 ≤ b) (hF : ∀ x, x < m → a ≤ F x ∧ F x ≤ b) : ∀ x, x ≤ m → a ≤ (amy F z x).2 ∧ (amy F z x).2 ≤ b := by
  intro x
  induction x with
  | zero => intro _; exact hz
  | succ x ih =>
    intro hx
    simp only [amy]
    split
    · exact hF x (by omega)
    · exact ih (by omega)
theorem amy_nat {F : Nat → Int} {z : Int × Int} (hz : z.1 = 0) : ∀ x, ∃ y : Nat, (amy F z x).1 = (y : Int) ∧ (y < x ∨ y = 0) := by
  intro x
  induction x with
  | zero => exact ⟨0, hz, Or.inr rfl⟩
  | succ x ih =>
    simp only [amy]
    split
    · exact ⟨x, rfl, Or.inl (by omega)⟩
    · obtain ⟨y, h1, h2⟩ := ih
      exact ⟨y, h1, by omega⟩
/-- the least of all but one -/
def lsN (i : Nat) (S : Nat → Int) : Nat → Int
  | 0 => 999
  | q + 1 => if q = i then lsN i S q else min (lsN i S q) (S q)
theorem lsN_le {i : Nat} {S : Nat → Int} {p : Nat} (h : ∀ q, q < p → 0 ≤ S q ∧ S q ≤ 1000) : ∀ q, q ≤ p → 0 ≤ lsN i S q ∧ lsN i S q ≤ 999 := by
  intro q
  induction q with
  | zero => intro _; exact ⟨(by decide : (0 : Int) ≤ 999), (by decide : (999 : Int) ≤ 999)⟩
  | succ q ih =>
    intro hq
    have h1 := ih (by omega)
    have h2 := h q (by omega)
    simp only [lsN]
    split <;> omega
theorem lsN_congr {i : Nat} {S S' : Nat → Int} {p : Nat} (h : ∀ q, q < p → S q = S' q) : ∀ q, q ≤ p → lsN i S q = lsN i S' q := by
  intro q
  induction q with
  | zero => intro _; rfl
  | succ q ih => intro hq; simp only [lsN]; rw [ih (by omega), h q (by omega)]
/-- his number when another is gone -/
def nwI (g i : Nat) : Nat := if g < i then i - 1 else i
def wfN (i : Nat) (F : Nat → Int) : Nat → Int × Int
  | 0 => (-9, 0)
  | y + 1 => if y = i then wfN i F y else if (wfN i F y).1 = -9 ∨ (wfN i F y).2 < F y then ((y : Int), F y) else wfN i F y
theorem wfN_le {i : Nat} {F : Nat → Int} {p : Nat} (hF : ∀ x, x < p → -2000 ≤ F x ∧ F x ≤ 2000) : ∀ x, x ≤ p → -9 ≤ (wfN i F x).1 ∧ (wfN i F x).1 ≤ x ∧ -2000 ≤ (wfN i F x).2 ∧ (wfN i F x).2 ≤ 2000 := by
  intro x
  induction x with
  | zero => intro _; exact ⟨(by decide : (-9 : Int) ≤ -9), (by decide : (-9 : Int) ≤ 0), (by decide : (-2000 : Int) ≤ 0), (by decide : (0 : Int) ≤ 2000)⟩
  | succ x ih =>
    intro hx
    have h1 := ih (by omega)
    have h2 := hF x (by omega)
    simp only [wfN]
    split
    · omega
    · split
      · refine ⟨?_, ?_, ?_, ?_⟩ <;> simp only <;> omega
      · omega
def qcN (c : List Int) (i g : Nat) (K : Int) : Nat → Int × Int
  | 0 => (-9, 0)
  | v + 1 => if K < stp (v : Int) (c.getD g 0) ∧ ((qcN c i g K v).1 = -9 ∨ stp (c.getD i 0) (v : Int) < (qcN c i g K v).2) then ((v : Int), stp (c.getD i 0) (v : Int)) else qcN c i g K v
theorem qcN_le {c : List Int} (rc : rng c 35) {i g : Nat} {K : Int} : ∀ v, v ≤ 36 → -9 ≤ (qcN c i g K v).1 ∧ (qcN c i g K v).1 ≤ 36 ∧ 0 ≤ (qcN c i g K v).2 ∧ (qcN c i g K v).2 ≤ 10 := by
  intro v
  induction v with
  | zero => intro _; exact ⟨(by decide : (-9 : Int) ≤ -9), (by decide : (-9 : Int) ≤ 36), (by decide : (0 : Int) ≤ 0), (by decide : (0 : Int) ≤ 10)⟩
  | succ v ih =>
    intro hv
    have h1 := ih (by omega)
    have h2 := stp_le (rc i) (show 0 ≤ (v : Int) ∧ (v : Int) ≤ 35 by omega)
    simp only [qcN]
    split
    · refine ⟨?_, ?_, ?_, ?_⟩ <;> simp only <;> omega
    · omega
def mov (c : Int) : Nat → Int
  | 1 => if 6 ≤ c then c - 6 else c
  | 2 => if 0 < c % 6 then c - 1 else c
  | 3 => if c % 6 < 5 then c + 1 else c
  | 4 => if c + 6 < 36 then c + 6 else c
  | _ => c
theorem mov_le {c : Int} (h : 0 ≤ c ∧ c ≤ 35) (w : Nat) : 0 ≤ mov c w ∧ mov c w ≤ 35 := by
  unfold mov
  split
  all_goals first | omega | (split <;> omega)
section AOA
variable {A0 A3 B B2 B4 A5 C6 : List (Option aE)} {k f c n kp l nt w sh : List Int} {p : Nat} {t d wa : Int} {N : Nat} {z tl : Int} {fs ss sp la gr tp : List Int}
set_option maxRecDepth 100000 in
set_option maxHeartbeats 4000000 in
theorem c_shareIn (hm : mOK p k f c n kp l nt w sh t d wa) (hB : thk B) {i : Nat} (hi : i < p) {v : Int} (hv0 : 0 ≤ v) (hv1 : v ≤ 35) : aEv mX5_shareIn 5 0 0 N [.inr 97, .inl (i : Int), .inl v] [A0, (moSeg 32 k f c n kp l nt w sh (p : Int) t d wa), B, (miscSeg z fs ss sp la gr tl tp), B4, A5, C6] ((fun rv h => rv = some (.inl (shr p k f (c.set i v) t i)) ∧ ∃ B2, thk B2 ∧ h = [A0, (moSeg 32 k f c n kp l nt w sh (p : Int) t d wa), B2, (miscSeg z fs ss sp la gr tl tp), B4, A5, C6])) := by
  obtain ⟨⟨hp7, hk, hf, hc, hn, hkp, hl, rk, rf, rc, rn, rkp, rl, ht0, ht1, hd0, hd1⟩, ⟨hnt, znt⟩, ⟨hw, zw, zwa⟩, ⟨hsh, zsh⟩⟩ := id hm
  have hle := mOK_hle hm
  obtain ⟨k0, f0, c0, n0, kp0, l0, nt0, w0, sh0, P0, t0, d0, wa0, hl0, rfl⟩ := hB
  refine aEv_of okX5_shareIn caX5_shareIn (Nat.le_of_ble_eq_true rfl) ?_
  refine aGo okX5_shareIn 4 (f' := (8, [some (.inr 97), some (.inl (i : Int)), some (.inl v)], [.inr 32, .inr 64], _)) rfl ?_
  refine b_vN (as := [.inr 32]) (rest := []) (k := 64) okX5_shareIn rfl lkX5_37 caX3_takeFrom (Nat.le_of_ble_eq_true rfl) rfl (Nat.le_of_ble_eq_true rfl) rfl rfl rfl (c_take_21 (mOK_lens hm) hl0) ?_
  refine b_cast (f' := (11, [some (.inr 97), some (.inl (i : Int)), some (.inl v)], [], [A0, (moSeg 32 k f c n kp l nt w sh (p : Int) t d wa), (moSeg 64 k f c n kp l nt w sh (p : Int) t d wa), (miscSeg z fs ss sp la gr tl tp), B4, A5, C6])) rfl ?_
  refine aGo okX5_shareIn 4 (f' := (17, [some (.inr 97), some (.inl (i : Int)), some (.inl v)], [.inl v, .inl (i : Int), .inr 64], _)) rfl ?_
  refine b_vE (as := [.inl (i : Int), .inl v]) (rest := []) (k := 64) okX5_shareIn rfl lkX5_43 caX3_place (Nat.le_of_ble_eq_true rfl) rfl (Nat.le_of_ble_eq_true rfl) rfl rfl rfl (c_place_2 ⟨hp7, hk, hf, hc, hw, hsh, rk, rf, rc, ht0, ht1⟩ (i := i) (by omega) (v := v) (by omega) (by omega)) ?_
  rintro _ _ ⟨rfl, w2, sh2, zw2, zs2, rfl⟩
  refine aGo okX5_shareIn 3 (f' := (25, [some (.inr 97), some (.inl (i : Int)), some (.inl v)], [.inl (i : Int), .inr 64], _)) rfl ?_
  have e1 := zs2.1
  refine b_vV (as := [.inl (i : Int)]) (rest := []) (k := 64) (.inl (sh2.getD i 0)) okX5_shareIn rfl lkX5_47 caX3_shareOf (Nat.le_of_ble_eq_true rfl) rfl (Nat.le_of_ble_eq_true rfl) rfl rfl rfl (c_shareOf_2 (i := i) (by first | omega | (simp only [List.length_set]; omega)) (by omega)) ?_
  exact b_ret (v := (some (.inl (sh2.getD i 0)))) ⟨rfl, Or.inl rfl⟩ ⟨by rw [zs2.2 i hi], _, thk_of ⟨hk, hf, (by rw [List.length_set]; exact hc), hn, hkp, hl, hnt, zw2.1, zs2.1⟩, rfl⟩ rfl
set_option maxRecDepth 100000 in
set_option maxHeartbeats 4000000 in
theorem c_richestCell (hm : mOK p k f c n kp l nt w sh t d wa) (hB : thk B) {i : Nat} (hi : i < p) : aEv mX5_richestCell 5 0 0 N [.inr 97, .inl (i : Int)] [A0, (moSeg 32 k f c n kp l nt w sh (p : Int) t d wa), B, (miscSeg z fs ss sp la gr tl tp), B4, A5, C6] ((fun rv h => rv = some (.inl ((amy (fun (v : Nat) => shr p k f (c.set i (v : Int)) t i) (0, -1) 36).1)) ∧ ∃ B2, thk B2 ∧ h = [A0, (moSeg 32 k f c n kp l nt w sh (p : Int) t d wa), B2, (miscSeg z fs ss sp la gr tl tp), B4, A5, C6])) := by
  obtain ⟨⟨hp7, hk, hf, hc, hn, hkp, hl, rk, rf, rc, rn, rkp, rl, ht0, ht1, hd0, hd1⟩, ⟨hnt, znt⟩, ⟨hw, zw, zwa⟩, ⟨hsh, zsh⟩⟩ := id hm
  have hle := mOK_hle hm
  obtain ⟨k0, f0, c0, n0, kp0, l0, nt0, w0, sh0, P0, t0, d0, wa0, hl0, rfl⟩ := hB
  refine aEv_of okX5_richestCell caX5_richestCell (Nat.le_of_ble_eq_true rfl) ?_
  have hF : ∀ v : Nat, v < 36 → -1 ≤ (fun (v : Nat) => shr p k f (c.set i (v : Int)) t i) v ∧ (fun (v : Nat) => shr p k f (c.set i (v : Int)) t i) v ≤ 1000 := fun v hv => by
    have e := shr_le (p := p) (k := k) (c := c.set i (v : Int)) hp7 rf (rng_set rc (show 0 ≤ (v : Int) by omega) (by omega)) ⟨ht0, ht1⟩ hi
    show -1 ≤ shr p k f (c.set i (v : Int)) t i ∧ shr p k f (c.set i (v : Int)) t i ≤ 1000
    omega
  have lp : ∀ (j x : Nat) (cv : Int) (w1 : List Int) (sh1 : List Int) (wa1 : Int), x + j = 36 → (w1.length = 7) → (sh1.length = 7) → (0 ≤ cv ∧ cv ≤ 35) → AW mX5_richestCell 5 0 0 N none (fun rv h => rv = some (.inl ((amy (fun (v : Nat) => shr p k f (c.set i (v : Int)) t i) (0, -1) 36).1)) ∧ ∃ B2, thk B2 ∧ h = [A0, (moSeg 32 k f c n kp l nt w sh (p : Int) t d wa), B2, (miscSeg z fs ss sp la gr tl tp), B4, A5, C6]) (18, [some (.inr 97), some (.inl (i : Int)), some (.inl ((amy (fun (v : Nat) => shr p k f (c.set i (v : Int)) t i) (0, -1) x).1)), some (.inl ((amy (fun (v : Nat) => shr p k f (c.set i (v : Int)) t i) (0, -1) x).2)), some (.inl (x : Int))], [], [A0, (moSeg 32 k f c n kp l nt w sh (p : Int) t d wa), (moSeg 64 k f (c.set i cv) n kp l nt w1 sh1 (p : Int) t d wa1), (miscSeg z fs ss sp la gr tl tp), B4, A5, C6]) := by
    intro j
    induction j with
    | zero =>
      intro x cv w1 sh1 wa1 hij q1 q2 q3
      obtain rfl : 36 = x := by omega
      refine aGo okX5_richestCell 2 (f' := (22, [some (.inr 97), some (.inl (i : Int)), some (.inl ((amy (fun (v : Nat) => shr p k f (c.set i (v : Int)) t i) (0, -1) 36).1)), some (.inl ((amy (fun (v : Nat) => shr p k f (c.set i (v : Int)) t i) (0, -1) 36).2)), some (.inl (36 : Int))], [.inl 36, .inl (36 : Int)], _)) rfl ?_
      refine b_ge (tgt := 65) okX5_richestCell rfl rfl ⟨by omega, by omega⟩ ⟨by omega, by omega⟩ (fun h22 => ?_) (fun h22 => absurd h22 (by omega))
      refine aGo okX5_richestCell 1 (f' := (66, [some (.inr 97), some (.inl (i : Int)), some (.inl ((amy (fun (v : Nat) => shr p k f (c.set i (v : Int)) t i) (0, -1) 36).1)), some (.inl ((amy (fun (v : Nat) => shr p k f (c.set i (v : Int)) t i) (0, -1) 36).2)), some (.inl (36 : Int))], [.inl ((amy (fun (v : Nat) => shr p k f (c.set i (v : Int)) t i) (0, -1) 36).1)], _)) rfl ?_
      exact b_ret (v := (some (.inl ((amy (fun (v : Nat) => shr p k f (c.set i (v : Int)) t i) (0, -1) 36).1)))) ⟨rfl, Or.inl rfl⟩ ⟨rfl, _, thk_of ⟨hk, hf, (by rw [List.length_set]; exact hc), hn, hkp, hl, hnt, q1, q2⟩, rfl⟩ rfl
    | succ j ih =>
      intro x cv w1 sh1 wa1 hij q1 q2 q3
      have e0 := amy_le (F := (fun (v : Nat) => shr p k f (c.set i (v : Int)) t i)) (z := (0, -1)) (a := -1) (b := 1000) (m := 36) ⟨by decide, by decide⟩ hF x (by omega)
      refine aGo okX5_richestCell 2 (f' := (22, [some (.inr 97), some (.inl (i : Int)), some (.inl ((amy (fun (v : Nat) => shr p k f (c.set i (v : Int)) t i) (0, -1) x).1)), some (.inl ((amy (fun (v : Nat) => shr p k f (c.set i (v : Int)) t i) (0, -1) x).2)), some (.inl (x : Int))], [.inl 36, .inl (x : Int)], _)) rfl ?_
      refine b_ge (tgt := 65) okX5_richestCell rfl rfl ⟨by omega, by omega⟩ ⟨by omega, by omega⟩ (fun h22 => absurd h22 (by omega)) (fun h22 => ?_)
      refine aGo okX5_richestCell 4 (f' := (32, [some (.inr 97), some (.inl (i : Int)), some (.inl ((amy (fun (v : Nat) => shr p k f (c.set i (v : Int)) t i) (0, -1) x).1)), some (.inl ((amy (fun (v : Nat) => shr p k f (c.set i (v : Int)) t i) (0, -1) x).2)), some (.inl (x : Int))], [.inl (x : Int), .inl (i : Int), .inr 64], _)) rfl ?_
      refine b_vE (as := [.inl (i : Int), .inl (x : Int)]) (rest := []) (k := 64) okX5_richestCell rfl lkX5_43 caX3_place (Nat.le_of_ble_eq_true rfl) rfl (Nat.le_of_ble_eq_true rfl) rfl rfl rfl (c_place_2 ⟨hp7, hk, hf, (by rw [List.length_set]; exact hc), q1, q2, rk, rf, (rng_set rc q3.1 q3.2), ht0, ht1⟩ (i := i) (by omega) (v := (x : Int)) (by omega) (by omega)) ?_
      rintro _ _ ⟨rfl, w2, sh2, zw2, zs2, rfl⟩
      rw [List.set_set] at zw2 zs2 ⊢
      refine aGo okX5_richestCell 2 (f' := (39, [some (.inr 97), some (.inl (i : Int)), some (.inl ((amy (fun (v : Nat) => shr p k f (c.set i (v : Int)) t i) (0, -1) x).1)), some (.inl ((amy (fun (v : Nat) => shr p k f (c.set i (v : Int)) t i) (0, -1) x).2)), some (.inl (x : Int))], [.inr 64], _)) rfl ?_
      have e1 := zs2.1
      have e2 : sh2.getD i 0 = shr p k f (c.set i (x : Int)) t i := zs2.2 i hi
      have e3 := shr_le (k := k) (c := c.set i (x : Int)) hp7 rf (rng_set rc (show 0 ≤ (x : Int) by omega) (show (x : Int) ≤ 35 by omega)) ⟨ht0, ht1⟩ hi
      have e4 : 0 ≤ sh2.getD i 0 ∧ sh2.getD i 0 ≤ 1000 := by rw [e2]; exact e3
      refine aGo okX5_richestCell 1 (f' := (40, [some (.inr 97), some (.inl (i : Int)), some (.inl ((amy (fun (v : Nat) => shr p k f (c.set i (v : Int)) t i) (0, -1) x).1)), some (.inl ((amy (fun (v : Nat) => shr p k f (c.set i (v : Int)) t i) (0, -1) x).2)), some (.inl (x : Int))], [.inl (i : Int), .inr 64], _)) rfl ?_
      refine b_vV (as := [.inl (i : Int)]) (rest := []) (k := 64) (.inl (sh2.getD i 0)) okX5_richestCell rfl lkX5_47 caX3_shareOf (Nat.le_of_ble_eq_true rfl) rfl (Nat.le_of_ble_eq_true rfl) rfl rfl rfl (c_shareOf_2 (i := i) (by first | omega | (simp only [List.length_set]; omega)) (by omega)) ?_
      refine aGo okX5_richestCell 1 (f' := (44, [some (.inr 97), some (.inl (i : Int)), some (.inl ((amy (fun (v : Nat) => shr p k f (c.set i (v : Int)) t i) (0, -1) x).1)), some (.inl ((amy (fun (v : Nat) => shr p k f (c.set i (v : Int)) t i) (0, -1) x).2)), some (.inl (x : Int))], [.inl ((amy (fun (v : Nat) => shr p k f (c.set i (v : Int)) t i) (0, -1) x).2), .inl (sh2.getD i 0)], _)) rfl ?_
      refine b_le (tgt := 59) okX5_richestCell rfl rfl ⟨by omega, by omega⟩ ⟨by omega, by omega⟩ (fun h44 => ?_) (fun h44 => ?_)
      · refine aGo okX5_richestCell 2 (f' := (18, [some (.inr 97), some (.inl (i : Int)), some (.inl ((amy (fun (v : Nat) => shr p k f (c.set i (v : Int)) t i) (0, -1) x).1)), some (.inl ((amy (fun (v : Nat) => shr p k f (c.set i (v : Int)) t i) (0, -1) x).2)), some (.inl ((x : Int) + 1))], [], _)) rfl ?_
        refine b_cast (f' := (18, [some (.inr 97), some (.inl (i : Int)), some (.inl ((amy (fun (v : Nat) => shr p k f (c.set i (v : Int)) t i) (0, -1) (x + 1)).1)), some (.inl ((amy (fun (v : Nat) => shr p k f (c.set i (v : Int)) t i) (0, -1) (x + 1)).2)), some (.inl ((x : Int) + 1))], [], [A0, (moSeg 32 k f c n kp l nt w sh (p : Int) t d wa), (moSeg 64 k f (c.set i (x : Int)) n kp l nt w2 sh2 (p : Int) t d (wAll p k f (c.set i (x : Int)))), (miscSeg z fs ss sp la gr tl tp), B4, A5, C6])) (by rw [amy_f (F := (fun (v : Nat) => shr p k f (c.set i (v : Int)) t i)) (by rw [← e2]; omega)]) ?_
        exact ih (x + 1) (x : Int) w2 sh2 _ (by omega) zw2.1 zs2.1 (by omega)
      · refine aGo okX5_richestCell 3 (f' := (52, [some (.inr 97), some (.inl (i : Int)), some (.inl ((amy (fun (v : Nat) => shr p k f (c.set i (v : Int)) t i) (0, -1) x).1)), some (.inl ((amy (fun (v : Nat) => shr p k f (c.set i (v : Int)) t i) (0, -1) x).2)), some (.inl (x : Int))], [.inl (i : Int), .inr 64], _)) rfl ?_
        refine b_vV (as := [.inl (i : Int)]) (rest := []) (k := 64) (.inl (sh2.getD i 0)) okX5_richestCell rfl lkX5_47 caX3_shareOf (Nat.le_of_ble_eq_true rfl) rfl (Nat.le_of_ble_eq_true rfl) rfl rfl rfl (c_shareOf_2 (i := i) (by first | omega | (simp only [List.length_set]; omega)) (by omega)) ?_
        refine aGo okX5_richestCell 5 (f' := (18, [some (.inr 97), some (.inl (i : Int)), some (.inl (x : Int)), some (.inl (sh2.getD i 0)), some (.inl ((x : Int) + 1))], [], _)) rfl ?_
        refine b_cast (f' := (18, [some (.inr 97), some (.inl (i : Int)), some (.inl ((amy (fun (v : Nat) => shr p k f (c.set i (v : Int)) t i) (0, -1) (x + 1)).1)), some (.inl ((amy (fun (v : Nat) => shr p k f (c.set i (v : Int)) t i) (0, -1) (x + 1)).2)), some (.inl ((x : Int) + 1))], [], [A0, (moSeg 32 k f c n kp l nt w sh (p : Int) t d wa), (moSeg 64 k f (c.set i (x : Int)) n kp l nt w2 sh2 (p : Int) t d (wAll p k f (c.set i (x : Int)))), (miscSeg z fs ss sp la gr tl tp), B4, A5, C6])) (by rw [amy_t (F := (fun (v : Nat) => shr p k f (c.set i (v : Int)) t i)) (by rw [← e2]; omega), e2]) ?_
        exact ih (x + 1) (x : Int) w2 sh2 _ (by omega) zw2.1 zs2.1 (by omega)
  refine aGo okX5_richestCell 4 (f' := (8, [some (.inr 97), some (.inl (i : Int)), none, none, none], [.inr 32, .inr 64], _)) rfl ?_
  refine b_vN (as := [.inr 32]) (rest := []) (k := 64) okX5_richestCell rfl lkX5_37 caX3_takeFrom (Nat.le_of_ble_eq_true rfl) rfl (Nat.le_of_ble_eq_true rfl) rfl rfl rfl (c_take_21 (mOK_lens hm) hl0) ?_
  refine b_cast (f' := (11, [some (.inr 97), some (.inl (i : Int)), none, none, none], [], [A0, (moSeg 32 k f c n kp l nt w sh (p : Int) t d wa), (moSeg 64 k f c n kp l nt w sh (p : Int) t d wa), (miscSeg z fs ss sp la gr tl tp), B4, A5, C6])) rfl ?_
  refine aGo okX5_richestCell 6 (f' := (18, [some (.inr 97), some (.inl (i : Int)), some (.inl 0), some (.inl (-1)), some (.inl 0)], [], _)) rfl ?_
  have lp0 := lp 36 0 (c.getD i 0) w sh wa (by omega) hw hsh (rc _)
  rw [set_self (by omega)] at lp0
  exact lp0
set_option maxRecDepth 100000 in
set_option maxHeartbeats 4000000 in
theorem c_leastShareBeside {c1 w1 sh1 : List Int} {wa1 : Int} (hp7 : p ≤ 7) {i : Nat} (hi : i < 7) (hs1 : sh1.length = 7) (hsb : ∀ q, q < p → 0 ≤ sh1.getD q 0 ∧ sh1.getD q 0 ≤ 1000) : aEv mX5_leastShareBeside 2 0 0 N [.inr 97, .inl (i : Int)] [A0, (moSeg 32 k f c n kp l nt w sh (p : Int) t d wa), (moSeg 64 k f c1 n kp l nt w1 sh1 (p : Int) t d wa1), (miscSeg z fs ss sp la gr tl tp), B4, A5, C6] (aQx (some (.inl (lsN i (fun q => sh1.getD q 0) p))) [A0, (moSeg 32 k f c n kp l nt w sh (p : Int) t d wa), (moSeg 64 k f c1 n kp l nt w1 sh1 (p : Int) t d wa1), (miscSeg z fs ss sp la gr tl tp), B4, A5, C6]) := by
  refine aEv_of okX5_leastShareBeside caX5_leastShareBeside (Nat.le_of_ble_eq_true rfl) ?_
  have lp : ∀ (j x : Nat), x + j = p → AW mX5_leastShareBeside 2 0 0 N none (aQx (some (.inl (lsN i (fun q => sh1.getD q 0) p))) [A0, (moSeg 32 k f c n kp l nt w sh (p : Int) t d wa), (moSeg 64 k f c1 n kp l nt w1 sh1 (p : Int) t d wa1), (miscSeg z fs ss sp la gr tl tp), B4, A5, C6]) (6, [some (.inr 97), some (.inl (i : Int)), some (.inl (lsN i (fun q => sh1.getD q 0) x)), some (.inl (x : Int))], [], [A0, (moSeg 32 k f c n kp l nt w sh (p : Int) t d wa), (moSeg 64 k f c1 n kp l nt w1 sh1 (p : Int) t d wa1), (miscSeg z fs ss sp la gr tl tp), B4, A5, C6]) := by
    intro j
    induction j with
    | zero =>
      intro x  hij 
      obtain rfl : p = x := by omega
      refine aGo okX5_leastShareBeside 3 (f' := (11, [some (.inr 97), some (.inl (i : Int)), some (.inl (lsN i (fun q => sh1.getD q 0) p)), some (.inl (p : Int))], [.inr 64, .inl (p : Int)], _)) rfl ?_
      refine b_vV (as := []) (rest := [.inl (p : Int)]) (k := 64) (.inl (p : Int)) okX5_leastShareBeside rfl lkX5_54 caX3_people (Nat.le_of_ble_eq_true rfl) rfl (Nat.le_of_ble_eq_true rfl) rfl rfl rfl (c_people_2) ?_
      refine b_ge (tgt := 41) okX5_leastShareBeside rfl rfl ⟨by omega, by omega⟩ ⟨by omega, by omega⟩ (fun h14 => ?_) (fun h14 => absurd h14 (by omega))
      refine aGo okX5_leastShareBeside 1 (f' := (42, [some (.inr 97), some (.inl (i : Int)), some (.inl (lsN i (fun q => sh1.getD q 0) p)), some (.inl (p : Int))], [.inl (lsN i (fun q => sh1.getD q 0) p)], _)) rfl ?_
      exact b_ret (v := (some (.inl (lsN i (fun q => sh1.getD q 0) p)))) ⟨rfl, Or.inl rfl⟩ ⟨rfl, rfl⟩ rfl
    | succ j ih =>
      intro x  hij 
      have e0 := lsN_le (i := i) (S := fun q => sh1.getD q 0) (p := p) hsb x (by omega)
      have e1 := hsb x (by omega)
      refine aGo okX5_leastShareBeside 3 (f' := (11, [some (.inr 97), some (.inl (i : Int)), some (.inl (lsN i (fun q => sh1.getD q 0) x)), some (.inl (x : Int))], [.inr 64, .inl (x : Int)], _)) rfl ?_
      refine b_vV (as := []) (rest := [.inl (x : Int)]) (k := 64) (.inl (p : Int)) okX5_leastShareBeside rfl lkX5_54 caX3_people (Nat.le_of_ble_eq_true rfl) rfl (Nat.le_of_ble_eq_true rfl) rfl rfl rfl (c_people_2) ?_
      refine b_ge (tgt := 41) okX5_leastShareBeside rfl rfl ⟨by omega, by omega⟩ ⟨by omega, by omega⟩ (fun h14 => absurd h14 (by omega)) (fun h14 => ?_)
      refine aGo okX5_leastShareBeside 2 (f' := (19, [some (.inr 97), some (.inl (i : Int)), some (.inl (lsN i (fun q => sh1.getD q 0) x)), some (.inl (x : Int))], [.inl (i : Int), .inl (x : Int)], _)) rfl ?_
      refine b_eq (tgt := 35) okX5_leastShareBeside rfl rfl ⟨by omega, by omega⟩ ⟨by omega, by omega⟩ (fun h19 => ?_) (fun h19 => ?_)
      · refine aGo okX5_leastShareBeside 2 (f' := (6, [some (.inr 97), some (.inl (i : Int)), some (.inl (lsN i (fun q => sh1.getD q 0) x)), some (.inl ((x : Int) + 1))], [], _)) rfl ?_
        refine b_cast (f' := (6, [some (.inr 97), some (.inl (i : Int)), some (.inl (lsN i (fun q => sh1.getD q 0) (x + 1))), some (.inl ((x : Int) + 1))], [], [A0, (moSeg 32 k f c n kp l nt w sh (p : Int) t d wa), (moSeg 64 k f c1 n kp l nt w1 sh1 (p : Int) t d wa1), (miscSeg z fs ss sp la gr tl tp), B4, A5, C6])) (by simp only [lsN]; rw [if_pos (show x = i by omega)]) ?_
        exact ih (x + 1) (by omega)
      · refine aGo okX5_leastShareBeside 4 (f' := (28, [some (.inr 97), some (.inl (i : Int)), some (.inl (lsN i (fun q => sh1.getD q 0) x)), some (.inl (x : Int))], [.inl (x : Int), .inr 64, .inl (lsN i (fun q => sh1.getD q 0) x)], _)) rfl ?_
        refine b_vV (as := [.inl (x : Int)]) (rest := [.inl (lsN i (fun q => sh1.getD q 0) x)]) (k := 64) (.inl (sh1.getD x 0)) okX5_leastShareBeside rfl lkX5_47 caX3_shareOf (Nat.le_of_ble_eq_true rfl) rfl (Nat.le_of_ble_eq_true rfl) rfl rfl rfl (c_shareOf_2 (i := x) (by first | omega | (simp only [List.length_set]; omega)) (by omega)) ?_
        refine b_min okX5_leastShareBeside rfl lkX5_58 ma_min_s ma_min_c (Nat.le_of_ble_eq_true rfl) (Nat.le_of_ble_eq_true rfl) ⟨by omega, by omega⟩ ⟨by omega, by omega⟩ ?_
        refine aGo okX5_leastShareBeside 3 (f' := (6, [some (.inr 97), some (.inl (i : Int)), some (.inl (min (lsN i (fun q => sh1.getD q 0) x) (sh1.getD x 0))), some (.inl ((x : Int) + 1))], [], _)) rfl ?_
        refine b_cast (f' := (6, [some (.inr 97), some (.inl (i : Int)), some (.inl (lsN i (fun q => sh1.getD q 0) (x + 1))), some (.inl ((x : Int) + 1))], [], [A0, (moSeg 32 k f c n kp l nt w sh (p : Int) t d wa), (moSeg 64 k f c1 n kp l nt w1 sh1 (p : Int) t d wa1), (miscSeg z fs ss sp la gr tl tp), B4, A5, C6])) (by simp only [lsN]; rw [if_neg (show ¬ x = i by omega)]) ?_
        exact ih (x + 1) (by omega)
  refine aGo okX5_leastShareBeside 4 (f' := (6, [some (.inr 97), some (.inl (i : Int)), some (.inl 999), some (.inl 0)], [], _)) rfl ?_
  exact lp p 0 (by omega)
set_option maxRecDepth 100000 in
set_option maxHeartbeats 4000000 in
theorem c_kindCell (hm : mOK p k f c n kp l nt w sh t d wa) (hB : thk B) {i : Nat} (hi : i < p) : aEv mX5_kindCell 5 0 0 N [.inr 97, .inl (i : Int)] [A0, (moSeg 32 k f c n kp l nt w sh (p : Int) t d wa), B, (miscSeg z fs ss sp la gr tl tp), B4, A5, C6] ((fun rv h => rv = some (.inl ((amy (fun (v : Nat) => lsN i (shr p k f (c.set i (v : Int)) t) p) (0, -1) 36).1)) ∧ ∃ B2, thk B2 ∧ h = [A0, (moSeg 32 k f c n kp l nt w sh (p : Int) t d wa), B2, (miscSeg z fs ss sp la gr tl tp), B4, A5, C6])) := by
  obtain ⟨⟨hp7, hk, hf, hc, hn, hkp, hl, rk, rf, rc, rn, rkp, rl, ht0, ht1, hd0, hd1⟩, ⟨hnt, znt⟩, ⟨hw, zw, zwa⟩, ⟨hsh, zsh⟩⟩ := id hm
  have hle := mOK_hle hm
  obtain ⟨k0, f0, c0, n0, kp0, l0, nt0, w0, sh0, P0, t0, d0, wa0, hl0, rfl⟩ := hB
  refine aEv_of okX5_kindCell caX5_kindCell (Nat.le_of_ble_eq_true rfl) ?_
  have hF : ∀ v : Nat, v < 36 → -1 ≤ (fun (v : Nat) => lsN i (shr p k f (c.set i (v : Int)) t) p) v ∧ (fun (v : Nat) => lsN i (shr p k f (c.set i (v : Int)) t) p) v ≤ 1000 := fun v hv => by
    have e := lsN_le (i := i) (S := shr p k f (c.set i (v : Int)) t) (p := p) (fun q hq => shr_le (k := k) hp7 rf (rng_set rc (show 0 ≤ (v : Int) by omega) (by omega)) ⟨ht0, ht1⟩ hq) p (Nat.le_refl p)
    show -1 ≤ lsN i (shr p k f (c.set i (v : Int)) t) p ∧ lsN i (shr p k f (c.set i (v : Int)) t) p ≤ 1000
    omega
  have lp : ∀ (j x : Nat) (cv : Int) (w1 : List Int) (sh1 : List Int) (wa1 : Int), x + j = 36 → (w1.length = 7) → (sh1.length = 7) → (0 ≤ cv ∧ cv ≤ 35) → AW mX5_kindCell 5 0 0 N none (fun rv h => rv = some (.inl ((amy (fun (v : Nat) => lsN i (shr p k f (c.set i (v : Int)) t) p) (0, -1) 36).1)) ∧ ∃ B2, thk B2 ∧ h = [A0, (moSeg 32 k f c n kp l nt w sh (p : Int) t d wa), B2, (miscSeg z fs ss sp la gr tl tp), B4, A5, C6]) (18, [some (.inr 97), some (.inl (i : Int)), some (.inl ((amy (fun (v : Nat) => lsN i (shr p k f (c.set i (v : Int)) t) p) (0, -1) x).1)), some (.inl ((amy (fun (v : Nat) => lsN i (shr p k f (c.set i (v : Int)) t) p) (0, -1) x).2)), some (.inl (x : Int)), none], [], [A0, (moSeg 32 k f c n kp l nt w sh (p : Int) t d wa), (moSeg 64 k f (c.set i cv) n kp l nt w1 sh1 (p : Int) t d wa1), (miscSeg z fs ss sp la gr tl tp), B4, A5, C6]) := by
    intro j
    induction j with
    | zero =>
      intro x cv w1 sh1 wa1 hij q1 q2 q3
      obtain rfl : 36 = x := by omega
      refine aGo okX5_kindCell 2 (f' := (22, [some (.inr 97), some (.inl (i : Int)), some (.inl ((amy (fun (v : Nat) => lsN i (shr p k f (c.set i (v : Int)) t) p) (0, -1) 36).1)), some (.inl ((amy (fun (v : Nat) => lsN i (shr p k f (c.set i (v : Int)) t) p) (0, -1) 36).2)), some (.inl (36 : Int)), none], [.inl 36, .inl (36 : Int)], _)) rfl ?_
      refine b_ge (tgt := 60) okX5_kindCell rfl rfl ⟨by omega, by omega⟩ ⟨by omega, by omega⟩ (fun h22 => ?_) (fun h22 => absurd h22 (by omega))
      refine aGo okX5_kindCell 1 (f' := (61, [some (.inr 97), some (.inl (i : Int)), some (.inl ((amy (fun (v : Nat) => lsN i (shr p k f (c.set i (v : Int)) t) p) (0, -1) 36).1)), some (.inl ((amy (fun (v : Nat) => lsN i (shr p k f (c.set i (v : Int)) t) p) (0, -1) 36).2)), some (.inl (36 : Int)), none], [.inl ((amy (fun (v : Nat) => lsN i (shr p k f (c.set i (v : Int)) t) p) (0, -1) 36).1)], _)) rfl ?_
      exact b_ret (v := (some (.inl ((amy (fun (v : Nat) => lsN i (shr p k f (c.set i (v : Int)) t) p) (0, -1) 36).1)))) ⟨rfl, Or.inl rfl⟩ ⟨rfl, _, thk_of ⟨hk, hf, (by rw [List.length_set]; exact hc), hn, hkp, hl, hnt, q1, q2⟩, rfl⟩ rfl
    | succ j ih =>
      intro x cv w1 sh1 wa1 hij q1 q2 q3
      have e0 := amy_le (F := (fun (v : Nat) => lsN i (shr p k f (c.set i (v : Int)) t) p)) (z := (0, -1)) (a := -1) (b := 1000) (m := 36) ⟨by decide, by decide⟩ hF x (by omega)
      refine aGo okX5_kindCell 2 (f' := (22, [some (.inr 97), some (.inl (i : Int)), some (.inl ((amy (fun (v : Nat) => lsN i (shr p k f (c.set i (v : Int)) t) p) (0, -1) x).1)), some (.inl ((amy (fun (v : Nat) => lsN i (shr p k f (c.set i (v : Int)) t) p) (0, -1) x).2)), some (.inl (x : Int)), none], [.inl 36, .inl (x : Int)], _)) rfl ?_
      refine b_ge (tgt := 60) okX5_kindCell rfl rfl ⟨by omega, by omega⟩ ⟨by omega, by omega⟩ (fun h22 => absurd h22 (by omega)) (fun h22 => ?_)
      refine aGo okX5_kindCell 4 (f' := (32, [some (.inr 97), some (.inl (i : Int)), some (.inl ((amy (fun (v : Nat) => lsN i (shr p k f (c.set i (v : Int)) t) p) (0, -1) x).1)), some (.inl ((amy (fun (v : Nat) => lsN i (shr p k f (c.set i (v : Int)) t) p) (0, -1) x).2)), some (.inl (x : Int)), none], [.inl (x : Int), .inl (i : Int), .inr 64], _)) rfl ?_
      refine b_vE (as := [.inl (i : Int), .inl (x : Int)]) (rest := []) (k := 64) okX5_kindCell rfl lkX5_43 caX3_place (Nat.le_of_ble_eq_true rfl) rfl (Nat.le_of_ble_eq_true rfl) rfl rfl rfl (c_place_2 ⟨hp7, hk, hf, (by rw [List.length_set]; exact hc), q1, q2, rk, rf, (rng_set rc q3.1 q3.2), ht0, ht1⟩ (i := i) (by omega) (v := (x : Int)) (by omega) (by omega)) ?_
      rintro _ _ ⟨rfl, w2, sh2, zw2, zs2, rfl⟩
      rw [List.set_set] at zw2 zs2 ⊢
      have e4 : ∀ q, q < p → 0 ≤ sh2.getD q 0 ∧ sh2.getD q 0 ≤ 1000 := fun q hq => by rw [zs2.2 q hq]; exact shr_le (k := k) hp7 rf (rng_set rc (show 0 ≤ (x : Int) by omega) (show (x : Int) ≤ 35 by omega)) ⟨ht0, ht1⟩ hq
      have e2 : lsN i (fun q => sh2.getD q 0) p = lsN i (shr p k f (c.set i (x : Int)) t) p := lsN_congr zs2.2 p (Nat.le_refl p)
      have e5 := lsN_le (i := i) (S := fun q => sh2.getD q 0) (p := p) e4 p (Nat.le_refl p)
      refine aGo okX5_kindCell 2 (f' := (37, [some (.inr 97), some (.inl (i : Int)), some (.inl ((amy (fun (v : Nat) => lsN i (shr p k f (c.set i (v : Int)) t) p) (0, -1) x).1)), some (.inl ((amy (fun (v : Nat) => lsN i (shr p k f (c.set i (v : Int)) t) p) (0, -1) x).2)), some (.inl (x : Int)), none], [.inl (i : Int), .inr 97], _)) rfl ?_
      refine b_vV (as := [.inl (i : Int)]) (rest := []) (k := 97) (.inl (lsN i (fun q => sh2.getD q 0) p)) okX5_kindCell rfl lkX5_51 caX5_leastShareBeside (Nat.le_of_ble_eq_true rfl) rfl (Nat.le_of_ble_eq_true rfl) rfl rfl rfl (c_leastShareBeside hp7 (by omega) zs2.1 e4) ?_
      refine aGo okX5_kindCell 3 (f' := (45, [some (.inr 97), some (.inl (i : Int)), some (.inl ((amy (fun (v : Nat) => lsN i (shr p k f (c.set i (v : Int)) t) p) (0, -1) x).1)), some (.inl ((amy (fun (v : Nat) => lsN i (shr p k f (c.set i (v : Int)) t) p) (0, -1) x).2)), some (.inl (x : Int)), some (.inl (lsN i (fun q => sh2.getD q 0) p))], [.inl ((amy (fun (v : Nat) => lsN i (shr p k f (c.set i (v : Int)) t) p) (0, -1) x).2), .inl (lsN i (fun q => sh2.getD q 0) p)], _)) rfl ?_
      refine b_le (tgt := 54) okX5_kindCell rfl rfl ⟨by omega, by omega⟩ ⟨by omega, by omega⟩ (fun h45 => ?_) (fun h45 => ?_)
      · refine aGo okX5_kindCell 2 (f' := (18, [some (.inr 97), some (.inl (i : Int)), some (.inl ((amy (fun (v : Nat) => lsN i (shr p k f (c.set i (v : Int)) t) p) (0, -1) x).1)), some (.inl ((amy (fun (v : Nat) => lsN i (shr p k f (c.set i (v : Int)) t) p) (0, -1) x).2)), some (.inl ((x : Int) + 1)), some (.inl (lsN i (fun q => sh2.getD q 0) p))], [], _)) rfl ?_
        refine b_cast (f' := (18, [some (.inr 97), some (.inl (i : Int)), some (.inl ((amy (fun (v : Nat) => lsN i (shr p k f (c.set i (v : Int)) t) p) (0, -1) (x + 1)).1)), some (.inl ((amy (fun (v : Nat) => lsN i (shr p k f (c.set i (v : Int)) t) p) (0, -1) (x + 1)).2)), some (.inl ((x : Int) + 1)), some (.inl (lsN i (fun q => sh2.getD q 0) p))], [], [A0, (moSeg 32 k f c n kp l nt w sh (p : Int) t d wa), (moSeg 64 k f (c.set i (x : Int)) n kp l nt w2 sh2 (p : Int) t d (wAll p k f (c.set i (x : Int)))), (miscSeg z fs ss sp la gr tl tp), B4, A5, C6])) (by rw [amy_f (F := (fun (v : Nat) => lsN i (shr p k f (c.set i (v : Int)) t) p)) (by rw [← e2]; omega)]) ?_
        refine b_lose (ls' := [some (.inr 97), some (.inl (i : Int)), some (.inl ((amy (fun (v : Nat) => lsN i (shr p k f (c.set i (v : Int)) t) p) (0, -1) (x + 1)).1)), some (.inl ((amy (fun (v : Nat) => lsN i (shr p k f (c.set i (v : Int)) t) p) (0, -1) (x + 1)).2)), some (.inl ((x : Int) + 1)), none]) (lose5 _ _ _ _ _ _) ?_
        exact ih (x + 1) (x : Int) w2 sh2 _ (by omega) zw2.1 zs2.1 (by omega)
      · refine aGo okX5_kindCell 6 (f' := (18, [some (.inr 97), some (.inl (i : Int)), some (.inl (x : Int)), some (.inl (lsN i (fun q => sh2.getD q 0) p)), some (.inl ((x : Int) + 1)), some (.inl (lsN i (fun q => sh2.getD q 0) p))], [], _)) rfl ?_
        refine b_cast (f' := (18, [some (.inr 97), some (.inl (i : Int)), some (.inl ((amy (fun (v : Nat) => lsN i (shr p k f (c.set i (v : Int)) t) p) (0, -1) (x + 1)).1)), some (.inl ((amy (fun (v : Nat) => lsN i (shr p k f (c.set i (v : Int)) t) p) (0, -1) (x + 1)).2)), some (.inl ((x : Int) + 1)), some (.inl (lsN i (fun q => sh2.getD q 0) p))], [], [A0, (moSeg 32 k f c n kp l nt w sh (p : Int) t d wa), (moSeg 64 k f (c.set i (x : Int)) n kp l nt w2 sh2 (p : Int) t d (wAll p k f (c.set i (x : Int)))), (miscSeg z fs ss sp la gr tl tp), B4, A5, C6])) (by rw [amy_t (F := (fun (v : Nat) => lsN i (shr p k f (c.set i (v : Int)) t) p)) (by rw [← e2]; omega), e2]) ?_
        refine b_lose (ls' := [some (.inr 97), some (.inl (i : Int)), some (.inl ((amy (fun (v : Nat) => lsN i (shr p k f (c.set i (v : Int)) t) p) (0, -1) (x + 1)).1)), some (.inl ((amy (fun (v : Nat) => lsN i (shr p k f (c.set i (v : Int)) t) p) (0, -1) (x + 1)).2)), some (.inl ((x : Int) + 1)), none]) (lose5 _ _ _ _ _ _) ?_
        exact ih (x + 1) (x : Int) w2 sh2 _ (by omega) zw2.1 zs2.1 (by omega)
  refine aGo okX5_kindCell 4 (f' := (8, [some (.inr 97), some (.inl (i : Int)), none, none, none, none], [.inr 32, .inr 64], _)) rfl ?_
  refine b_vN (as := [.inr 32]) (rest := []) (k := 64) okX5_kindCell rfl lkX5_37 caX3_takeFrom (Nat.le_of_ble_eq_true rfl) rfl (Nat.le_of_ble_eq_true rfl) rfl rfl rfl (c_take_21 (mOK_lens hm) hl0) ?_
  refine b_cast (f' := (11, [some (.inr 97), some (.inl (i : Int)), none, none, none, none], [], [A0, (moSeg 32 k f c n kp l nt w sh (p : Int) t d wa), (moSeg 64 k f c n kp l nt w sh (p : Int) t d wa), (miscSeg z fs ss sp la gr tl tp), B4, A5, C6])) rfl ?_
  refine aGo okX5_kindCell 6 (f' := (18, [some (.inr 97), some (.inl (i : Int)), some (.inl 0), some (.inl (-1)), some (.inl 0), none], [], _)) rfl ?_
  have lp0 := lp 36 0 (c.getD i 0) w sh wa (by omega) hw hsh (rc _)
  rw [set_self (by omega)] at lp0
  exact lp0
set_option maxRecDepth 100000 in
set_option maxHeartbeats 4000000 in
theorem c_sharesBeside (hm : mOK p k f c n kp l nt w sh t d wa) (hB : thk B) (hp6 : p ≤ 6) {v : Int} (hv0 : 0 ≤ v) (hv1 : v ≤ 35) : aEv mX5_sharesBesideOneMoreIn 5 0 0 N [.inr 97, .inl v] [A0, (moSeg 32 k f c n kp l nt w sh (p : Int) t d wa), B, (miscSeg z fs ss sp la gr tl tp), B4, A5, C6] ((fun rv h => rv = some (.inl (t - shr (p + 1) (k.set p 0) (f.set p 0) (c.set p v) t p)) ∧ ∃ B2, thk B2 ∧ h = [A0, (moSeg 32 k f c n kp l nt w sh (p : Int) t d wa), B2, (miscSeg z fs ss sp la gr tl tp), B4, A5, C6])) := by
  obtain ⟨⟨hp7, hk, hf, hc, hn, hkp, hl, rk, rf, rc, rn, rkp, rl, ht0, ht1, hd0, hd1⟩, ⟨hnt, znt⟩, ⟨hw, zw, zwa⟩, ⟨hsh, zsh⟩⟩ := id hm
  have hle := mOK_hle hm
  obtain ⟨k0, f0, c0, n0, kp0, l0, nt0, w0, sh0, P0, t0, d0, wa0, hl0, rfl⟩ := hB
  refine aEv_of okX5_sharesBesideOneMoreIn caX5_sharesBesideOneMoreIn (Nat.le_of_ble_eq_true rfl) ?_
  refine aGo okX5_sharesBesideOneMoreIn 4 (f' := (8, [some (.inr 97), some (.inl v)], [.inr 32, .inr 64], _)) rfl ?_
  refine b_vN (as := [.inr 32]) (rest := []) (k := 64) okX5_sharesBesideOneMoreIn rfl lkX5_37 caX3_takeFrom (Nat.le_of_ble_eq_true rfl) rfl (Nat.le_of_ble_eq_true rfl) rfl rfl rfl (c_take_21 (mOK_lens hm) hl0) ?_
  refine b_cast (f' := (11, [some (.inr 97), some (.inl v)], [], [A0, (moSeg 32 k f c n kp l nt w sh (p : Int) t d wa), (moSeg 64 k f c n kp l nt w sh (p : Int) t d wa), (miscSeg z fs ss sp la gr tl tp), B4, A5, C6])) rfl ?_
  refine aGo okX5_sharesBesideOneMoreIn 6 (f' := (19, [some (.inr 97), some (.inl v)], [.inl 0, .inl v, .inl 0, .inl 0, .inr 64], _)) rfl ?_
  refine b_vE (as := [.inl 0, .inl 0, .inl v, .inl 0]) (rest := []) (k := 64) okX5_sharesBesideOneMoreIn rfl lkX5_73 caX3_add (Nat.le_of_ble_eq_true rfl) rfl (Nat.le_of_ble_eq_true rfl) rfl rfl rfl (c_add_2 (mOK_wH hm) hp6 hn hkp hl hnt ⟨by decide, by decide⟩ ⟨by decide, by decide⟩ ⟨hv0, hv1⟩) ?_
  rintro _ _ ⟨rfl, nt2, w2, sh2, zn2, zw2, zs2, rfl⟩
  refine aGo okX5_sharesBesideOneMoreIn 2 (f' := (26, [some (.inr 97), some (.inl v)], [.inr 64], _)) rfl ?_
  refine b_vV (as := []) (rest := []) (k := 64) (.inl t) okX5_sharesBesideOneMoreIn rfl lkX5_77 caX3_total (Nat.le_of_ble_eq_true rfl) rfl (Nat.le_of_ble_eq_true rfl) rfl rfl rfl (c_total_2) ?_
  refine aGo okX5_sharesBesideOneMoreIn 2 (f' := (33, [some (.inr 97), some (.inl v)], [.inr 64, .inl t], _)) rfl ?_
  have e1 := zs2.1
  refine aGo okX5_sharesBesideOneMoreIn 2 (f' := (37, [some (.inr 97), some (.inl v)], [.inr 32, .inr 64, .inl t], _)) rfl ?_
  refine b_vV (as := []) (rest := [.inr 64, .inl t]) (k := 32) (.inl (p : Int)) okX5_sharesBesideOneMoreIn rfl lkX5_54 caX3_people (Nat.le_of_ble_eq_true rfl) rfl (Nat.le_of_ble_eq_true rfl) rfl rfl rfl (c_people_1) ?_
  refine b_vV (as := [.inl (p : Int)]) (rest := [.inl t]) (k := 64) (.inl (sh2.getD p 0)) okX5_sharesBesideOneMoreIn rfl lkX5_47 caX3_shareOf (Nat.le_of_ble_eq_true rfl) rfl (Nat.le_of_ble_eq_true rfl) rfl rfl rfl (c_shareOf_2 (i := p) (by first | omega | (simp only [List.length_set]; omega)) (by omega)) ?_
  refine aGo okX5_sharesBesideOneMoreIn 1 (f' := (44, [some (.inr 97), some (.inl v)], [.inl (t - (sh2.getD p 0))], _)) rfl ?_
  exact b_ret (v := (some (.inl (t - (sh2.getD p 0))))) ⟨rfl, Or.inl rfl⟩ ⟨by rw [zs2.2 p (by omega)], _, thk_of ⟨by rw [List.length_set]; exact hk, by rw [List.length_set]; exact hf, by rw [List.length_set]; exact hc, by rw [List.length_set]; exact hn, by rw [List.length_set]; exact hkp, by rw [addL_len]; exact hl, zn2.1, zw2.1, zs2.1⟩, rfl⟩ rfl
set_option maxRecDepth 100000 in
set_option maxHeartbeats 4000000 in
theorem c_bestSurveyCell (hm : mOK p k f c n kp l nt w sh t d wa) (hB : thk B) (hp6 : p ≤ 6) : aEv mX5_bestSurveyCell 6 0 0 N [.inr 97] [A0, (moSeg 32 k f c n kp l nt w sh (p : Int) t d wa), B, (miscSeg z fs ss sp la gr tl tp), B4, A5, C6] ((fun rv h => rv = some (.inl ((amy (fun (v : Nat) => t - shr (p + 1) (k.set p 0) (f.set p 0) (c.set p (v : Int)) t p) (0, -1) 36).1)) ∧ ∃ B2, thk B2 ∧ h = [A0, (moSeg 32 k f c n kp l nt w sh (p : Int) t d wa), B2, (miscSeg z fs ss sp la gr tl tp), B4, A5, C6])) := by
  obtain ⟨⟨hp7, hk, hf, hc, hn, hkp, hl, rk, rf, rc, rn, rkp, rl, ht0, ht1, hd0, hd1⟩, ⟨hnt, znt⟩, ⟨hw, zw, zwa⟩, ⟨hsh, zsh⟩⟩ := id hm
  refine aEv_of okX5_bestSurveyCell caX5_bestSurveyCell (Nat.le_of_ble_eq_true rfl) ?_
  have hF : ∀ v : Nat, v < 36 → -1001 ≤ t - shr (p + 1) (k.set p 0) (f.set p 0) (c.set p (v : Int)) t p ∧ t - shr (p + 1) (k.set p 0) (f.set p 0) (c.set p (v : Int)) t p ≤ 1000 := fun v hv => by
    have e := shr_le (p := p + 1) (k := k.set p 0) (f := f.set p 0) (c := c.set p (v : Int)) (t := t) (q := p) (by omega) (rng_set rf (Int.le_refl 0) (by omega)) (rng_set rc (show 0 ≤ (v : Int) by omega) (show (v : Int) ≤ 35 by omega)) ⟨ht0, ht1⟩ (by omega)
    omega
  have lp : ∀ (j x : Nat) (B1 : List (Option aE)), x + j = 36 → (thk B1) → AW mX5_bestSurveyCell 6 0 0 N none (fun rv h => rv = some (.inl ((amy (fun (v : Nat) => t - shr (p + 1) (k.set p 0) (f.set p 0) (c.set p (v : Int)) t p) (0, -1) 36).1)) ∧ ∃ B2, thk B2 ∧ h = [A0, (moSeg 32 k f c n kp l nt w sh (p : Int) t d wa), B2, (miscSeg z fs ss sp la gr tl tp), B4, A5, C6]) (6, [some (.inr 97), some (.inl ((amy (fun (v : Nat) => t - shr (p + 1) (k.set p 0) (f.set p 0) (c.set p (v : Int)) t p) (0, -1) x).1)), some (.inl ((amy (fun (v : Nat) => t - shr (p + 1) (k.set p 0) (f.set p 0) (c.set p (v : Int)) t p) (0, -1) x).2)), some (.inl (x : Int)), none], [], [A0, (moSeg 32 k f c n kp l nt w sh (p : Int) t d wa), B1, (miscSeg z fs ss sp la gr tl tp), B4, A5, C6]) := by
    intro j
    induction j with
    | zero =>
      intro x B1 hij hB1
      obtain rfl : 36 = x := by omega
      refine aGo okX5_bestSurveyCell 2 (f' := (9, [some (.inr 97), some (.inl ((amy (fun (v : Nat) => t - shr (p + 1) (k.set p 0) (f.set p 0) (c.set p (v : Int)) t p) (0, -1) 36).1)), some (.inl ((amy (fun (v : Nat) => t - shr (p + 1) (k.set p 0) (f.set p 0) (c.set p (v : Int)) t p) (0, -1) 36).2)), some (.inl (36 : Int)), none], [.inl 36, .inl (36 : Int)], _)) rfl ?_
      refine b_ge (tgt := 36) okX5_bestSurveyCell rfl rfl ⟨by omega, by omega⟩ ⟨by omega, by omega⟩ (fun h9 => ?_) (fun h9 => absurd h9 (by omega))
      refine aGo okX5_bestSurveyCell 1 (f' := (37, [some (.inr 97), some (.inl ((amy (fun (v : Nat) => t - shr (p + 1) (k.set p 0) (f.set p 0) (c.set p (v : Int)) t p) (0, -1) 36).1)), some (.inl ((amy (fun (v : Nat) => t - shr (p + 1) (k.set p 0) (f.set p 0) (c.set p (v : Int)) t p) (0, -1) 36).2)), some (.inl (36 : Int)), none], [.inl ((amy (fun (v : Nat) => t - shr (p + 1) (k.set p 0) (f.set p 0) (c.set p (v : Int)) t p) (0, -1) 36).1)], _)) rfl ?_
      exact b_ret (v := (some (.inl ((amy (fun (v : Nat) => t - shr (p + 1) (k.set p 0) (f.set p 0) (c.set p (v : Int)) t p) (0, -1) 36).1)))) ⟨rfl, Or.inl rfl⟩ ⟨rfl, B1, hB1, rfl⟩ rfl
    | succ j ih =>
      intro x B1 hij hB1
      have e6 := hF x (by omega)
      have e0 := amy_le (F := (fun (v : Nat) => t - shr (p + 1) (k.set p 0) (f.set p 0) (c.set p (v : Int)) t p)) (z := (0, -1)) (a := -1001) (b := 1000) (m := 36) ⟨by decide, by decide⟩ hF x (by omega)
      refine aGo okX5_bestSurveyCell 2 (f' := (9, [some (.inr 97), some (.inl ((amy (fun (v : Nat) => t - shr (p + 1) (k.set p 0) (f.set p 0) (c.set p (v : Int)) t p) (0, -1) x).1)), some (.inl ((amy (fun (v : Nat) => t - shr (p + 1) (k.set p 0) (f.set p 0) (c.set p (v : Int)) t p) (0, -1) x).2)), some (.inl (x : Int)), none], [.inl 36, .inl (x : Int)], _)) rfl ?_
      refine b_ge (tgt := 36) okX5_bestSurveyCell rfl rfl ⟨by omega, by omega⟩ ⟨by omega, by omega⟩ (fun h9 => absurd h9 (by omega)) (fun h9 => ?_)
      refine aGo okX5_bestSurveyCell 2 (f' := (14, [some (.inr 97), some (.inl ((amy (fun (v : Nat) => t - shr (p + 1) (k.set p 0) (f.set p 0) (c.set p (v : Int)) t p) (0, -1) x).1)), some (.inl ((amy (fun (v : Nat) => t - shr (p + 1) (k.set p 0) (f.set p 0) (c.set p (v : Int)) t p) (0, -1) x).2)), some (.inl (x : Int)), none], [.inl (x : Int), .inr 97], _)) rfl ?_
      refine b_vE (as := [.inl (x : Int)]) (rest := []) (k := 97) okX5_bestSurveyCell rfl lkX5_80 caX5_sharesBesideOneMoreIn (Nat.le_of_ble_eq_true rfl) rfl (Nat.le_of_ble_eq_true rfl) rfl rfl rfl (c_sharesBeside hm hB1 hp6 (v := (x : Int)) (by omega) (by omega)) ?_
      rintro _ _ ⟨rfl, B2, hB2, rfl⟩
      refine aGo okX5_bestSurveyCell 3 (f' := (22, [some (.inr 97), some (.inl ((amy (fun (v : Nat) => t - shr (p + 1) (k.set p 0) (f.set p 0) (c.set p (v : Int)) t p) (0, -1) x).1)), some (.inl ((amy (fun (v : Nat) => t - shr (p + 1) (k.set p 0) (f.set p 0) (c.set p (v : Int)) t p) (0, -1) x).2)), some (.inl (x : Int)), some (.inl (t - shr (p + 1) (k.set p 0) (f.set p 0) (c.set p (x : Int)) t p))], [.inl ((amy (fun (v : Nat) => t - shr (p + 1) (k.set p 0) (f.set p 0) (c.set p (v : Int)) t p) (0, -1) x).2), .inl (t - shr (p + 1) (k.set p 0) (f.set p 0) (c.set p (x : Int)) t p)], _)) rfl ?_
      refine b_le (tgt := 30) okX5_bestSurveyCell rfl rfl ⟨by omega, by omega⟩ ⟨by omega, by omega⟩ (fun h22 => ?_) (fun h22 => ?_)
      · refine aGo okX5_bestSurveyCell 2 (f' := (6, [some (.inr 97), some (.inl ((amy (fun (v : Nat) => t - shr (p + 1) (k.set p 0) (f.set p 0) (c.set p (v : Int)) t p) (0, -1) x).1)), some (.inl ((amy (fun (v : Nat) => t - shr (p + 1) (k.set p 0) (f.set p 0) (c.set p (v : Int)) t p) (0, -1) x).2)), some (.inl ((x : Int) + 1)), some (.inl (t - shr (p + 1) (k.set p 0) (f.set p 0) (c.set p (x : Int)) t p))], [], _)) rfl ?_
        refine b_cast (f' := (6, [some (.inr 97), some (.inl ((amy (fun (v : Nat) => t - shr (p + 1) (k.set p 0) (f.set p 0) (c.set p (v : Int)) t p) (0, -1) (x + 1)).1)), some (.inl ((amy (fun (v : Nat) => t - shr (p + 1) (k.set p 0) (f.set p 0) (c.set p (v : Int)) t p) (0, -1) (x + 1)).2)), some (.inl ((x : Int) + 1)), some (.inl (t - shr (p + 1) (k.set p 0) (f.set p 0) (c.set p (x : Int)) t p))], [], [A0, (moSeg 32 k f c n kp l nt w sh (p : Int) t d wa), B2, (miscSeg z fs ss sp la gr tl tp), B4, A5, C6])) (by rw [amy_f (F := (fun (v : Nat) => t - shr (p + 1) (k.set p 0) (f.set p 0) (c.set p (v : Int)) t p)) h22]) ?_
        refine b_lose (ls' := [some (.inr 97), some (.inl ((amy (fun (v : Nat) => t - shr (p + 1) (k.set p 0) (f.set p 0) (c.set p (v : Int)) t p) (0, -1) (x + 1)).1)), some (.inl ((amy (fun (v : Nat) => t - shr (p + 1) (k.set p 0) (f.set p 0) (c.set p (v : Int)) t p) (0, -1) (x + 1)).2)), some (.inl ((x : Int) + 1)), none]) (lose4g _ _ _ _ _) ?_
        exact ih (x + 1) B2 (by omega) hB2
      · refine aGo okX5_bestSurveyCell 6 (f' := (6, [some (.inr 97), some (.inl (x : Int)), some (.inl (t - shr (p + 1) (k.set p 0) (f.set p 0) (c.set p (x : Int)) t p)), some (.inl ((x : Int) + 1)), some (.inl (t - shr (p + 1) (k.set p 0) (f.set p 0) (c.set p (x : Int)) t p))], [], _)) rfl ?_
        refine b_cast (f' := (6, [some (.inr 97), some (.inl ((amy (fun (v : Nat) => t - shr (p + 1) (k.set p 0) (f.set p 0) (c.set p (v : Int)) t p) (0, -1) (x + 1)).1)), some (.inl ((amy (fun (v : Nat) => t - shr (p + 1) (k.set p 0) (f.set p 0) (c.set p (v : Int)) t p) (0, -1) (x + 1)).2)), some (.inl ((x : Int) + 1)), some (.inl (t - shr (p + 1) (k.set p 0) (f.set p 0) (c.set p (x : Int)) t p))], [], [A0, (moSeg 32 k f c n kp l nt w sh (p : Int) t d wa), B2, (miscSeg z fs ss sp la gr tl tp), B4, A5, C6])) (by rw [amy_t (F := (fun (v : Nat) => t - shr (p + 1) (k.set p 0) (f.set p 0) (c.set p (v : Int)) t p)) h22]) ?_
        refine b_lose (ls' := [some (.inr 97), some (.inl ((amy (fun (v : Nat) => t - shr (p + 1) (k.set p 0) (f.set p 0) (c.set p (v : Int)) t p) (0, -1) (x + 1)).1)), some (.inl ((amy (fun (v : Nat) => t - shr (p + 1) (k.set p 0) (f.set p 0) (c.set p (v : Int)) t p) (0, -1) (x + 1)).2)), some (.inl ((x : Int) + 1)), none]) (lose4g _ _ _ _ _) ?_
        exact ih (x + 1) B2 (by omega) hB2
  refine aGo okX5_bestSurveyCell 6 (f' := (6, [some (.inr 97), some (.inl 0), some (.inl (-1)), some (.inl 0), none], [], _)) rfl ?_
  exact lp 36 0 B (by omega) hB
set_option maxRecDepth 100000 in
set_option maxHeartbeats 4000000 in
theorem c_quarrelCell (hc : c.length = 7) (rc : rng c 35) {i g : Nat} (hi : i < 7) (hg : g < 7) {K : Int} (hK0 : 0 ≤ K) (hK1 : K ≤ 100) : aEv mX5_quarrelCell 2 0 0 N [.inr 97, .inl (i : Int), .inl (g : Int), .inl K] [A0, (moSeg 32 k f c n kp l nt w sh (p : Int) t d wa), B, (miscSeg z fs ss sp la gr tl tp), B4, A5, C6] (aQx (some (.inl (qcN c i g K 36).1)) [A0, (moSeg 32 k f c n kp l nt w sh (p : Int) t d wa), B, (miscSeg z fs ss sp la gr tl tp), B4, A5, C6]) := by
  refine aEv_of okX5_quarrelCell caX5_quarrelCell (Nat.le_of_ble_eq_true rfl) ?_
  have lp : ∀ (j x : Nat), x + j = 36 → AW mX5_quarrelCell 2 0 0 N none (aQx (some (.inl (qcN c i g K 36).1)) [A0, (moSeg 32 k f c n kp l nt w sh (p : Int) t d wa), B, (miscSeg z fs ss sp la gr tl tp), B4, A5, C6]) (10, [some (.inr 97), some (.inl (i : Int)), some (.inl (g : Int)), some (.inl K), some (.inl ((qcN c i g K x).1)), some (.inl ((qcN c i g K x).2)), some (.inl (x : Int)), none], [], [A0, (moSeg 32 k f c n kp l nt w sh (p : Int) t d wa), B, (miscSeg z fs ss sp la gr tl tp), B4, A5, C6]) := by
    intro j
    induction j with
    | zero =>
      intro x  hij 
      obtain rfl : 36 = x := by omega
      refine aGo okX5_quarrelCell 2 (f' := (14, [some (.inr 97), some (.inl (i : Int)), some (.inl (g : Int)), some (.inl K), some (.inl ((qcN c i g K 36).1)), some (.inl ((qcN c i g K 36).2)), some (.inl (36 : Int)), none], [.inl 36, .inl (36 : Int)], _)) rfl ?_
      refine b_ge (tgt := 77) okX5_quarrelCell rfl rfl ⟨by omega, by omega⟩ ⟨by omega, by omega⟩ (fun h14 => ?_) (fun h14 => absurd h14 (by omega))
      refine aGo okX5_quarrelCell 1 (f' := (79, [some (.inr 97), some (.inl (i : Int)), some (.inl (g : Int)), some (.inl K), some (.inl ((qcN c i g K 36).1)), some (.inl ((qcN c i g K 36).2)), some (.inl (36 : Int)), none], [.inl ((qcN c i g K 36).1)], _)) rfl ?_
      exact b_ret (v := (some (.inl ((qcN c i g K 36).1)))) ⟨rfl, Or.inl rfl⟩ ⟨rfl, rfl⟩ rfl
    | succ j ih =>
      intro x  hij 
      have e0 := qcN_le rc (i := i) (g := g) (K := K) x (by omega)
      have e1 := rc i
      have e2 := rc g
      have e3 := stp_le (rc i) (show 0 ≤ (x : Int) ∧ (x : Int) ≤ 35 by omega)
      have e4 := stp_le (show 0 ≤ (x : Int) ∧ (x : Int) ≤ 35 by omega) (rc g)
      refine aGo okX5_quarrelCell 2 (f' := (14, [some (.inr 97), some (.inl (i : Int)), some (.inl (g : Int)), some (.inl K), some (.inl ((qcN c i g K x).1)), some (.inl ((qcN c i g K x).2)), some (.inl (x : Int)), none], [.inl 36, .inl (x : Int)], _)) rfl ?_
      refine b_ge (tgt := 77) okX5_quarrelCell rfl rfl ⟨by omega, by omega⟩ ⟨by omega, by omega⟩ (fun h14 => absurd h14 (by omega)) (fun h14 => ?_)
      refine aGo okX5_quarrelCell 3 (f' := (22, [some (.inr 97), some (.inl (i : Int)), some (.inl (g : Int)), some (.inl K), some (.inl ((qcN c i g K x).1)), some (.inl ((qcN c i g K x).2)), some (.inl (x : Int)), none], [.inl (i : Int), .inr 32], _)) rfl ?_
      refine b_vV (as := [.inl (i : Int)]) (rest := []) (k := 32) (.inl (c.getD i 0)) okX5_quarrelCell rfl lkX5_89 caX3_cellOf (Nat.le_of_ble_eq_true rfl) rfl (Nat.le_of_ble_eq_true rfl) rfl rfl rfl (c_cellOf_1 (i := i) (by first | omega | (simp only [List.length_set]; omega)) (by omega)) ?_
      refine aGo okX5_quarrelCell 1 (f' := (27, [some (.inr 97), some (.inl (i : Int)), some (.inl (g : Int)), some (.inl K), some (.inl ((qcN c i g K x).1)), some (.inl ((qcN c i g K x).2)), some (.inl (x : Int)), none], [.inl (x : Int), .inl (c.getD i 0)], _)) rfl ?_
      refine b_vT (as := [.inl (c.getD i 0), .inl (x : Int)]) (rest := []) (.inl (stp (c.getD i 0) (x : Int))) okX5_quarrelCell rfl lkX5_92 caX7_steps (Nat.le_of_ble_eq_true rfl) rfl (Nat.le_of_ble_eq_true rfl) rfl (c_steps ⟨by omega, by omega⟩ ⟨by omega, by omega⟩) ?_
      refine aGo okX5_quarrelCell 5 (f' := (39, [some (.inr 97), some (.inl (i : Int)), some (.inl (g : Int)), some (.inl K), some (.inl ((qcN c i g K x).1)), some (.inl ((qcN c i g K x).2)), some (.inl (x : Int)), some (.inl (stp (c.getD i 0) (x : Int)))], [.inl (g : Int), .inr 32, .inl (x : Int)], _)) rfl ?_
      refine b_vV (as := [.inl (g : Int)]) (rest := [.inl (x : Int)]) (k := 32) (.inl (c.getD g 0)) okX5_quarrelCell rfl lkX5_89 caX3_cellOf (Nat.le_of_ble_eq_true rfl) rfl (Nat.le_of_ble_eq_true rfl) rfl rfl rfl (c_cellOf_1 (i := g) (by first | omega | (simp only [List.length_set]; omega)) (by omega)) ?_
      refine b_vT (as := [.inl (x : Int), .inl (c.getD g 0)]) (rest := []) (.inl (stp (x : Int) (c.getD g 0))) okX5_quarrelCell rfl lkX5_92 caX7_steps (Nat.le_of_ble_eq_true rfl) rfl (Nat.le_of_ble_eq_true rfl) rfl (c_steps ⟨by omega, by omega⟩ ⟨by omega, by omega⟩) ?_
      refine aGo okX5_quarrelCell 1 (f' := (46, [some (.inr 97), some (.inl (i : Int)), some (.inl (g : Int)), some (.inl K), some (.inl ((qcN c i g K x).1)), some (.inl ((qcN c i g K x).2)), some (.inl (x : Int)), some (.inl (stp (c.getD i 0) (x : Int)))], [.inl K, .inl (stp (x : Int) (c.getD g 0))], _)) rfl ?_
      refine b_le (tgt := 71) okX5_quarrelCell rfl rfl ⟨by omega, by omega⟩ ⟨by omega, by omega⟩ (fun h46 => ?_) (fun h46 => ?_)
      · refine aGo okX5_quarrelCell 2 (f' := (10, [some (.inr 97), some (.inl (i : Int)), some (.inl (g : Int)), some (.inl K), some (.inl ((qcN c i g K x).1)), some (.inl ((qcN c i g K x).2)), some (.inl ((x : Int) + 1)), some (.inl (stp (c.getD i 0) (x : Int)))], [], _)) rfl ?_
        refine b_cast (f' := (10, [some (.inr 97), some (.inl (i : Int)), some (.inl (g : Int)), some (.inl K), some (.inl ((qcN c i g K (x + 1)).1)), some (.inl ((qcN c i g K (x + 1)).2)), some (.inl ((x : Int) + 1)), some (.inl (stp (c.getD i 0) (x : Int)))], [], [A0, (moSeg 32 k f c n kp l nt w sh (p : Int) t d wa), B, (miscSeg z fs ss sp la gr tl tp), B4, A5, C6])) (by simp only [qcN]; rw [if_neg (by omega)]) ?_
        refine b_lose (ls' := [some (.inr 97), some (.inl (i : Int)), some (.inl (g : Int)), some (.inl K), some (.inl ((qcN c i g K (x + 1)).1)), some (.inl ((qcN c i g K (x + 1)).2)), some (.inl ((x : Int) + 1)), none]) (lose7h _ _ _ _ _ _ _ _) ?_
        exact ih (x + 1) (by omega)
      · refine aGo okX5_quarrelCell 2 (f' := (53, [some (.inr 97), some (.inl (i : Int)), some (.inl (g : Int)), some (.inl K), some (.inl ((qcN c i g K x).1)), some (.inl ((qcN c i g K x).2)), some (.inl (x : Int)), some (.inl (stp (c.getD i 0) (x : Int)))], [.inl (-9), .inl ((qcN c i g K x).1)], _)) rfl ?_
        refine b_eq (tgt := 63) okX5_quarrelCell rfl rfl ⟨by omega, by omega⟩ ⟨by omega, by omega⟩ (fun h53 => ?_) (fun h53 => ?_)
        · refine aGo okX5_quarrelCell 6 (f' := (10, [some (.inr 97), some (.inl (i : Int)), some (.inl (g : Int)), some (.inl K), some (.inl (x : Int)), some (.inl (stp (c.getD i 0) (x : Int))), some (.inl ((x : Int) + 1)), some (.inl (stp (c.getD i 0) (x : Int)))], [], _)) rfl ?_
          refine b_cast (f' := (10, [some (.inr 97), some (.inl (i : Int)), some (.inl (g : Int)), some (.inl K), some (.inl ((qcN c i g K (x + 1)).1)), some (.inl ((qcN c i g K (x + 1)).2)), some (.inl ((x : Int) + 1)), some (.inl (stp (c.getD i 0) (x : Int)))], [], [A0, (moSeg 32 k f c n kp l nt w sh (p : Int) t d wa), B, (miscSeg z fs ss sp la gr tl tp), B4, A5, C6])) (by simp only [qcN]; rw [if_pos (by omega)]) ?_
          refine b_lose (ls' := [some (.inr 97), some (.inl (i : Int)), some (.inl (g : Int)), some (.inl K), some (.inl ((qcN c i g K (x + 1)).1)), some (.inl ((qcN c i g K (x + 1)).2)), some (.inl ((x : Int) + 1)), none]) (lose7h _ _ _ _ _ _ _ _) ?_
          exact ih (x + 1) (by omega)
        · refine aGo okX5_quarrelCell 2 (f' := (60, [some (.inr 97), some (.inl (i : Int)), some (.inl (g : Int)), some (.inl K), some (.inl ((qcN c i g K x).1)), some (.inl ((qcN c i g K x).2)), some (.inl (x : Int)), some (.inl (stp (c.getD i 0) (x : Int)))], [.inl ((qcN c i g K x).2), .inl (stp (c.getD i 0) (x : Int))], _)) rfl ?_
          refine b_ge (tgt := 71) okX5_quarrelCell rfl rfl ⟨by omega, by omega⟩ ⟨by omega, by omega⟩ (fun h60 => ?_) (fun h60 => ?_)
          · refine aGo okX5_quarrelCell 2 (f' := (10, [some (.inr 97), some (.inl (i : Int)), some (.inl (g : Int)), some (.inl K), some (.inl ((qcN c i g K x).1)), some (.inl ((qcN c i g K x).2)), some (.inl ((x : Int) + 1)), some (.inl (stp (c.getD i 0) (x : Int)))], [], _)) rfl ?_
            refine b_cast (f' := (10, [some (.inr 97), some (.inl (i : Int)), some (.inl (g : Int)), some (.inl K), some (.inl ((qcN c i g K (x + 1)).1)), some (.inl ((qcN c i g K (x + 1)).2)), some (.inl ((x : Int) + 1)), some (.inl (stp (c.getD i 0) (x : Int)))], [], [A0, (moSeg 32 k f c n kp l nt w sh (p : Int) t d wa), B, (miscSeg z fs ss sp la gr tl tp), B4, A5, C6])) (by simp only [qcN]; rw [if_neg (by omega)]) ?_
            refine b_lose (ls' := [some (.inr 97), some (.inl (i : Int)), some (.inl (g : Int)), some (.inl K), some (.inl ((qcN c i g K (x + 1)).1)), some (.inl ((qcN c i g K (x + 1)).2)), some (.inl ((x : Int) + 1)), none]) (lose7h _ _ _ _ _ _ _ _) ?_
            exact ih (x + 1) (by omega)
          · refine aGo okX5_quarrelCell 6 (f' := (10, [some (.inr 97), some (.inl (i : Int)), some (.inl (g : Int)), some (.inl K), some (.inl (x : Int)), some (.inl (stp (c.getD i 0) (x : Int))), some (.inl ((x : Int) + 1)), some (.inl (stp (c.getD i 0) (x : Int)))], [], _)) rfl ?_
            refine b_cast (f' := (10, [some (.inr 97), some (.inl (i : Int)), some (.inl (g : Int)), some (.inl K), some (.inl ((qcN c i g K (x + 1)).1)), some (.inl ((qcN c i g K (x + 1)).2)), some (.inl ((x : Int) + 1)), some (.inl (stp (c.getD i 0) (x : Int)))], [], [A0, (moSeg 32 k f c n kp l nt w sh (p : Int) t d wa), B, (miscSeg z fs ss sp la gr tl tp), B4, A5, C6])) (by simp only [qcN]; rw [if_pos (by omega)]) ?_
            refine b_lose (ls' := [some (.inr 97), some (.inl (i : Int)), some (.inl (g : Int)), some (.inl K), some (.inl ((qcN c i g K (x + 1)).1)), some (.inl ((qcN c i g K (x + 1)).2)), some (.inl ((x : Int) + 1)), none]) (lose7h _ _ _ _ _ _ _ _) ?_
            exact ih (x + 1) (by omega)
  refine aGo okX5_quarrelCell 6 (f' := (10, [some (.inr 97), some (.inl (i : Int)), some (.inl (g : Int)), some (.inl K), some (.inl (-9)), some (.inl 0), some (.inl 0), none], [], _)) rfl ?_
  exact lp 36 0 (by omega)
set_option maxRecDepth 100000 in
set_option maxHeartbeats 4000000 in
theorem c_numberWithout_t {i g : Nat} (hi : i < 65536) (hg : g < 65536) (h : g < i) : aEv mX5_numberWithout 0 0 0 N [.inr 97, .inl (g : Int), .inl (i : Int)] [A0, (moSeg 32 k f c n kp l nt w sh (p : Int) t d wa), B, (miscSeg z fs ss sp la gr tl tp), B4, A5, C6] (aQx (some (.inl ((i - 1 : Nat) : Int))) [A0, (moSeg 32 k f c n kp l nt w sh (p : Int) t d wa), B, (miscSeg z fs ss sp la gr tl tp), B4, A5, C6]) := by
  refine aEv_of okX5_numberWithout caX5_numberWithout (Nat.le_of_ble_eq_true rfl) ?_
  refine aGo okX5_numberWithout 2 (f' := (2, [some (.inr 97), some (.inl (g : Int)), some (.inl (i : Int))], [.inl (g : Int), .inl (i : Int)], _)) rfl ?_
  refine b_le (tgt := 11) okX5_numberWithout rfl rfl ⟨by omega, by omega⟩ ⟨by omega, by omega⟩ (fun h2 => absurd h2 (by omega)) (fun h2 => ?_)
  refine aGo okX5_numberWithout 4 (f' := (12, [some (.inr 97), some (.inl (g : Int)), some (.inl (i : Int))], [.inl ((i : Int) - 1)], _)) rfl ?_
  exact b_ret (v := (some (.inl ((i : Int) - 1)))) ⟨rfl, Or.inl rfl⟩ ⟨by rw [show (i : Int) - 1 = ((i - 1 : Nat) : Int) by omega], rfl⟩ rfl
set_option maxRecDepth 100000 in
set_option maxHeartbeats 4000000 in
theorem c_numberWithout_f {i g : Nat} (hi : i < 65536) (hg : g < 65536) (h : i ≤ g) : aEv mX5_numberWithout 0 0 0 N [.inr 97, .inl (g : Int), .inl (i : Int)] [A0, (moSeg 32 k f c n kp l nt w sh (p : Int) t d wa), B, (miscSeg z fs ss sp la gr tl tp), B4, A5, C6] (aQx (some (.inl (i : Int))) [A0, (moSeg 32 k f c n kp l nt w sh (p : Int) t d wa), B, (miscSeg z fs ss sp la gr tl tp), B4, A5, C6]) := by
  refine aEv_of okX5_numberWithout caX5_numberWithout (Nat.le_of_ble_eq_true rfl) ?_
  refine aGo okX5_numberWithout 2 (f' := (2, [some (.inr 97), some (.inl (g : Int)), some (.inl (i : Int))], [.inl (g : Int), .inl (i : Int)], _)) rfl ?_
  refine b_le (tgt := 11) okX5_numberWithout rfl rfl ⟨by omega, by omega⟩ ⟨by omega, by omega⟩ (fun h2 => ?_) (fun h2 => absurd h2 (by omega))
  refine aGo okX5_numberWithout 1 (f' := (12, [some (.inr 97), some (.inl (g : Int)), some (.inl (i : Int))], [.inl (i : Int)], _)) rfl ?_
  exact b_ret (v := (some (.inl (i : Int)))) ⟨rfl, Or.inl rfl⟩ ⟨rfl, rfl⟩ rfl
set_option maxRecDepth 100000 in
set_option maxHeartbeats 4000000 in
theorem c_chosenCell_0 {x : Int} (hx : 0 ≤ x ∧ x ≤ 35) : aEv mX5_chosenCell 0 0 0 N [.inr 97, .inl x, .inl 0] [A0, (moSeg 32 k f c n kp l nt w sh (p : Int) t d wa), B, (miscSeg z fs ss sp la gr tl tp), B4, A5, C6] (aQx (some (.inl (mov x 0))) [A0, (moSeg 32 k f c n kp l nt w sh (p : Int) t d wa), B, (miscSeg z fs ss sp la gr tl tp), B4, A5, C6]) := by
  refine aEv_of okX5_chosenCell caX5_chosenCell (Nat.le_of_ble_eq_true rfl) ?_
  refine aGo okX5_chosenCell 1 (f' := (1, [some (.inr 97), some (.inl x), some (.inl 0)], [.inl 0], _)) rfl ?_
  refine b_swOut (tgt := 96) okX5_chosenCell rfl ⟨by decide, by decide⟩ (by decide) rfl ?_
  refine aGo okX5_chosenCell 1 (f' := (97, [some (.inr 97), some (.inl x), some (.inl 0)], [.inl x], _)) rfl ?_
  exact b_ret (v := (some (.inl x))) ⟨rfl, Or.inl rfl⟩ ⟨rfl, rfl⟩ rfl
set_option maxRecDepth 100000 in
set_option maxHeartbeats 4000000 in
theorem c_chosenCell_1 {x : Int} (hx : 0 ≤ x ∧ x ≤ 35) : aEv mX5_chosenCell 0 0 0 N [.inr 97, .inl x, .inl 1] [A0, (moSeg 32 k f c n kp l nt w sh (p : Int) t d wa), B, (miscSeg z fs ss sp la gr tl tp), B4, A5, C6] (aQx (some (.inl (mov x 1))) [A0, (moSeg 32 k f c n kp l nt w sh (p : Int) t d wa), B, (miscSeg z fs ss sp la gr tl tp), B4, A5, C6]) := by
  refine aEv_of okX5_chosenCell caX5_chosenCell (Nat.le_of_ble_eq_true rfl) ?_
  refine aGo okX5_chosenCell 1 (f' := (1, [some (.inr 97), some (.inl x), some (.inl 1)], [.inl 1], _)) rfl ?_
  refine b_swIn (tgt := 32) okX5_chosenCell rfl ⟨by decide, by decide⟩ (by decide) (by decide) rfl rfl ?_
  refine aGo okX5_chosenCell 2 (f' := (35, [some (.inr 97), some (.inl x), some (.inl 1)], [.inl 6, .inl x], _)) rfl ?_
  refine b_lt (tgt := 45) okX5_chosenCell rfl rfl ⟨by omega, by omega⟩ ⟨by omega, by omega⟩ (fun h35 => ?_) (fun h35 => ?_)
  · refine aGo okX5_chosenCell 1 (f' := (46, [some (.inr 97), some (.inl x), some (.inl 1)], [.inl x], _)) rfl ?_
    exact b_ret (v := (some (.inl x))) ⟨rfl, Or.inl rfl⟩ ⟨by rw [show mov x 1 = x from if_neg (by omega)], rfl⟩ rfl
  · refine aGo okX5_chosenCell 4 (f' := (46, [some (.inr 97), some (.inl x), some (.inl 1)], [.inl (x - 6)], _)) rfl ?_
    exact b_ret (v := (some (.inl (x - 6)))) ⟨rfl, Or.inl rfl⟩ ⟨by rw [show mov x 1 = (x - 6) from if_pos (by omega)], rfl⟩ rfl
set_option maxRecDepth 100000 in
set_option maxHeartbeats 4000000 in
theorem c_chosenCell_2 {x : Int} (hx : 0 ≤ x ∧ x ≤ 35) : aEv mX5_chosenCell 0 0 0 N [.inr 97, .inl x, .inl 2] [A0, (moSeg 32 k f c n kp l nt w sh (p : Int) t d wa), B, (miscSeg z fs ss sp la gr tl tp), B4, A5, C6] (aQx (some (.inl (mov x 2))) [A0, (moSeg 32 k f c n kp l nt w sh (p : Int) t d wa), B, (miscSeg z fs ss sp la gr tl tp), B4, A5, C6]) := by
  refine aEv_of okX5_chosenCell caX5_chosenCell (Nat.le_of_ble_eq_true rfl) ?_
  refine aGo okX5_chosenCell 1 (f' := (1, [some (.inr 97), some (.inl x), some (.inl 2)], [.inl 2], _)) rfl ?_
  refine b_swIn (tgt := 47) okX5_chosenCell rfl ⟨by decide, by decide⟩ (by decide) (by decide) rfl rfl ?_
  refine aGo okX5_chosenCell 2 (f' := (50, [some (.inr 97), some (.inl x), some (.inl 2)], [.inl 6, .inl x], _)) rfl ?_
  refine b_rem okX5_chosenCell rfl ⟨by omega, by omega⟩ ⟨by omega, by omega⟩ ?_
  refine b0_le (tgt := 60) okX5_chosenCell rfl rfl ⟨by omega, by omega⟩ (fun h51 => ?_) (fun h51 => ?_)
  · refine aGo okX5_chosenCell 1 (f' := (61, [some (.inr 97), some (.inl x), some (.inl 2)], [.inl x], _)) rfl ?_
    exact b_ret (v := (some (.inl x))) ⟨rfl, Or.inl rfl⟩ ⟨by rw [show mov x 2 = x from if_neg (by omega)], rfl⟩ rfl
  · refine aGo okX5_chosenCell 4 (f' := (61, [some (.inr 97), some (.inl x), some (.inl 2)], [.inl (x - 1)], _)) rfl ?_
    exact b_ret (v := (some (.inl (x - 1)))) ⟨rfl, Or.inl rfl⟩ ⟨by rw [show mov x 2 = (x - 1) from if_pos (by omega)], rfl⟩ rfl
set_option maxRecDepth 100000 in
set_option maxHeartbeats 4000000 in
theorem c_chosenCell_3 {x : Int} (hx : 0 ≤ x ∧ x ≤ 35) : aEv mX5_chosenCell 0 0 0 N [.inr 97, .inl x, .inl 3] [A0, (moSeg 32 k f c n kp l nt w sh (p : Int) t d wa), B, (miscSeg z fs ss sp la gr tl tp), B4, A5, C6] (aQx (some (.inl (mov x 3))) [A0, (moSeg 32 k f c n kp l nt w sh (p : Int) t d wa), B, (miscSeg z fs ss sp la gr tl tp), B4, A5, C6]) := by
  refine aEv_of okX5_chosenCell caX5_chosenCell (Nat.le_of_ble_eq_true rfl) ?_
  refine aGo okX5_chosenCell 1 (f' := (1, [some (.inr 97), some (.inl x), some (.inl 3)], [.inl 3], _)) rfl ?_
  refine b_swIn (tgt := 62) okX5_chosenCell rfl ⟨by decide, by decide⟩ (by decide) (by decide) rfl rfl ?_
  refine aGo okX5_chosenCell 2 (f' := (65, [some (.inr 97), some (.inl x), some (.inl 3)], [.inl 6, .inl x], _)) rfl ?_
  refine b_rem okX5_chosenCell rfl ⟨by omega, by omega⟩ ⟨by omega, by omega⟩ ?_
  refine aGo okX5_chosenCell 1 (f' := (67, [some (.inr 97), some (.inl x), some (.inl 3)], [.inl 5, .inl (x % 6)], _)) rfl ?_
  refine b_ge (tgt := 76) okX5_chosenCell rfl rfl ⟨by omega, by omega⟩ ⟨by omega, by omega⟩ (fun h67 => ?_) (fun h67 => ?_)
  · refine aGo okX5_chosenCell 1 (f' := (77, [some (.inr 97), some (.inl x), some (.inl 3)], [.inl x], _)) rfl ?_
    exact b_ret (v := (some (.inl x))) ⟨rfl, Or.inl rfl⟩ ⟨by rw [show mov x 3 = x from if_neg (by omega)], rfl⟩ rfl
  · refine aGo okX5_chosenCell 4 (f' := (77, [some (.inr 97), some (.inl x), some (.inl 3)], [.inl (x + 1)], _)) rfl ?_
    exact b_ret (v := (some (.inl (x + 1)))) ⟨rfl, Or.inl rfl⟩ ⟨by rw [show mov x 3 = (x + 1) from if_pos (by omega)], rfl⟩ rfl
set_option maxRecDepth 100000 in
set_option maxHeartbeats 4000000 in
theorem c_chosenCell_4 {x : Int} (hx : 0 ≤ x ∧ x ≤ 35) : aEv mX5_chosenCell 0 0 0 N [.inr 97, .inl x, .inl 4] [A0, (moSeg 32 k f c n kp l nt w sh (p : Int) t d wa), B, (miscSeg z fs ss sp la gr tl tp), B4, A5, C6] (aQx (some (.inl (mov x 4))) [A0, (moSeg 32 k f c n kp l nt w sh (p : Int) t d wa), B, (miscSeg z fs ss sp la gr tl tp), B4, A5, C6]) := by
  refine aEv_of okX5_chosenCell caX5_chosenCell (Nat.le_of_ble_eq_true rfl) ?_
  refine aGo okX5_chosenCell 1 (f' := (1, [some (.inr 97), some (.inl x), some (.inl 4)], [.inl 4], _)) rfl ?_
  refine b_swIn (tgt := 78) okX5_chosenCell rfl ⟨by decide, by decide⟩ (by decide) (by decide) rfl rfl ?_
  refine aGo okX5_chosenCell 4 (f' := (84, [some (.inr 97), some (.inl x), some (.inl 4)], [.inl 36, .inl (x + 6)], _)) rfl ?_
  refine b_ge (tgt := 94) okX5_chosenCell rfl rfl ⟨by omega, by omega⟩ ⟨by omega, by omega⟩ (fun h84 => ?_) (fun h84 => ?_)
  · refine aGo okX5_chosenCell 1 (f' := (95, [some (.inr 97), some (.inl x), some (.inl 4)], [.inl x], _)) rfl ?_
    exact b_ret (v := (some (.inl x))) ⟨rfl, Or.inl rfl⟩ ⟨by rw [show mov x 4 = x from if_neg (by omega)], rfl⟩ rfl
  · refine aGo okX5_chosenCell 4 (f' := (95, [some (.inr 97), some (.inl x), some (.inl 4)], [.inl (x + 6)], _)) rfl ?_
    exact b_ret (v := (some (.inl (x + 6)))) ⟨rfl, Or.inl rfl⟩ ⟨by rw [show mov x 4 = (x + 6) from if_pos (by omega)], rfl⟩ rfl
end AOA
end
