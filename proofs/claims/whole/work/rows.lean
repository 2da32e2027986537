section
-- ===== PART A: goes FIRST, ahead of the names: the tables' words, and 'selects' of the private methods out of them =====
/-- a private method of a class that the tables say can be made, by its rows of tables_1 -/
def lw_okq (q : MethodName × Nat) : Prop := (q.1.cls ≠ "java/lang/invoke/MethodHandle" ∧ q.1.cls ≠ "java/lang/invoke/VarHandle") ∧ Cond.instantiable q.1.cls q.2 ∈ tables_1 ∧ Cond.privateMethod q.1 ∈ tables_1 ∧ Cond.instanceMethod q.1 ∈ tables_1
theorem lw_p0 : lw_okq (⟨"AloneIsAQuantity", "refuse", "(I)I"⟩, 11) := ⟨⟨by decide +kernel, by decide +kernel⟩, List.mem_of_getElem? (i := 17) (by decide +kernel), List.mem_of_getElem? (i := 208) (by decide +kernel), List.mem_of_getElem? (i := 209) (by decide +kernel)⟩
theorem lw_p1 : lw_okq (⟨"AloneIsAQuantity$Text", "firstWrongLetter", "()I"⟩, 2) := ⟨⟨by decide +kernel, by decide +kernel⟩, List.mem_of_getElem? (i := 153) (by decide +kernel), List.mem_of_getElem? (i := 246) (by decide +kernel), List.mem_of_getElem? (i := 247) (by decide +kernel)⟩
theorem lw_p2 : lw_okq (⟨"AloneIsAQuantity$Text", "formAt", "(I)Ljava/lang/String;"⟩, 2) := ⟨⟨by decide +kernel, by decide +kernel⟩, List.mem_of_getElem? (i := 153) (by decide +kernel), List.mem_of_getElem? (i := 250) (by decide +kernel), List.mem_of_getElem? (i := 251) (by decide +kernel)⟩
theorem lw_p3 : lw_okq (⟨"AloneIsAQuantity$Text", "fits", "(II)Z"⟩, 2) := ⟨⟨by decide +kernel, by decide +kernel⟩, List.mem_of_getElem? (i := 153) (by decide +kernel), List.mem_of_getElem? (i := 314) (by decide +kernel), List.mem_of_getElem? (i := 315) (by decide +kernel)⟩
theorem lw_p4 : lw_okq (⟨"AloneIsAQuantity$Text", "kindOf", "(I)I"⟩, 2) := ⟨⟨by decide +kernel, by decide +kernel⟩, List.mem_of_getElem? (i := 153) (by decide +kernel), List.mem_of_getElem? (i := 318) (by decide +kernel), List.mem_of_getElem? (i := 319) (by decide +kernel)⟩
theorem lw_p5 : lw_okq (⟨"AloneIsAQuantity$Text", "sayTo", "(LAloneIsAQuantity$Moor;I)Z"⟩, 2) := ⟨⟨by decide +kernel, by decide +kernel⟩, List.mem_of_getElem? (i := 153) (by decide +kernel), List.mem_of_getElem? (i := 323) (by decide +kernel), List.mem_of_getElem? (i := 324) (by decide +kernel)⟩
theorem lw_p6 : lw_okq (⟨"AloneIsAQuantity$Text", "number", "(II)I"⟩, 2) := ⟨⟨by decide +kernel, by decide +kernel⟩, List.mem_of_getElem? (i := 153) (by decide +kernel), List.mem_of_getElem? (i := 327) (by decide +kernel), List.mem_of_getElem? (i := 328) (by decide +kernel)⟩
theorem lw_p7 : lw_okq (⟨"AloneIsAQuantity$Moor", "putLent", "(III)V"⟩, 13) := ⟨⟨by decide +kernel, by decide +kernel⟩, List.mem_of_getElem? (i := 25) (by decide +kernel), List.mem_of_getElem? (i := 343) (by decide +kernel), List.mem_of_getElem? (i := 344) (by decide +kernel)⟩
theorem lw_p8 : lw_okq (⟨"AloneIsAQuantity$Moor", "netLoans", "()V"⟩, 13) := ⟨⟨by decide +kernel, by decide +kernel⟩, List.mem_of_getElem? (i := 25) (by decide +kernel), List.mem_of_getElem? (i := 347) (by decide +kernel), List.mem_of_getElem? (i := 348) (by decide +kernel)⟩
theorem lw_p9 : lw_okq (⟨"AloneIsAQuantity$Moor", "weigh", "()V"⟩, 13) := ⟨⟨by decide +kernel, by decide +kernel⟩, List.mem_of_getElem? (i := 25) (by decide +kernel), List.mem_of_getElem? (i := 356) (by decide +kernel), List.mem_of_getElem? (i := 357) (by decide +kernel)⟩
theorem lw_p10 : lw_okq (⟨"AloneIsAQuantity$Moor", "weightNow", "(I)I"⟩, 13) := ⟨⟨by decide +kernel, by decide +kernel⟩, List.mem_of_getElem? (i := 25) (by decide +kernel), List.mem_of_getElem? (i := 360) (by decide +kernel), List.mem_of_getElem? (i := 361) (by decide +kernel)⟩
theorem lw_p11 : lw_okq (⟨"AloneIsAQuantity$Moor", "shareOut", "()V"⟩, 13) := ⟨⟨by decide +kernel, by decide +kernel⟩, List.mem_of_getElem? (i := 25) (by decide +kernel), List.mem_of_getElem? (i := 374) (by decide +kernel), List.mem_of_getElem? (i := 375) (by decide +kernel)⟩
theorem lw_p12 : lw_okq (⟨"AloneIsAQuantity", "refuseFar", "(I)I"⟩, 11) := ⟨⟨by decide +kernel, by decide +kernel⟩, List.mem_of_getElem? (i := 17) (by decide +kernel), List.mem_of_getElem? (i := 458) (by decide +kernel), List.mem_of_getElem? (i := 459) (by decide +kernel)⟩
theorem lw_p13 : lw_okq (⟨"AloneIsAQuantity$OtherMoors", "leastShareBeside", "(I)I"⟩, 5) := ⟨⟨by decide +kernel, by decide +kernel⟩, List.mem_of_getElem? (i := 98) (by decide +kernel), List.mem_of_getElem? (i := 570) (by decide +kernel), List.mem_of_getElem? (i := 571) (by decide +kernel)⟩
theorem lw_p14 : lw_okq (⟨"AloneIsAQuantity$OtherMoors", "numberWithout", "(II)I"⟩, 5) := ⟨⟨by decide +kernel, by decide +kernel⟩, List.mem_of_getElem? (i := 98) (by decide +kernel), List.mem_of_getElem? (i := 588) (by decide +kernel), List.mem_of_getElem? (i := 589) (by decide +kernel)⟩
theorem lw_p15 : lw_okq (⟨"AloneIsAQuantity$Lending", "cutBy", "(II)I"⟩, 4) := ⟨⟨by decide +kernel, by decide +kernel⟩, List.mem_of_getElem? (i := 132) (by decide +kernel), List.mem_of_getElem? (i := 652) (by decide +kernel), List.mem_of_getElem? (i := 653) (by decide +kernel)⟩
def lw_privs_1 : List (MethodName × Nat) := [(⟨"AloneIsAQuantity", "refuse", "(I)I"⟩, 11), (⟨"AloneIsAQuantity$Text", "firstWrongLetter", "()I"⟩, 2), (⟨"AloneIsAQuantity$Text", "formAt", "(I)Ljava/lang/String;"⟩, 2), (⟨"AloneIsAQuantity$Text", "fits", "(II)Z"⟩, 2), (⟨"AloneIsAQuantity$Text", "kindOf", "(I)I"⟩, 2), (⟨"AloneIsAQuantity$Text", "sayTo", "(LAloneIsAQuantity$Moor;I)Z"⟩, 2), (⟨"AloneIsAQuantity$Text", "number", "(II)I"⟩, 2), (⟨"AloneIsAQuantity$Moor", "putLent", "(III)V"⟩, 13), (⟨"AloneIsAQuantity$Moor", "netLoans", "()V"⟩, 13), (⟨"AloneIsAQuantity$Moor", "weigh", "()V"⟩, 13), (⟨"AloneIsAQuantity$Moor", "weightNow", "(I)I"⟩, 13), (⟨"AloneIsAQuantity$Moor", "shareOut", "()V"⟩, 13), (⟨"AloneIsAQuantity", "refuseFar", "(I)I"⟩, 11), (⟨"AloneIsAQuantity$OtherMoors", "leastShareBeside", "(I)I"⟩, 5), (⟨"AloneIsAQuantity$OtherMoors", "numberWithout", "(II)I"⟩, 5), (⟨"AloneIsAQuantity$Lending", "cutBy", "(II)I"⟩, 4)]
theorem lw_r1 : ∀ q ∈ lw_privs_1, lw_okq q := List.forall_mem_cons.mpr ⟨lw_p0, List.forall_mem_cons.mpr ⟨lw_p1, List.forall_mem_cons.mpr ⟨lw_p2, List.forall_mem_cons.mpr ⟨lw_p3, List.forall_mem_cons.mpr ⟨lw_p4, List.forall_mem_cons.mpr ⟨lw_p5, List.forall_mem_cons.mpr ⟨lw_p6, List.forall_mem_cons.mpr ⟨lw_p7, List.forall_mem_cons.mpr ⟨lw_p8, List.forall_mem_cons.mpr ⟨lw_p9, List.forall_mem_cons.mpr ⟨lw_p10, List.forall_mem_cons.mpr ⟨lw_p11, List.forall_mem_cons.mpr ⟨lw_p12, List.forall_mem_cons.mpr ⟨lw_p13, List.forall_mem_cons.mpr ⟨lw_p14, List.forall_mem_cons.mpr ⟨lw_p15, fun _ h => absurd h List.not_mem_nil⟩⟩⟩⟩⟩⟩⟩⟩⟩⟩⟩⟩⟩⟩⟩⟩
theorem lw_p16 : lw_okq (⟨"AloneIsAQuantity$Lending", "isNearGiverBeside", "(III)Z"⟩, 4) := ⟨⟨by decide +kernel, by decide +kernel⟩, List.mem_of_getElem? (i := 132) (by decide +kernel), List.mem_of_getElem? (i := 657) (by decide +kernel), List.mem_of_getElem? (i := 658) (by decide +kernel)⟩
theorem lw_p17 : lw_okq (⟨"AloneIsAQuantity$OtherMoors", "weighChoices", "(II)V"⟩, 5) := ⟨⟨by decide +kernel, by decide +kernel⟩, List.mem_of_getElem? (i := 98) (by decide +kernel), List.mem_of_getElem? (i := 722) (by decide +kernel), List.mem_of_getElem? (i := 723) (by decide +kernel)⟩
theorem lw_p18 : lw_okq (⟨"AloneIsAQuantity$OtherMoors", "chosenCell", "(II)I"⟩, 5) := ⟨⟨by decide +kernel, by decide +kernel⟩, List.mem_of_getElem? (i := 98) (by decide +kernel), List.mem_of_getElem? (i := 726) (by decide +kernel), List.mem_of_getElem? (i := 727) (by decide +kernel)⟩
theorem lw_p19 : lw_okq (⟨"AloneIsAQuantity$OtherMoors", "isSteady", "(II)Z"⟩, 5) := ⟨⟨by decide +kernel, by decide +kernel⟩, List.mem_of_getElem? (i := 98) (by decide +kernel), List.mem_of_getElem? (i := 731) (by decide +kernel), List.mem_of_getElem? (i := 732) (by decide +kernel)⟩
theorem lw_p20 : lw_okq (⟨"AloneIsAQuantity$OtherMoors", "sharesAreTold", "(LAloneIsAQuantity$Numbers;)Z"⟩, 5) := ⟨⟨by decide +kernel, by decide +kernel⟩, List.mem_of_getElem? (i := 98) (by decide +kernel), List.mem_of_getElem? (i := 788) (by decide +kernel), List.mem_of_getElem? (i := 789) (by decide +kernel)⟩
theorem lw_p21 : lw_okq (⟨"AloneIsAQuantity$OtherMoors", "placeAllByLot", "()V"⟩, 5) := ⟨⟨by decide +kernel, by decide +kernel⟩, List.mem_of_getElem? (i := 98) (by decide +kernel), List.mem_of_getElem? (i := 830) (by decide +kernel), List.mem_of_getElem? (i := 831) (by decide +kernel)⟩
theorem lw_p22 : lw_okq (⟨"AloneIsAQuantity$Moor", "allOf", "(LAloneIsAQuantity$Numbers;)I"⟩, 13) := ⟨⟨by decide +kernel, by decide +kernel⟩, List.mem_of_getElem? (i := 25) (by decide +kernel), List.mem_of_getElem? (i := 865) (by decide +kernel), List.mem_of_getElem? (i := 866) (by decide +kernel)⟩
theorem lw_p23 : lw_okq (⟨"AloneIsAQuantityModel", "no", "(I)I"⟩, 31) := ⟨⟨by decide +kernel, by decide +kernel⟩, List.mem_of_getElem? (i := 877) (by decide +kernel), List.mem_of_getElem? (i := 984) (by decide +kernel), List.mem_of_getElem? (i := 985) (by decide +kernel)⟩
theorem lw_p24 : lw_okq (⟨"AloneIsAQuantityModel", "statement", "()Z"⟩, 31) := ⟨⟨by decide +kernel, by decide +kernel⟩, List.mem_of_getElem? (i := 877) (by decide +kernel), List.mem_of_getElem? (i := 992) (by decide +kernel), List.mem_of_getElem? (i := 993) (by decide +kernel)⟩
theorem lw_p25 : lw_okq (⟨"AloneIsAQuantityModel", "next", "()I"⟩, 31) := ⟨⟨by decide +kernel, by decide +kernel⟩, List.mem_of_getElem? (i := 877) (by decide +kernel), List.mem_of_getElem? (i := 996) (by decide +kernel), List.mem_of_getElem? (i := 997) (by decide +kernel)⟩
theorem lw_p26 : lw_okq (⟨"AloneIsAQuantityModel", "readsAll", "(II)Z"⟩, 31) := ⟨⟨by decide +kernel, by decide +kernel⟩, List.mem_of_getElem? (i := 877) (by decide +kernel), List.mem_of_getElem? (i := 1000) (by decide +kernel), List.mem_of_getElem? (i := 1001) (by decide +kernel)⟩
theorem lw_p27 : lw_okq (⟨"AloneIsAQuantityModel", "readsKind", "(I)Z"⟩, 31) := ⟨⟨by decide +kernel, by decide +kernel⟩, List.mem_of_getElem? (i := 877) (by decide +kernel), List.mem_of_getElem? (i := 1004) (by decide +kernel), List.mem_of_getElem? (i := 1005) (by decide +kernel)⟩
theorem lw_p28 : lw_okq (⟨"AloneIsAQuantityModel", "readsDigits", "(II)Z"⟩, 31) := ⟨⟨by decide +kernel, by decide +kernel⟩, List.mem_of_getElem? (i := 877) (by decide +kernel), List.mem_of_getElem? (i := 1011) (by decide +kernel), List.mem_of_getElem? (i := 1012) (by decide +kernel)⟩
theorem lw_p29 : lw_okq (⟨"AloneIsAQuantityModel", "passesAll", "(IZ)V"⟩, 31) := ⟨⟨by decide +kernel, by decide +kernel⟩, List.mem_of_getElem? (i := 877) (by decide +kernel), List.mem_of_getElem? (i := 1018) (by decide +kernel), List.mem_of_getElem? (i := 1019) (by decide +kernel)⟩
theorem lw_p30 : lw_okq (⟨"AloneIsAQuantityModel", "passes", "([I)V"⟩, 31) := ⟨⟨by decide +kernel, by decide +kernel⟩, List.mem_of_getElem? (i := 877) (by decide +kernel), List.mem_of_getElem? (i := 1022) (by decide +kernel), List.mem_of_getElem? (i := 1023) (by decide +kernel)⟩
theorem lw_p31 : lw_okq (⟨"AloneIsAQuantityModel", "passOne", "(I)I"⟩, 31) := ⟨⟨by decide +kernel, by decide +kernel⟩, List.mem_of_getElem? (i := 877) (by decide +kernel), List.mem_of_getElem? (i := 1026) (by decide +kernel), List.mem_of_getElem? (i := 1027) (by decide +kernel)⟩
def lw_privs_2 : List (MethodName × Nat) := [(⟨"AloneIsAQuantity$Lending", "isNearGiverBeside", "(III)Z"⟩, 4), (⟨"AloneIsAQuantity$OtherMoors", "weighChoices", "(II)V"⟩, 5), (⟨"AloneIsAQuantity$OtherMoors", "chosenCell", "(II)I"⟩, 5), (⟨"AloneIsAQuantity$OtherMoors", "isSteady", "(II)Z"⟩, 5), (⟨"AloneIsAQuantity$OtherMoors", "sharesAreTold", "(LAloneIsAQuantity$Numbers;)Z"⟩, 5), (⟨"AloneIsAQuantity$OtherMoors", "placeAllByLot", "()V"⟩, 5), (⟨"AloneIsAQuantity$Moor", "allOf", "(LAloneIsAQuantity$Numbers;)I"⟩, 13), (⟨"AloneIsAQuantityModel", "no", "(I)I"⟩, 31), (⟨"AloneIsAQuantityModel", "statement", "()Z"⟩, 31), (⟨"AloneIsAQuantityModel", "next", "()I"⟩, 31), (⟨"AloneIsAQuantityModel", "readsAll", "(II)Z"⟩, 31), (⟨"AloneIsAQuantityModel", "readsKind", "(I)Z"⟩, 31), (⟨"AloneIsAQuantityModel", "readsDigits", "(II)Z"⟩, 31), (⟨"AloneIsAQuantityModel", "passesAll", "(IZ)V"⟩, 31), (⟨"AloneIsAQuantityModel", "passes", "([I)V"⟩, 31), (⟨"AloneIsAQuantityModel", "passOne", "(I)I"⟩, 31)]
theorem lw_r2 : ∀ q ∈ lw_privs_2, lw_okq q := List.forall_mem_cons.mpr ⟨lw_p16, List.forall_mem_cons.mpr ⟨lw_p17, List.forall_mem_cons.mpr ⟨lw_p18, List.forall_mem_cons.mpr ⟨lw_p19, List.forall_mem_cons.mpr ⟨lw_p20, List.forall_mem_cons.mpr ⟨lw_p21, List.forall_mem_cons.mpr ⟨lw_p22, List.forall_mem_cons.mpr ⟨lw_p23, List.forall_mem_cons.mpr ⟨lw_p24, List.forall_mem_cons.mpr ⟨lw_p25, List.forall_mem_cons.mpr ⟨lw_p26, List.forall_mem_cons.mpr ⟨lw_p27, List.forall_mem_cons.mpr ⟨lw_p28, List.forall_mem_cons.mpr ⟨lw_p29, List.forall_mem_cons.mpr ⟨lw_p30, List.forall_mem_cons.mpr ⟨lw_p31, fun _ h => absurd h List.not_mem_nil⟩⟩⟩⟩⟩⟩⟩⟩⟩⟩⟩⟩⟩⟩⟩⟩
theorem lw_p32 : lw_okq (⟨"AloneIsAQuantityModel", "comes", "(I)Z"⟩, 31) := ⟨⟨by decide +kernel, by decide +kernel⟩, List.mem_of_getElem? (i := 877) (by decide +kernel), List.mem_of_getElem? (i := 1030) (by decide +kernel), List.mem_of_getElem? (i := 1031) (by decide +kernel)⟩
theorem lw_p33 : lw_okq (⟨"AloneIsAQuantityModel", "comesOne", "(I)Z"⟩, 31) := ⟨⟨by decide +kernel, by decide +kernel⟩, List.mem_of_getElem? (i := 877) (by decide +kernel), List.mem_of_getElem? (i := 1034) (by decide +kernel), List.mem_of_getElem? (i := 1035) (by decide +kernel)⟩
theorem lw_p34 : lw_okq (⟨"AloneIsAQuantityModel", "adds", "(IIII)V"⟩, 31) := ⟨⟨by decide +kernel, by decide +kernel⟩, List.mem_of_getElem? (i := 877) (by decide +kernel), List.mem_of_getElem? (i := 1041) (by decide +kernel), List.mem_of_getElem? (i := 1042) (by decide +kernel)⟩
theorem lw_p35 : lw_okq (⟨"AloneIsAQuantityModel", "isOne", "(I)Z"⟩, 31) := ⟨⟨by decide +kernel, by decide +kernel⟩, List.mem_of_getElem? (i := 877) (by decide +kernel), List.mem_of_getElem? (i := 1045) (by decide +kernel), List.mem_of_getElem? (i := 1046) (by decide +kernel)⟩
theorem lw_p36 : lw_okq (⟨"AloneIsAQuantityModel", "areTwo", "(II)Z"⟩, 31) := ⟨⟨by decide +kernel, by decide +kernel⟩, List.mem_of_getElem? (i := 877) (by decide +kernel), List.mem_of_getElem? (i := 1049) (by decide +kernel), List.mem_of_getElem? (i := 1050) (by decide +kernel)⟩
theorem lw_p37 : lw_okq (⟨"AloneIsAQuantityModel", "comesDays", "(I)Z"⟩, 31) := ⟨⟨by decide +kernel, by decide +kernel⟩, List.mem_of_getElem? (i := 877) (by decide +kernel), List.mem_of_getElem? (i := 1053) (by decide +kernel), List.mem_of_getElem? (i := 1054) (by decide +kernel)⟩
theorem lw_p38 : lw_okq (⟨"AloneIsAQuantityModel", "goesDay", "(II)V"⟩, 31) := ⟨⟨by decide +kernel, by decide +kernel⟩, List.mem_of_getElem? (i := 877) (by decide +kernel), List.mem_of_getElem? (i := 1057) (by decide +kernel), List.mem_of_getElem? (i := 1058) (by decide +kernel)⟩
theorem lw_p39 : lw_okq (⟨"AloneIsAQuantityModel", "findShares", "()V"⟩, 31) := ⟨⟨by decide +kernel, by decide +kernel⟩, List.mem_of_getElem? (i := 877) (by decide +kernel), List.mem_of_getElem? (i := 1061) (by decide +kernel), List.mem_of_getElem? (i := 1062) (by decide +kernel)⟩
theorem lw_p40 : lw_okq (⟨"AloneIsAQuantityModel", "allWeights", "()I"⟩, 31) := ⟨⟨by decide +kernel, by decide +kernel⟩, List.mem_of_getElem? (i := 877) (by decide +kernel), List.mem_of_getElem? (i := 1065) (by decide +kernel), List.mem_of_getElem? (i := 1066) (by decide +kernel)⟩
theorem lw_p41 : lw_okq (⟨"AloneIsAQuantityModel", "isThere", "(I)Z"⟩, 31) := ⟨⟨by decide +kernel, by decide +kernel⟩, List.mem_of_getElem? (i := 877) (by decide +kernel), List.mem_of_getElem? (i := 1069) (by decide +kernel), List.mem_of_getElem? (i := 1070) (by decide +kernel)⟩
theorem lw_p42 : lw_okq (⟨"AloneIsAQuantityModel", "weightOf", "(I)I"⟩, 31) := ⟨⟨by decide +kernel, by decide +kernel⟩, List.mem_of_getElem? (i := 877) (by decide +kernel), List.mem_of_getElem? (i := 1076) (by decide +kernel), List.mem_of_getElem? (i := 1077) (by decide +kernel)⟩
theorem lw_p43 : lw_okq (⟨"AloneIsAQuantityModel", "stepsOf", "(I)I"⟩, 31) := ⟨⟨by decide +kernel, by decide +kernel⟩, List.mem_of_getElem? (i := 877) (by decide +kernel), List.mem_of_getElem? (i := 1080) (by decide +kernel), List.mem_of_getElem? (i := 1081) (by decide +kernel)⟩
theorem lw_p44 : lw_okq (⟨"AloneIsAQuantityModel", "isLonely", "(I)Z"⟩, 31) := ⟨⟨by decide +kernel, by decide +kernel⟩, List.mem_of_getElem? (i := 877) (by decide +kernel), List.mem_of_getElem? (i := 1093) (by decide +kernel), List.mem_of_getElem? (i := 1094) (by decide +kernel)⟩
theorem lw_p45 : lw_okq (⟨"AloneIsAQuantityModel", "hasNow", "(I)I"⟩, 31) := ⟨⟨by decide +kernel, by decide +kernel⟩, List.mem_of_getElem? (i := 877) (by decide +kernel), List.mem_of_getElem? (i := 1097) (by decide +kernel), List.mem_of_getElem? (i := 1098) (by decide +kernel)⟩
theorem lw_p46 : lw_okq (⟨"AloneIsAQuantityModel", "netOf", "(I)I"⟩, 31) := ⟨⟨by decide +kernel, by decide +kernel⟩, List.mem_of_getElem? (i := 877) (by decide +kernel), List.mem_of_getElem? (i := 1101) (by decide +kernel), List.mem_of_getElem? (i := 1102) (by decide +kernel)⟩
theorem lw_p47 : lw_okq (⟨"AloneIsAQuantityModel", "lower", "(I)I"⟩, 31) := ⟨⟨by decide +kernel, by decide +kernel⟩, List.mem_of_getElem? (i := 877) (by decide +kernel), List.mem_of_getElem? (i := 1121) (by decide +kernel), List.mem_of_getElem? (i := 1122) (by decide +kernel)⟩
def lw_privs_3 : List (MethodName × Nat) := [(⟨"AloneIsAQuantityModel", "comes", "(I)Z"⟩, 31), (⟨"AloneIsAQuantityModel", "comesOne", "(I)Z"⟩, 31), (⟨"AloneIsAQuantityModel", "adds", "(IIII)V"⟩, 31), (⟨"AloneIsAQuantityModel", "isOne", "(I)Z"⟩, 31), (⟨"AloneIsAQuantityModel", "areTwo", "(II)Z"⟩, 31), (⟨"AloneIsAQuantityModel", "comesDays", "(I)Z"⟩, 31), (⟨"AloneIsAQuantityModel", "goesDay", "(II)V"⟩, 31), (⟨"AloneIsAQuantityModel", "findShares", "()V"⟩, 31), (⟨"AloneIsAQuantityModel", "allWeights", "()I"⟩, 31), (⟨"AloneIsAQuantityModel", "isThere", "(I)Z"⟩, 31), (⟨"AloneIsAQuantityModel", "weightOf", "(I)I"⟩, 31), (⟨"AloneIsAQuantityModel", "stepsOf", "(I)I"⟩, 31), (⟨"AloneIsAQuantityModel", "isLonely", "(I)Z"⟩, 31), (⟨"AloneIsAQuantityModel", "hasNow", "(I)I"⟩, 31), (⟨"AloneIsAQuantityModel", "netOf", "(I)I"⟩, 31), (⟨"AloneIsAQuantityModel", "lower", "(I)I"⟩, 31)]
theorem lw_r3 : ∀ q ∈ lw_privs_3, lw_okq q := List.forall_mem_cons.mpr ⟨lw_p32, List.forall_mem_cons.mpr ⟨lw_p33, List.forall_mem_cons.mpr ⟨lw_p34, List.forall_mem_cons.mpr ⟨lw_p35, List.forall_mem_cons.mpr ⟨lw_p36, List.forall_mem_cons.mpr ⟨lw_p37, List.forall_mem_cons.mpr ⟨lw_p38, List.forall_mem_cons.mpr ⟨lw_p39, List.forall_mem_cons.mpr ⟨lw_p40, List.forall_mem_cons.mpr ⟨lw_p41, List.forall_mem_cons.mpr ⟨lw_p42, List.forall_mem_cons.mpr ⟨lw_p43, List.forall_mem_cons.mpr ⟨lw_p44, List.forall_mem_cons.mpr ⟨lw_p45, List.forall_mem_cons.mpr ⟨lw_p46, List.forall_mem_cons.mpr ⟨lw_p47, fun _ h => absurd h List.not_mem_nil⟩⟩⟩⟩⟩⟩⟩⟩⟩⟩⟩⟩⟩⟩⟩⟩
theorem lw_p48 : lw_okq (⟨"AloneIsAQuantityModel", "thinks", "()V"⟩, 31) := ⟨⟨by decide +kernel, by decide +kernel⟩, List.mem_of_getElem? (i := 877) (by decide +kernel), List.mem_of_getElem? (i := 1158) (by decide +kernel), List.mem_of_getElem? (i := 1159) (by decide +kernel)⟩
theorem lw_p49 : lw_okq (⟨"AloneIsAQuantityModel", "noShorts", "()V"⟩, 31) := ⟨⟨by decide +kernel, by decide +kernel⟩, List.mem_of_getElem? (i := 877) (by decide +kernel), List.mem_of_getElem? (i := 1162) (by decide +kernel), List.mem_of_getElem? (i := 1163) (by decide +kernel)⟩
theorem lw_p50 : lw_okq (⟨"AloneIsAQuantityModel", "forgets", "()V"⟩, 31) := ⟨⟨by decide +kernel, by decide +kernel⟩, List.mem_of_getElem? (i := 877) (by decide +kernel), List.mem_of_getElem? (i := 1166) (by decide +kernel), List.mem_of_getElem? (i := 1167) (by decide +kernel)⟩
theorem lw_p51 : lw_okq (⟨"AloneIsAQuantityModel", "shortOn", "(I)I"⟩, 31) := ⟨⟨by decide +kernel, by decide +kernel⟩, List.mem_of_getElem? (i := 877) (by decide +kernel), List.mem_of_getElem? (i := 1174) (by decide +kernel), List.mem_of_getElem? (i := 1175) (by decide +kernel)⟩
theorem lw_p52 : lw_okq (⟨"AloneIsAQuantityModel", "leastOfOthers", "(I)I"⟩, 31) := ⟨⟨by decide +kernel, by decide +kernel⟩, List.mem_of_getElem? (i := 877) (by decide +kernel), List.mem_of_getElem? (i := 1186) (by decide +kernel), List.mem_of_getElem? (i := 1187) (by decide +kernel)⟩
theorem lw_p53 : lw_okq (⟨"AloneIsAQuantityModel", "takesFrom", "(II)I"⟩, 31) := ⟨⟨by decide +kernel, by decide +kernel⟩, List.mem_of_getElem? (i := 877) (by decide +kernel), List.mem_of_getElem? (i := 1194) (by decide +kernel), List.mem_of_getElem? (i := 1195) (by decide +kernel)⟩
theorem lw_p54 : lw_okq (⟨"AloneIsAQuantityModel", "sharesOfFirst", "(I)I"⟩, 31) := ⟨⟨by decide +kernel, by decide +kernel⟩, List.mem_of_getElem? (i := 877) (by decide +kernel), List.mem_of_getElem? (i := 1206) (by decide +kernel), List.mem_of_getElem? (i := 1207) (by decide +kernel)⟩
theorem lw_p55 : lw_okq (⟨"AloneIsAQuantityModel", "gladBy", "(I)I"⟩, 31) := ⟨⟨by decide +kernel, by decide +kernel⟩, List.mem_of_getElem? (i := 877) (by decide +kernel), List.mem_of_getElem? (i := 1214) (by decide +kernel), List.mem_of_getElem? (i := 1215) (by decide +kernel)⟩
theorem lw_p56 : lw_okq (⟨"AloneIsAQuantityModel", "cutBy", "(II)I"⟩, 31) := ⟨⟨by decide +kernel, by decide +kernel⟩, List.mem_of_getElem? (i := 877) (by decide +kernel), List.mem_of_getElem? (i := 1226) (by decide +kernel), List.mem_of_getElem? (i := 1227) (by decide +kernel)⟩
theorem lw_p57 : lw_okq (⟨"AloneIsAQuantityModel", "lackOf", "(I)I"⟩, 31) := ⟨⟨by decide +kernel, by decide +kernel⟩, List.mem_of_getElem? (i := 877) (by decide +kernel), List.mem_of_getElem? (i := 1230) (by decide +kernel), List.mem_of_getElem? (i := 1231) (by decide +kernel)⟩
theorem lw_p58 : lw_okq (⟨"AloneIsAQuantityModel", "isNearOne", "(III)Z"⟩, 31) := ⟨⟨by decide +kernel, by decide +kernel⟩, List.mem_of_getElem? (i := 877) (by decide +kernel), List.mem_of_getElem? (i := 1234) (by decide +kernel), List.mem_of_getElem? (i := 1235) (by decide +kernel)⟩
theorem lw_p59 : lw_okq (⟨"AloneIsAQuantityModel", "overOf", "(I)I"⟩, 31) := ⟨⟨by decide +kernel, by decide +kernel⟩, List.mem_of_getElem? (i := 877) (by decide +kernel), List.mem_of_getElem? (i := 1238) (by decide +kernel), List.mem_of_getElem? (i := 1239) (by decide +kernel)⟩
theorem lw_p60 : lw_okq (⟨"AloneIsAQuantityModel", "fewestLoans", "()I"⟩, 31) := ⟨⟨by decide +kernel, by decide +kernel⟩, List.mem_of_getElem? (i := 877) (by decide +kernel), List.mem_of_getElem? (i := 1250) (by decide +kernel), List.mem_of_getElem? (i := 1251) (by decide +kernel)⟩
theorem lw_p61 : lw_okq (⟨"AloneIsAQuantityModel", "netsOf", "(I)I"⟩, 31) := ⟨⟨by decide +kernel, by decide +kernel⟩, List.mem_of_getElem? (i := 877) (by decide +kernel), List.mem_of_getElem? (i := 1254) (by decide +kernel), List.mem_of_getElem? (i := 1255) (by decide +kernel)⟩
theorem lw_p62 : lw_okq (⟨"AloneIsAQuantityModel", "surveyIn", "(I)I"⟩, 31) := ⟨⟨by decide +kernel, by decide +kernel⟩, List.mem_of_getElem? (i := 877) (by decide +kernel), List.mem_of_getElem? (i := 1262) (by decide +kernel), List.mem_of_getElem? (i := 1263) (by decide +kernel)⟩
theorem lw_p63 : lw_okq (⟨"AloneIsAQuantityModel", "shareIn", "(II)I"⟩, 31) := ⟨⟨by decide +kernel, by decide +kernel⟩, List.mem_of_getElem? (i := 877) (by decide +kernel), List.mem_of_getElem? (i := 1274) (by decide +kernel), List.mem_of_getElem? (i := 1275) (by decide +kernel)⟩
def lw_privs_4 : List (MethodName × Nat) := [(⟨"AloneIsAQuantityModel", "thinks", "()V"⟩, 31), (⟨"AloneIsAQuantityModel", "noShorts", "()V"⟩, 31), (⟨"AloneIsAQuantityModel", "forgets", "()V"⟩, 31), (⟨"AloneIsAQuantityModel", "shortOn", "(I)I"⟩, 31), (⟨"AloneIsAQuantityModel", "leastOfOthers", "(I)I"⟩, 31), (⟨"AloneIsAQuantityModel", "takesFrom", "(II)I"⟩, 31), (⟨"AloneIsAQuantityModel", "sharesOfFirst", "(I)I"⟩, 31), (⟨"AloneIsAQuantityModel", "gladBy", "(I)I"⟩, 31), (⟨"AloneIsAQuantityModel", "cutBy", "(II)I"⟩, 31), (⟨"AloneIsAQuantityModel", "lackOf", "(I)I"⟩, 31), (⟨"AloneIsAQuantityModel", "isNearOne", "(III)Z"⟩, 31), (⟨"AloneIsAQuantityModel", "overOf", "(I)I"⟩, 31), (⟨"AloneIsAQuantityModel", "fewestLoans", "()I"⟩, 31), (⟨"AloneIsAQuantityModel", "netsOf", "(I)I"⟩, 31), (⟨"AloneIsAQuantityModel", "surveyIn", "(I)I"⟩, 31), (⟨"AloneIsAQuantityModel", "shareIn", "(II)I"⟩, 31)]
theorem lw_r4 : ∀ q ∈ lw_privs_4, lw_okq q := List.forall_mem_cons.mpr ⟨lw_p48, List.forall_mem_cons.mpr ⟨lw_p49, List.forall_mem_cons.mpr ⟨lw_p50, List.forall_mem_cons.mpr ⟨lw_p51, List.forall_mem_cons.mpr ⟨lw_p52, List.forall_mem_cons.mpr ⟨lw_p53, List.forall_mem_cons.mpr ⟨lw_p54, List.forall_mem_cons.mpr ⟨lw_p55, List.forall_mem_cons.mpr ⟨lw_p56, List.forall_mem_cons.mpr ⟨lw_p57, List.forall_mem_cons.mpr ⟨lw_p58, List.forall_mem_cons.mpr ⟨lw_p59, List.forall_mem_cons.mpr ⟨lw_p60, List.forall_mem_cons.mpr ⟨lw_p61, List.forall_mem_cons.mpr ⟨lw_p62, List.forall_mem_cons.mpr ⟨lw_p63, fun _ h => absurd h List.not_mem_nil⟩⟩⟩⟩⟩⟩⟩⟩⟩⟩⟩⟩⟩⟩⟩⟩
theorem lw_p64 : lw_okq (⟨"AloneIsAQuantityModel", "findWays", "(II)V"⟩, 31) := ⟨⟨by decide +kernel, by decide +kernel⟩, List.mem_of_getElem? (i := 877) (by decide +kernel), List.mem_of_getElem? (i := 1282) (by decide +kernel), List.mem_of_getElem? (i := 1283) (by decide +kernel)⟩
theorem lw_p65 : lw_okq (⟨"AloneIsAQuantityModel", "rests", "(I)Z"⟩, 31) := ⟨⟨by decide +kernel, by decide +kernel⟩, List.mem_of_getElem? (i := 877) (by decide +kernel), List.mem_of_getElem? (i := 1289) (by decide +kernel), List.mem_of_getElem? (i := 1290) (by decide +kernel)⟩
theorem lw_p66 : lw_okq (⟨"AloneIsAQuantityModel", "isRich", "()Z"⟩, 31) := ⟨⟨by decide +kernel, by decide +kernel⟩, List.mem_of_getElem? (i := 877) (by decide +kernel), List.mem_of_getElem? (i := 1301) (by decide +kernel), List.mem_of_getElem? (i := 1302) (by decide +kernel)⟩
theorem lw_p67 : lw_okq (⟨"AloneIsAQuantityModel", "bitsFor", "([III)I"⟩, 31) := ⟨⟨by decide +kernel, by decide +kernel⟩, List.mem_of_getElem? (i := 877) (by decide +kernel), List.mem_of_getElem? (i := 1313) (by decide +kernel), List.mem_of_getElem? (i := 1314) (by decide +kernel)⟩
theorem lw_p68 : lw_okq (⟨"AloneIsAQuantityModel", "isSo", "()Z"⟩, 31) := ⟨⟨by decide +kernel, by decide +kernel⟩, List.mem_of_getElem? (i := 877) (by decide +kernel), List.mem_of_getElem? (i := 1317) (by decide +kernel), List.mem_of_getElem? (i := 1318) (by decide +kernel)⟩
def lw_privs_5 : List (MethodName × Nat) := [(⟨"AloneIsAQuantityModel", "findWays", "(II)V"⟩, 31), (⟨"AloneIsAQuantityModel", "rests", "(I)Z"⟩, 31), (⟨"AloneIsAQuantityModel", "isRich", "()Z"⟩, 31), (⟨"AloneIsAQuantityModel", "bitsFor", "([III)I"⟩, 31), (⟨"AloneIsAQuantityModel", "isSo", "()Z"⟩, 31)]
theorem lw_r5 : ∀ q ∈ lw_privs_5, lw_okq q := List.forall_mem_cons.mpr ⟨lw_p64, List.forall_mem_cons.mpr ⟨lw_p65, List.forall_mem_cons.mpr ⟨lw_p66, List.forall_mem_cons.mpr ⟨lw_p67, List.forall_mem_cons.mpr ⟨lw_p68, fun _ h => absurd h List.not_mem_nil⟩⟩⟩⟩⟩
def lw_privs : List (MethodName × Nat) := lw_privs_1 ++ (lw_privs_2 ++ (lw_privs_3 ++ (lw_privs_4 ++ (lw_privs_5))))
def lw_tbl : List Cond := k2_sels lw_privs ++ tables_1
theorem lw_privs_ok : ∀ q ∈ lw_privs, lw_okq q := by
  show ∀ q ∈ lw_privs_1 ++ (lw_privs_2 ++ (lw_privs_3 ++ (lw_privs_4 ++ (lw_privs_5)))), lw_okq q
  exact List.forall_mem_append.mpr ⟨lw_r1, List.forall_mem_append.mpr ⟨lw_r2, List.forall_mem_append.mpr ⟨lw_r3, List.forall_mem_append.mpr ⟨lw_r4, lw_r5⟩⟩⟩⟩
-- ===== end of PART A; then your names; then what follows =====
end
section
/-! The classes of the program, the words of the tables that a method needs; laid by gen_names.py -/
def RJ0 : String := "java/lang/String"
def RJ1 : String := "java/lang/StringLatin1"
def RJ2 : String := "java/lang/StringUTF16"
def RJ3 : String := "jdk/internal/util/Preconditions"
def RJ6 : String := "java/lang/Integer"
def RJ9 : String := "java/lang/Math"
def RX0 : String := "AloneIsAQuantity$DaysToCome"
def RX1 : String := "AloneIsAQuantity$Draw"
def RX2 : String := "AloneIsAQuantity$Lending"
def RX3 : String := "AloneIsAQuantity$Moor"
def RX4 : String := "AloneIsAQuantity$Numbers"
def RX5 : String := "AloneIsAQuantity$OtherMoors"
def RX6 : String := "AloneIsAQuantity$Text"
def RX7 : String := "AloneIsAQuantity"
def RX8 : String := "AloneIsAQuantityModel"
def TX0 : u_T := fun k => match k with
  | 0 => ("AloneIsAQuantity$DaysToCome", "moor", "LAloneIsAQuantity$Moor;", true)
  | _ => ("AloneIsAQuantity$DaysToCome", "thought", "LAloneIsAQuantity$Moor;", true)
def tyX0 : Nat → FieldType := fun k => match k with
  | 0 => (.object "AloneIsAQuantity$Moor")
  | _ => (.object "AloneIsAQuantity$Moor")
theorem nmX0 : ∀ a, a < 2 → ∀ b, b < 2 → a ≠ b → (TX0 a).2.1 ≠ (TX0 b).2.1 := by decide +kernel
theorem tyokX0 : ∀ k, k < 2 → parseFieldDescriptor (TX0 k).2.2.1 = some (tyX0 k) := by decide +kernel
def TX1 : u_T := fun k => match k with
  | _ => ("AloneIsAQuantity$Draw", "z", "I", false)
def tyX1 : Nat → FieldType := fun k => match k with
  | _ => .int
theorem nmX1 : ∀ a, a < 1 → ∀ b, b < 1 → a ≠ b → (TX1 a).2.1 ≠ (TX1 b).2.1 := by decide +kernel
theorem tyokX1 : ∀ k, k < 1 → parseFieldDescriptor (TX1 k).2.2.1 = some (tyX1 k) := by decide +kernel
def TX2 : u_T := fun k => match k with
  | 0 => ("AloneIsAQuantity$Lending", "moor", "LAloneIsAQuantity$Moor;", true)
  | 1 => ("AloneIsAQuantity$Lending", "spares", "LAloneIsAQuantity$Numbers;", true)
  | 2 => ("AloneIsAQuantity$Lending", "lacks", "LAloneIsAQuantity$Numbers;", true)
  | _ => ("AloneIsAQuantity$Lending", "groups", "LAloneIsAQuantity$Numbers;", true)
def tyX2 : Nat → FieldType := fun k => match k with
  | 0 => (.object "AloneIsAQuantity$Moor")
  | 1 => (.object "AloneIsAQuantity$Numbers")
  | 2 => (.object "AloneIsAQuantity$Numbers")
  | _ => (.object "AloneIsAQuantity$Numbers")
theorem nmX2 : ∀ a, a < 4 → ∀ b, b < 4 → a ≠ b → (TX2 a).2.1 ≠ (TX2 b).2.1 := by decide +kernel
theorem tyokX2 : ∀ k, k < 4 → parseFieldDescriptor (TX2 k).2.2.1 = some (tyX2 k) := by decide +kernel
def TX3 : u_T := fun k => match k with
  | 0 => ("AloneIsAQuantity$Moor", "kinds", "LAloneIsAQuantity$Numbers;", true)
  | 1 => ("AloneIsAQuantity$Moor", "figures", "LAloneIsAQuantity$Numbers;", true)
  | 2 => ("AloneIsAQuantity$Moor", "cells", "LAloneIsAQuantity$Numbers;", true)
  | 3 => ("AloneIsAQuantity$Moor", "needs", "LAloneIsAQuantity$Numbers;", true)
  | 4 => ("AloneIsAQuantity$Moor", "kepts", "LAloneIsAQuantity$Numbers;", true)
  | 5 => ("AloneIsAQuantity$Moor", "lents", "LAloneIsAQuantity$Numbers;", true)
  | 6 => ("AloneIsAQuantity$Moor", "nets", "LAloneIsAQuantity$Numbers;", true)
  | 7 => ("AloneIsAQuantity$Moor", "weights", "LAloneIsAQuantity$Numbers;", true)
  | 8 => ("AloneIsAQuantity$Moor", "shares", "LAloneIsAQuantity$Numbers;", true)
  | 9 => ("AloneIsAQuantity$Moor", "people", "I", false)
  | 10 => ("AloneIsAQuantity$Moor", "total", "I", false)
  | 11 => ("AloneIsAQuantity$Moor", "day", "I", false)
  | _ => ("AloneIsAQuantity$Moor", "weightOfAll", "I", false)
def tyX3 : Nat → FieldType := fun k => match k with
  | 0 => (.object "AloneIsAQuantity$Numbers")
  | 1 => (.object "AloneIsAQuantity$Numbers")
  | 2 => (.object "AloneIsAQuantity$Numbers")
  | 3 => (.object "AloneIsAQuantity$Numbers")
  | 4 => (.object "AloneIsAQuantity$Numbers")
  | 5 => (.object "AloneIsAQuantity$Numbers")
  | 6 => (.object "AloneIsAQuantity$Numbers")
  | 7 => (.object "AloneIsAQuantity$Numbers")
  | 8 => (.object "AloneIsAQuantity$Numbers")
  | 9 => .int
  | 10 => .int
  | 11 => .int
  | _ => .int
theorem nmX3 : ∀ a, a < 13 → ∀ b, b < 13 → a ≠ b → (TX3 a).2.1 ≠ (TX3 b).2.1 := by decide +kernel
theorem tyokX3 : ∀ k, k < 13 → parseFieldDescriptor (TX3 k).2.2.1 = some (tyX3 k) := by decide +kernel
def TX4 : u_T := fun k => match k with
  | _ => ("AloneIsAQuantity$Numbers", "all", "[I", true)
def tyX4 : Nat → FieldType := fun k => match k with
  | _ => (.array .int)
theorem nmX4 : ∀ a, a < 1 → ∀ b, b < 1 → a ≠ b → (TX4 a).2.1 ≠ (TX4 b).2.1 := by decide +kernel
theorem tyokX4 : ∀ k, k < 1 → parseFieldDescriptor (TX4 k).2.2.1 = some (tyX4 k) := by decide +kernel
def TX5 : u_T := fun k => match k with
  | 0 => ("AloneIsAQuantity$OtherMoors", "moor", "LAloneIsAQuantity$Moor;", true)
  | 1 => ("AloneIsAQuantity$OtherMoors", "thought", "LAloneIsAQuantity$Moor;", true)
  | 2 => ("AloneIsAQuantity$OtherMoors", "draw", "LAloneIsAQuantity$Draw;", true)
  | 3 => ("AloneIsAQuantity$OtherMoors", "firstShares", "LAloneIsAQuantity$Numbers;", true)
  | _ => ("AloneIsAQuantity$OtherMoors", "secondShares", "LAloneIsAQuantity$Numbers;", true)
def tyX5 : Nat → FieldType := fun k => match k with
  | 0 => (.object "AloneIsAQuantity$Moor")
  | 1 => (.object "AloneIsAQuantity$Moor")
  | 2 => (.object "AloneIsAQuantity$Draw")
  | 3 => (.object "AloneIsAQuantity$Numbers")
  | _ => (.object "AloneIsAQuantity$Numbers")
theorem nmX5 : ∀ a, a < 5 → ∀ b, b < 5 → a ≠ b → (TX5 a).2.1 ≠ (TX5 b).2.1 := by decide +kernel
theorem tyokX5 : ∀ k, k < 5 → parseFieldDescriptor (TX5 k).2.2.1 = some (tyX5 k) := by decide +kernel
def TX6 : u_T := fun k => match k with
  | 0 => ("AloneIsAQuantity$Text", "letters", "LAloneIsAQuantity$Numbers;", true)
  | _ => ("AloneIsAQuantity$Text", "length", "I", false)
def tyX6 : Nat → FieldType := fun k => match k with
  | 0 => (.object "AloneIsAQuantity$Numbers")
  | _ => .int
theorem nmX6 : ∀ a, a < 2 → ∀ b, b < 2 → a ≠ b → (TX6 a).2.1 ≠ (TX6 b).2.1 := by decide +kernel
theorem tyokX6 : ∀ k, k < 2 → parseFieldDescriptor (TX6 k).2.2.1 = some (tyX6 k) := by decide +kernel
def TX7 : u_T := fun k => match k with
  | 0 => ("AloneIsAQuantity", "moor", "LAloneIsAQuantity$Moor;", true)
  | 1 => ("AloneIsAQuantity", "thought", "LAloneIsAQuantity$Moor;", true)
  | 2 => ("AloneIsAQuantity", "daysToCome", "LAloneIsAQuantity$DaysToCome;", true)
  | 3 => ("AloneIsAQuantity", "otherMoors", "LAloneIsAQuantity$OtherMoors;", true)
  | 4 => ("AloneIsAQuantity", "lending", "LAloneIsAQuantity$Lending;", true)
  | 5 => ("AloneIsAQuantity", "text", "LAloneIsAQuantity$Text;", true)
  | 6 => ("AloneIsAQuantity", "imageMoor", "LAloneIsAQuantity$Moor;", true)
  | 7 => ("AloneIsAQuantity", "imageTaken", "Z", false)
  | 8 => ("AloneIsAQuantity", "told", "LAloneIsAQuantity$Numbers;", true)
  | 9 => ("AloneIsAQuantity", "toldCount", "I", false)
  | _ => ("AloneIsAQuantity", "refusals", "LAloneIsAQuantity$Numbers;", true)
def tyX7 : Nat → FieldType := fun k => match k with
  | 0 => (.object "AloneIsAQuantity$Moor")
  | 1 => (.object "AloneIsAQuantity$Moor")
  | 2 => (.object "AloneIsAQuantity$DaysToCome")
  | 3 => (.object "AloneIsAQuantity$OtherMoors")
  | 4 => (.object "AloneIsAQuantity$Lending")
  | 5 => (.object "AloneIsAQuantity$Text")
  | 6 => (.object "AloneIsAQuantity$Moor")
  | 7 => .boolean
  | 8 => (.object "AloneIsAQuantity$Numbers")
  | 9 => .int
  | _ => (.object "AloneIsAQuantity$Numbers")
theorem nmX7 : ∀ a, a < 11 → ∀ b, b < 11 → a ≠ b → (TX7 a).2.1 ≠ (TX7 b).2.1 := by decide +kernel
theorem tyokX7 : ∀ k, k < 11 → parseFieldDescriptor (TX7 k).2.2.1 = some (tyX7 k) := by decide +kernel
def TX8 : u_T := fun k => match k with
  | 0 => ("AloneIsAQuantityModel", "refused", "[I", true)
  | 1 => ("AloneIsAQuantityModel", "kind", "[I", true)
  | 2 => ("AloneIsAQuantityModel", "figure", "[I", true)
  | 3 => ("AloneIsAQuantityModel", "cell", "[I", true)
  | 4 => ("AloneIsAQuantityModel", "needs", "[I", true)
  | 5 => ("AloneIsAQuantityModel", "keeps", "[I", true)
  | 6 => ("AloneIsAQuantityModel", "lent", "[I", true)
  | 7 => ("AloneIsAQuantityModel", "people", "I", false)
  | 8 => ("AloneIsAQuantityModel", "total", "I", false)
  | 9 => ("AloneIsAQuantityModel", "day", "I", false)
  | 10 => ("AloneIsAQuantityModel", "tape", "[I", true)
  | 11 => ("AloneIsAQuantityModel", "letter", "[I", true)
  | 12 => ("AloneIsAQuantityModel", "letterAt", "[I", true)
  | 13 => ("AloneIsAQuantityModel", "told", "[I", true)
  | 14 => ("AloneIsAQuantityModel", "taped", "I", false)
  | 15 => ("AloneIsAQuantityModel", "at", "I", false)
  | 16 => ("AloneIsAQuantityModel", "statements", "I", false)
  | 17 => ("AloneIsAQuantityModel", "kept", "[I", true)
  | 18 => ("AloneIsAQuantityModel", "hasImage", "Z", false)
  | 19 => ("AloneIsAQuantityModel", "isKeeping", "Z", false)
  | 20 => ("AloneIsAQuantityModel", "cursor", "I", false)
  | 21 => ("AloneIsAQuantityModel", "out", "I", false)
  | 22 => ("AloneIsAQuantityModel", "share", "[I", true)
  | 23 => ("AloneIsAQuantityModel", "shorts", "[I", true)
  | 24 => ("AloneIsAQuantityModel", "shortToday", "I", false)
  | 25 => ("AloneIsAQuantityModel", "had", "[I", true)
  | 26 => ("AloneIsAQuantityModel", "groups", "[I", true)
  | 27 => ("AloneIsAQuantityModel", "first", "[I", true)
  | 28 => ("AloneIsAQuantityModel", "second", "[I", true)
  | 29 => ("AloneIsAQuantityModel", "row", "[I", true)
  | _ => ("AloneIsAQuantityModel", "rowMany", "I", false)
def tyX8 : Nat → FieldType := fun k => match k with
  | 0 => (.array .int)
  | 1 => (.array .int)
  | 2 => (.array .int)
  | 3 => (.array .int)
  | 4 => (.array .int)
  | 5 => (.array .int)
  | 6 => (.array .int)
  | 7 => .int
  | 8 => .int
  | 9 => .int
  | 10 => (.array .int)
  | 11 => (.array .int)
  | 12 => (.array .int)
  | 13 => (.array .int)
  | 14 => .int
  | 15 => .int
  | 16 => .int
  | 17 => (.array .int)
  | 18 => .boolean
  | 19 => .boolean
  | 20 => .int
  | 21 => .int
  | 22 => (.array .int)
  | 23 => (.array .int)
  | 24 => .int
  | 25 => (.array .int)
  | 26 => (.array .int)
  | 27 => (.array .int)
  | 28 => (.array .int)
  | 29 => (.array .int)
  | _ => .int
theorem nmX8 : ∀ a, a < 31 → ∀ b, b < 31 → a ≠ b → (TX8 a).2.1 ≠ (TX8 b).2.1 := by decide +kernel
theorem tyokX8 : ∀ k, k < 31 → parseFieldDescriptor (TX8 k).2.2.1 = some (tyX8 k) := by decide +kernel
def aCls : List vw_C := [(RX0, TX0, 2), (RX1, TX1, 1), (RX2, TX2, 4), (RX3, TX3, 13), (RX4, TX4, 1), (RX5, TX5, 5), (RX6, TX6, 2), (RX7, TX7, 11), (RX8, TX8, 31)]
def aBW : List Cond := lw_tbl.filter goodWord
theorem aBW_at (i : Nat) {w : Cond} (h : lw_tbl[i]? = some w) (g : goodWord w = true) : w ∈ aBW := List.mem_filter.mpr ⟨List.mem_of_getElem? h, g⟩
theorem aBW_sub {ws : List Cond} (ps : List Nat) (hp : ws = ps.filterMap (fun i => lw_tbl[i]?)) (h : ws.all goodWord = true) : ∀ w ∈ ws, w ∈ aBW := by
  intro w hw
  have h1 := List.all_eq_true.mp h w hw
  rw [hp] at hw
  obtain ⟨i, -, hi⟩ := List.mem_filterMap.mp hw
  exact aBW_at i hi h1
theorem aBW_good : ∀ w ∈ aBW, (w.onTables && w.keeps) = true ∨ ∃ ty, w = .arrayClass ty := fun w hw => good_of_word (List.mem_filter.mp hw).2
theorem aBW_in {y : MethodName} {cc : ByteArray} {n : Nat} {r : Option FieldType} (h : Cond.code y cc n r ∈ aBW) : GoodIn aBW (Cond.code y cc n r :: aBW) := fun w hw => by
  rcases List.mem_cons.mp hw with rfl | hw
  · exact ⟨h, aBW_good _ h⟩
  · exact ⟨hw, aBW_good _ hw⟩
theorem lyX0 : ∀ w ∈ u_ws RX0 TX0 2, w ∈ aBW := aBW_sub [161, 163] (by decide +kernel) (by decide +kernel)
theorem lyX1 : ∀ w ∈ u_ws RX1 TX1 1, w ∈ aBW := aBW_sub [179] (by decide +kernel) (by decide +kernel)
theorem lyX2 : ∀ w ∈ u_ws RX2 TX2 4, w ∈ aBW := aBW_sub [212, 214, 216, 218] (by decide +kernel) (by decide +kernel)
theorem lyX3 : ∀ w ∈ u_ws RX3 TX3 13, w ∈ aBW := aBW_sub [126, 128, 130, 132, 134, 136, 138, 140, 142, 144, 146, 148, 150] (by decide +kernel) (by decide +kernel)
theorem lyX4 : ∀ w ∈ u_ws RX4 TX4 1, w ∈ aBW := aBW_sub [109] (by decide +kernel) (by decide +kernel)
theorem lyX5 : ∀ w ∈ u_ws RX5 TX5 5, w ∈ aBW := aBW_sub [189, 191, 193, 195, 197] (by decide +kernel) (by decide +kernel)
theorem lyX6 : ∀ w ∈ u_ws RX6 TX6 2, w ∈ aBW := aBW_sub [231, 233] (by decide +kernel) (by decide +kernel)
theorem lyX7 : ∀ w ∈ u_ws RX7 TX7 11, w ∈ aBW := aBW_sub [249, 251, 253, 255, 257, 259, 261, 263, 265, 267, 269] (by decide +kernel) (by decide +kernel)
theorem lyX8 : ∀ w ∈ u_ws RX8 TX8 31, w ∈ aBW := aBW_sub [982, 984, 986, 988, 990, 992, 994, 996, 998, 1000, 1002, 1004, 1006, 1008, 1010, 1012, 1014, 1016, 1018, 1020, 1022, 1024, 1026, 1028, 1030, 1032, 1034, 1036, 1038, 1040, 1042] (by decide +kernel) (by decide +kernel)
theorem insX0 : Cond.instantiable RX0 2 ∈ aBW := aBW_at 154 (by decide +kernel) (by decide +kernel)
theorem iniX0 : Cond.initialized RX0 ∈ aBW := aBW_at 74 (by decide +kernel) (by decide +kernel)
theorem insX1 : Cond.instantiable RX1 1 ∈ aBW := aBW_at 173 (by decide +kernel) (by decide +kernel)
theorem iniX1 : Cond.initialized RX1 ∈ aBW := aBW_at 76 (by decide +kernel) (by decide +kernel)
theorem insX2 : Cond.instantiable RX2 4 ∈ aBW := aBW_at 201 (by decide +kernel) (by decide +kernel)
theorem iniX2 : Cond.initialized RX2 ∈ aBW := aBW_at 77 (by decide +kernel) (by decide +kernel)
theorem insX3 : Cond.instantiable RX3 13 ∈ aBW := aBW_at 94 (by decide +kernel) (by decide +kernel)
theorem iniX3 : Cond.initialized RX3 ∈ aBW := aBW_at 71 (by decide +kernel) (by decide +kernel)
theorem insX4 : Cond.instantiable RX4 1 ∈ aBW := aBW_at 100 (by decide +kernel) (by decide +kernel)
theorem iniX4 : Cond.initialized RX4 ∈ aBW := aBW_at 72 (by decide +kernel) (by decide +kernel)
theorem insX5 : Cond.instantiable RX5 5 ∈ aBW := aBW_at 167 (by decide +kernel) (by decide +kernel)
theorem iniX5 : Cond.initialized RX5 ∈ aBW := aBW_at 75 (by decide +kernel) (by decide +kernel)
theorem insX6 : Cond.instantiable RX6 2 ∈ aBW := aBW_at 222 (by decide +kernel) (by decide +kernel)
theorem iniX6 : Cond.initialized RX6 ∈ aBW := aBW_at 78 (by decide +kernel) (by decide +kernel)
theorem insX7 : Cond.instantiable RX7 11 ∈ aBW := aBW_at 86 (by decide +kernel) (by decide +kernel)
theorem iniX7 : Cond.initialized RX7 ∈ aBW := aBW_at 70 (by decide +kernel) (by decide +kernel)
theorem insX8 : Cond.instantiable RX8 31 ∈ aBW := aBW_at 946 (by decide +kernel) (by decide +kernel)
theorem iniX8 : Cond.initialized RX8 ∈ aBW := aBW_at 79 (by decide +kernel) (by decide +kernel)
theorem iniJ6 : Cond.initialized RJ6 ∈ aBW := aBW_at 84 (by decide +kernel) (by decide +kernel)
theorem iniJ9 : Cond.initialized RJ9 ∈ aBW := aBW_at 73 (by decide +kernel) (by decide +kernel)
theorem arrI : Cond.arrayClass .int ∈ aBW := aBW_at 112 (by decide +kernel) (by decide +kernel)
end
section
/-! An abstract machine over whole numbers: a value is a number (an int by its remainder) or a cell's place; the heap is a list of blocks of cells. -/
abbrev aV : Type := Int ⊕ Nat
abbrev aE : Type := List Int ⊕ (Nat × List (Option aV))
abbrev aH : Type := List (List (Option aE))
def aGet (h : aH) (k : Nat) : Option aE := (h.getD (k / 32) []).getD (k % 32) none
def aSet (h : aH) (k : Nat) (c : aE) : aH := h.set (k / 32) ((h.getD (k / 32) []).set (k % 32) (some c))
/-- how many cells a block has, and how many stand ahead of it -/
def aSz : List Nat := [1, 19, 19, 17, 19, 4, 20]
def aOff : List Nat := [0, 1, 20, 39, 56, 75, 79]
def aOrd (k : Nat) : Nat := aOff.getD (k / 32) 0 + k % 32
def aShape (h : aH) : Prop := h.map List.length = aSz
def aFits (k : Nat) : Prop := k / 32 < 7 ∧ k % 32 < aSz.getD (k / 32) 0
def aBlk (n : Nat) : Nat := if n < 1 then 0 else if n < 20 then 1 else if n < 39 then 2 else if n < 56 then 3 else if n < 75 then 4 else if n < 79 then 5 else 6
theorem aBlk_of : ∀ i, i < 7 → ∀ j, j < aSz.getD i 0 → aBlk (aOff.getD i 0 + j) = i := by decide +kernel
theorem aOrd_inj0 (i : Nat) (hi : i < 7) (i' : Nat) (hi' : i' < 7) (j : Nat) (hj : j < aSz.getD i 0) (j' : Nat) (hj' : j' < aSz.getD i' 0) (e : aOff.getD i 0 + j = aOff.getD i' 0 + j') : i = i' ∧ j = j' := by
  have h1 := aBlk_of i hi j hj
  have h2 := aBlk_of i' hi' j' hj'
  rw [e, h2] at h1
  subst h1
  exact ⟨rfl, by omega⟩
theorem aOrd_inj {k k' : Nat} (h : aFits k) (h' : aFits k') (e : aOrd k = aOrd k') : k = k' := by
  obtain ⟨e1, e2⟩ := aOrd_inj0 _ h.1 _ h'.1 _ h.2 _ h'.2 e
  rw [← Nat.div_add_mod k 32, ← Nat.div_add_mod k' 32, e1, e2]
theorem aOrd_lt0 : ∀ i, i < 7 → ∀ j, j < aSz.getD i 0 → aOff.getD i 0 + j < 99 := by decide +kernel
theorem aShape_len {h : aH} (hs : aShape h) : h.length = 7 := by
  have := congrArg List.length hs
  simpa [aSz] using this
theorem aShape_at {h : aH} (hs : aShape h) (i : Nat) : (h.getD i []).length = aSz.getD i 0 := by
  rw [← hs]
  simp only [List.getD_eq_getElem?_getD, List.getElem?_map]
  cases h[i]? <;> simp
theorem aGet_fits {h : aH} (hs : aShape h) {k : Nat} {e : aE} (hg : aGet h k = some e) : aFits k := by
  have h2 : k % 32 < (h.getD (k / 32) []).length := by
    rcases Nat.lt_or_ge (k % 32) (h.getD (k / 32) []).length with q | q
    · exact q
    · unfold aGet at hg
      rw [List.getD_eq_getElem?_getD, List.getElem?_eq_none q] at hg
      simp at hg
  have h1 : k / 32 < h.length := by
    rcases Nat.lt_or_ge (k / 32) h.length with q | q
    · exact q
    · rw [List.getD_eq_getElem?_getD, List.getElem?_eq_none q] at h2
      simp at h2
  exact ⟨by rw [← aShape_len hs]; exact h1, by rw [← aShape_at hs]; exact h2⟩
theorem aSet_shape {h : aH} (hs : aShape h) (k : Nat) (c : aE) : aShape (aSet h k c) := by
  unfold aShape aSet
  rw [List.map_set, ← hs]
  apply List.ext_getElem?
  intro i
  by_cases hi : i = k / 32
  · subst hi
    by_cases hl : k / 32 < h.length
    · rw [List.getElem?_set_self (by simpa using hl)]
      simp [hl]
    · rw [List.set_eq_of_length_le (by simp; omega)]
  · rw [List.getElem?_set_ne (Ne.symm hi)]
theorem aGet_set {h : aH} (hs : aShape h) {k : Nat} (hk : aFits k) (c : aE) (k' : Nat) : aGet (aSet h k c) k' = if k' = k then some c else aGet h k' := by
  have h1 : k / 32 < h.length := by rw [aShape_len hs]; exact hk.1
  have h2 : k % 32 < (h.getD (k / 32) []).length := by rw [aShape_at hs]; exact hk.2
  unfold aGet aSet
  by_cases e : k' / 32 = k / 32
  · rw [e]
    have e1 : (h.set (k / 32) ((h.getD (k / 32) []).set (k % 32) (some c))).getD (k / 32) [] = (h.getD (k / 32) []).set (k % 32) (some c) := by
      rw [List.getD_eq_getElem?_getD, List.getElem?_set_self h1]; rfl
    rw [e1]
    by_cases e2 : k' % 32 = k % 32
    · have e3 : k' = k := by rw [← Nat.div_add_mod k 32, ← Nat.div_add_mod k' 32, e, e2]
      rw [if_pos e3, e2, List.getD_eq_getElem?_getD, List.getElem?_set_self h2]; rfl
    · rw [if_neg (fun z => e2 (by rw [z])), List.getD_eq_getElem?_getD, List.getElem?_set_ne (Ne.symm e2), ← List.getD_eq_getElem?_getD]
  · rw [if_neg (fun z => e (by rw [z]))]
    have e1 : (h.set (k / 32) ((h.getD (k / 32) []).set (k % 32) (some c))).getD (k' / 32) [] = h.getD (k' / 32) [] := by
      rw [List.getD_eq_getElem?_getD, List.getElem?_set_ne (Ne.symm e), ← List.getD_eq_getElem?_getD]
    rw [e1]
/-! from abstract to concrete -/
def aAd (base b0 : Nat) (adK : Nat → Nat) (k : Nat) : Nat := if k < 1024 then base + aOrd k else if k = 1024 then b0 else adK (k - 1025)
def aC (ad : Nat → Nat) : aV → Value
  | .inl z => .int (Int32.ofInt z)
  | .inr k => .ref (ad k)
def aN (ad : Nat → Nat) : Option aV → Value
  | none => .null
  | some v => aC ad v
def aX (ad : Nat → Nat) (cI : ClassId) : aE → va_E
  | .inl l => .inl (cI, l.length, .inl (fun j => Int32.ofInt (l.getD j 0)))
  | .inr o => .inr (o.1, o.2.map (aN ad))
def aP (D : va_G) (cI : ClassId) (ad : Nat → Nat) (h : aH) (H : Heap) : Prop := aShape h ∧ ∀ (k : Nat) (e : aE), aGet h k = some e → va_at D aCls (ad k, aX ad cI e) H
theorem aFits_lt {k : Nat} (h : aFits k) : k < 1024 := by
  have h1 := h.1
  have := Nat.div_add_mod k 32
  omega
theorem aAd_fits {base b0 : Nat} {adK : Nat → Nat} {k : Nat} (h : aFits k) : aAd base b0 adK k = base + aOrd k := if_pos (aFits_lt h)
theorem aAd_inj {base b0 : Nat} {adK : Nat → Nat} {k k' : Nat} (h : aFits k) (h' : aFits k') (e : aAd base b0 adK k = aAd base b0 adK k') : k = k' := by
  rw [aAd_fits h, aAd_fits h'] at e
  exact aOrd_inj h h' (by omega)
theorem aP_set {D : va_G} {cI : ClassId} {base b0 : Nat} {adK : Nat → Nat} {h : aH} {H H1 : Heap} (hP : aP D cI (aAd base b0 adK) h H) {k : Nat} (hf : aFits k) {c : aE} (hc : va_at D aCls (aAd base b0 adK k, aX (aAd base b0 adK) cI c) H1)
    (ho : ∀ q : Nat, q ≠ aAd base b0 adK k → H1[q]? = H[q]?) : aP D cI (aAd base b0 adK) (aSet h k c) H1 := by
  refine ⟨aSet_shape hP.1 k c, fun k' e hk' => ?_⟩
  rw [aGet_set hP.1 hf] at hk'
  by_cases e1 : k' = k
  · rw [if_pos e1] at hk'
    cases hk'
    rw [e1]; exact hc
  · rw [if_neg e1] at hk'
    have f' := aGet_fits hP.1 hk'
    exact (hP.2 k' e hk').kept (ho _ (fun z => e1 (aAd_inj f' hf z)))
/-- a new cell, at the next address -/
theorem aP_new {D : va_G} {cI : ClassId} {base b0 : Nat} {adK : Nat → Nat} {h : aH} {H H1 : Heap} (hP : aP D cI (aAd base b0 adK) h H) {k : Nat} (hf : aFits k) {c : aE} (hz : aAd base b0 adK k = H.size) (hc : va_at D aCls (aAd base b0 adK k, aX (aAd base b0 adK) cI c) H1)
    (ho : ∀ q : Nat, q < H.size → H1[q]? = H[q]?) : aP D cI (aAd base b0 adK) (aSet h k c) H1 := by
  refine ⟨aSet_shape hP.1 k c, fun k' e hk' => ?_⟩
  rw [aGet_set hP.1 hf] at hk'
  by_cases e1 : k' = k
  · rw [if_pos e1] at hk'
    cases hk'
    rw [e1]; exact hc
  · rw [if_neg e1] at hk'
    exact (hP.2 k' e hk').kept (ho _ (hP.2 k' e hk').lt)
theorem aP_one {D : va_G} {cI : ClassId} {ad : Nat → Nat} {h : aH} {H : Heap} (hP : aP D cI ad h H) {k : Nat} {e : aE} (hk : aGet h k = some e) : va_P D aCls [(ad k, aX ad cI e)] H := by
  intro j q hj
  match j, hj with
  | 0, hj => cases hj; exact hP.2 k e hk
  | j + 1, hj => simp at hj
/-! the methods' tables -/
/-- its name, its bytes, its instructions, its locals, its answer, its class's fields (index, class, slot, kind of type, final), its class's numbers -/
abbrev aM : Type := MethodName × ByteArray × List (Nat × Instr) × Nat × Option FieldType × List (Nat × Nat × Nat × Nat × Bool) × List (Nat × Int)
def aMy (M : aM) : MethodName := M.1
def aMc (M : aM) : ByteArray := M.2.1
def aMt (M : aM) : List (Nat × Instr) := M.2.2.1
def aMn (M : aM) : Nat := M.2.2.2.1
def aMr (M : aM) : Option FieldType := M.2.2.2.2.1
def aMf (M : aM) : List (Nat × Nat × Nat × Nat × Bool) := M.2.2.2.2.2.1
def aMk (M : aM) : List (Nat × Int) := M.2.2.2.2.2.2
def aSwi : Instr → Bool
  | .tableswitch _ _ _ _ => true
  | .lookupswitch _ _ => true
  | _ => false
def aLen : Instr → Nat
  | .bipush _ | .iload _ | .istore _ | .aload _ | .astore _ | .ldc _ | .newarray _ => 2
  | .sipush _ | .getfield _ | .putfield _ | .goto _ | .if_icmp _ _ | .ifCond _ _ | .iinc _ _ | .ldc_w _ | .invokevirtual _ | .invokestatic _ | .invokespecial _ | .new _ => 3
  | _ => 1
def aOkI : Instr → Bool
  | .bipush z => decide (-128 ≤ z) && decide (z ≤ 127)
  | .sipush z => decide (-32768 ≤ z) && decide (z ≤ 32767)
  | _ => true
def aDecOk (cc : ByteArray) (e : Nat × Instr) : Bool := match decode cc e.1 with
  | .ok (i, n) => decide (i = e.2) && (n == aLen i || aSwi i) && aOkI i
  | _ => false
def aTyc : FieldType → Nat
  | .int => 0
  | .boolean => 1
  | .object _ => 2
  | .array _ => 2
  | _ => 9
def aFOk (own : String) (f : Nat × Nat × Nat × Nat × Bool) : Prop := ∃ (C : String) (T : u_T) (N : Nat) (ty : FieldType), aCls[f.2.1]? = some (C, T, N) ∧ f.2.2.1 < N ∧ Cond.fieldLink own f.1 C (T f.2.2.1).2.1 (T f.2.2.1).2.2.1 ∈ aBW ∧ (T f.2.2.1).1 = C ∧ (T f.2.2.1).2.2.2 = f.2.2.2.2 ∧
  parseFieldDescriptor (T f.2.2.1).2.2.1 = some ty ∧ aTyc ty = f.2.2.2.1 ∧ (f.2.2.2.2 = true → C = own)
def aKOk (own : String) (q : Nat × Int) : Prop := Cond.constant own q.1 (Int32.ofInt q.2) ∈ aBW
def aOK (M : aM) : Prop := (∀ e ∈ aMt M, aDecOk (aMc M) e = true) ∧ (∀ f ∈ aMf M, aFOk (aMy M).cls f) ∧ (∀ q ∈ aMk M, aKOk (aMy M).cls q) ∧ aMn M ≤ 17
/-- what is known of each class -/
def aClsOk (q : vw_C) : Prop := (∀ w ∈ u_ws q.1 q.2.1 q.2.2, w ∈ aBW) ∧ (∃ ty : Nat → FieldType, (∀ k, k < q.2.2 → parseFieldDescriptor (q.2.1 k).2.2.1 = some (ty k)) ∧ ∀ k, k < q.2.2 → aTyc (ty k) ≤ 2) ∧ (∀ a, a < q.2.2 → ∀ b, b < q.2.2 → a ≠ b → (q.2.1 a).2.1 ≠ (q.2.1 b).2.1) ∧ Cond.instantiable q.1 q.2.2 ∈ aBW ∧ Cond.initialized q.1 ∈ aBW
theorem aCls_ok : ∀ q ∈ aCls, aClsOk q := by
  intro q hq
  simp only [aCls, List.mem_cons, List.not_mem_nil, or_false] at hq
  rcases hq with rfl | rfl | rfl | rfl | rfl | rfl | rfl | rfl | rfl
  · exact ⟨lyX0, ⟨tyX0, tyokX0, by decide +kernel⟩, nmX0, insX0, iniX0⟩
  · exact ⟨lyX1, ⟨tyX1, tyokX1, by decide +kernel⟩, nmX1, insX1, iniX1⟩
  · exact ⟨lyX2, ⟨tyX2, tyokX2, by decide +kernel⟩, nmX2, insX2, iniX2⟩
  · exact ⟨lyX3, ⟨tyX3, tyokX3, by decide +kernel⟩, nmX3, insX3, iniX3⟩
  · exact ⟨lyX4, ⟨tyX4, tyokX4, by decide +kernel⟩, nmX4, insX4, iniX4⟩
  · exact ⟨lyX5, ⟨tyX5, tyokX5, by decide +kernel⟩, nmX5, insX5, iniX5⟩
  · exact ⟨lyX6, ⟨tyX6, tyokX6, by decide +kernel⟩, nmX6, insX6, iniX6⟩
  · exact ⟨lyX7, ⟨tyX7, tyokX7, by decide +kernel⟩, nmX7, insX7, iniX7⟩
  · exact ⟨lyX8, ⟨tyX8, tyokX8, by decide +kernel⟩, nmX8, insX8, iniX8⟩
theorem aCls_at {ci : Nat} {q : vw_C} (h : aCls[ci]? = some q) : aClsOk q := aCls_ok q (List.mem_of_getElem? h)
/-! one step of a straight stretch -/
def aFetch : List (Nat × Instr) → Nat → Option Instr
  | [], _ => none
  | e :: r, pc => bif Nat.beq e.1 pc then some e.2 else aFetch r pc
def aFld : List (Nat × Nat × Nat × Nat × Bool) → Nat → Option (Nat × Nat × Nat × Bool)
  | [], _ => none
  | e :: r, k => bif Nat.beq e.1 k then some e.2 else aFld r k
def aKst : List (Nat × Int) → Nat → Option Int
  | [], _ => none
  | e :: r, k => bif Nat.beq e.1 k then some e.2 else aKst r k
theorem aFetch_in {l : List (Nat × Instr)} {pc : Nat} {i : Instr} (h : aFetch l pc = some i) : (pc, i) ∈ l := by
  induction l with
  | nil => cases h
  | cons e r ih =>
    unfold aFetch at h
    cases hb : Nat.beq e.1 pc with
    | true =>
      rw [hb] at h
      have := Nat.eq_of_beq_eq_true hb
      cases h
      subst this
      exact List.mem_cons_self
    | false => rw [hb] at h; exact List.mem_cons_of_mem _ (ih h)
theorem aFld_in {l : List (Nat × Nat × Nat × Nat × Bool)} {k : Nat} {i : Nat × Nat × Nat × Bool} (h : aFld l k = some i) : (k, i) ∈ l := by
  induction l with
  | nil => cases h
  | cons e r ih =>
    unfold aFld at h
    cases hb : Nat.beq e.1 k with
    | true =>
      rw [hb] at h
      have := Nat.eq_of_beq_eq_true hb
      cases h
      subst this
      exact List.mem_cons_self
    | false => rw [hb] at h; exact List.mem_cons_of_mem _ (ih h)
theorem aKst_in {l : List (Nat × Int)} {k : Nat} {i : Int} (h : aKst l k = some i) : (k, i) ∈ l := by
  induction l with
  | nil => cases h
  | cons e r ih =>
    unfold aKst at h
    cases hb : Nat.beq e.1 k with
    | true =>
      rw [hb] at h
      have := Nat.eq_of_beq_eq_true hb
      cases h
      subst this
      exact List.mem_cons_self
    | false => rw [hb] at h; exact List.mem_cons_of_mem _ (ih h)
abbrev aLs : Type := List (Option aV)
abbrev aF : Type := Nat × aLs × List aV × aH
def a32 (f : Int32 → Int32 → Int32) (x y : Int) : Int := (f (Int32.ofInt x) (Int32.ofInt y)).toInt
def aAnd : Int → Int → Int := a32 (fun x y => x &&& y)
def aOr : Int → Int → Int := a32 (fun x y => x ||| y)
def aXor : Int → Int → Int := a32 (fun x y => x ^^^ y)
def aShl : Int → Int → Int := a32 (fun x y => x <<< (y &&& 31))
def aShr : Int → Int → Int := a32 (fun x y => x >>> (y &&& 31))
def aUshr : Int → Int → Int := a32 (fun x y => (x.toUInt32 >>> (y.toUInt32 &&& Int32.toUInt32 31)).toInt32)
def aBin : Instr → Int → Int → Option Int
  | .iadd, x, y => some (x + y)
  | .isub, x, y => some (x - y)
  | .imul, x, y => some (x * y)
  | .iand, x, y => some (aAnd x y)
  | .ior, x, y => some (aOr x y)
  | .ixor, x, y => some (aXor x y)
  | .ishl, x, y => some (aShl x y)
  | .ishr, x, y => some (aShr x y)
  | .iushr, x, y => some (aUshr x y)
  | _, _, _ => none
/-- a number that is pushed -/
def aPush (M : aM) : Instr → Option Int
  | .iconst z => some z
  | .bipush z => some z
  | .sipush z => some z
  | .ldc k => aKst (aMk M) k
  | .ldc_w k => aKst (aMk M) k
  | _ => none
def aLdI : Instr → Option Nat
  | .iload k => some k
  | .iload_n k => some k.val
  | _ => none
def aLdA : Instr → Option Nat
  | .aload k => some k
  | .aload_n k => some k.val
  | _ => none
def aStI : Instr → Option Nat
  | .istore k => some k
  | .istore_n k => some k.val
  | _ => none
def aStA : Instr → Option Nat
  | .astore k => some k
  | .astore_n k => some k.val
  | _ => none
def aLoc (ls : aLs) (k : Nat) : Option aV := match ls[k]? with
  | some (some v) => some v
  | _ => none
def aGetF (M : aM) (h : aH) (idx k : Nat) : Option aV := match aFld (aMf M) idx, aGet h k with
  | some f, some (.inr o) => bif Nat.beq f.1 o.1 then (match o.2[f.2.1]? with
    | some (some v) => some v
    | _ => none) else none
  | _, _ => none
def aTyFit : Nat → aV → Bool
  | 0, .inl _ => true
  | 1, .inl z => decide (z = 0) || decide (z = 1)
  | 2, .inr _ => true
  | _, _ => false
def aPutF (M : aM) (h : aH) (idx k : Nat) (v : aV) : Option aH := match aFld (aMf M) idx, aGet h k with
  | some f, some (.inr o) => bif Nat.beq f.1 o.1 && Nat.blt f.2.1 o.2.length && aTyFit f.2.2.1 v && (!f.2.2.2 || decide ((aMy M).name = "<init>")) then some (aSet h k (.inr (o.1, o.2.set f.2.1 (some v)))) else none
  | _, _ => none
def aJmp (pc : Nat) (off : Int) : Nat := ((pc : Int) + off).toNat
def aTry (a b : Option aF) : Option aF := match a with
  | some x => some x
  | none => b
def aOp (M : aM) (i : Instr) (pc : Nat) (ls : aLs) (st : List aV) (h : aH) : Option aF :=
  match i with
  | .iconst z => some (pc + 1, ls, .inl z :: st, h)
  | .bipush z => some (pc + 2, ls, .inl z :: st, h)
  | .sipush z => some (pc + 3, ls, .inl z :: st, h)
  | .ldc k => (aKst (aMk M) k).map fun z => (pc + 2, ls, .inl z :: st, h)
  | .ldc_w k => (aKst (aMk M) k).map fun z => (pc + 3, ls, .inl z :: st, h)
  | .iload k => (match aLoc ls k with
    | some (.inl z) => some (pc + 2, ls, .inl z :: st, h)
    | _ => none)
  | .iload_n k => (match aLoc ls k.val with
    | some (.inl z) => some (pc + 1, ls, .inl z :: st, h)
    | _ => none)
  | .aload k => (match aLoc ls k with
    | some (.inr z) => some (pc + 2, ls, .inr z :: st, h)
    | _ => none)
  | .aload_n k => (match aLoc ls k.val with
    | some (.inr z) => some (pc + 1, ls, .inr z :: st, h)
    | _ => none)
  | .istore k => (match st with
    | .inl z :: st => bif Nat.blt k (aMn M) then some (pc + 2, ls.set k (some (.inl z)), st, h) else none
    | _ => none)
  | .istore_n k => (match st with
    | .inl z :: st => bif Nat.blt k.val (aMn M) then some (pc + 1, ls.set k.val (some (.inl z)), st, h) else none
    | _ => none)
  | .astore k => (match st with
    | .inr z :: st => bif Nat.blt k (aMn M) then some (pc + 2, ls.set k (some (.inr z)), st, h) else none
    | _ => none)
  | .astore_n k => (match st with
    | .inr z :: st => bif Nat.blt k.val (aMn M) then some (pc + 1, ls.set k.val (some (.inr z)), st, h) else none
    | _ => none)
  | .iinc k z => (match aLoc ls k with
    | some (.inl x) => bif Nat.blt k (aMn M) then some (pc + 3, ls.set k (some (.inl (x + z))), st, h) else none
    | _ => none)
  | .iadd => (match st with
    | .inl y :: .inl x :: st => some (pc + 1, ls, .inl (x + y) :: st, h)
    | _ => none)
  | .isub => (match st with
    | .inl y :: .inl x :: st => some (pc + 1, ls, .inl (x - y) :: st, h)
    | _ => none)
  | .imul => (match st with
    | .inl y :: .inl x :: st => some (pc + 1, ls, .inl (x * y) :: st, h)
    | _ => none)
  | .ineg => (match st with
    | .inl x :: st => some (pc + 1, ls, .inl (-x) :: st, h)
    | _ => none)
  | .iand => (match st with
    | .inl y :: .inl x :: st => some (pc + 1, ls, .inl (aAnd x y) :: st, h)
    | _ => none)
  | .ior => (match st with
    | .inl y :: .inl x :: st => some (pc + 1, ls, .inl (aOr x y) :: st, h)
    | _ => none)
  | .ixor => (match st with
    | .inl y :: .inl x :: st => some (pc + 1, ls, .inl (aXor x y) :: st, h)
    | _ => none)
  | .ishl => (match st with
    | .inl y :: .inl x :: st => some (pc + 1, ls, .inl (aShl x y) :: st, h)
    | _ => none)
  | .ishr => (match st with
    | .inl y :: .inl x :: st => some (pc + 1, ls, .inl (aShr x y) :: st, h)
    | _ => none)
  | .iushr => (match st with
    | .inl y :: .inl x :: st => some (pc + 1, ls, .inl (aUshr x y) :: st, h)
    | _ => none)
  | .dup => (match st with
    | x :: st => some (pc + 1, ls, x :: x :: st, h)
    | _ => none)
  | .dup2 => (match st with
    | x :: y :: st => some (pc + 1, ls, x :: y :: x :: y :: st, h)
    | _ => none)
  | .pop => (match st with
    | _ :: st => some (pc + 1, ls, st, h)
    | _ => none)
  | .goto off => bif decide (0 ≤ (pc : Int) + off) then some (aJmp pc off, ls, st, h) else none
  | .getfield idx => (match st with
    | .inr k :: st => (aGetF M h idx k).map fun v => (pc + 3, ls, v :: st, h)
    | _ => none)
  | .putfield idx => (match st with
    | v :: .inr k :: st => (aPutF M h idx k v).map fun h' => (pc + 3, ls, st, h')
    | _ => none)
  | .arraylength => (match st with
    | .inr k :: st => (match aGet h k with
      | some (.inl l) => some (pc + 1, ls, .inl (l.length : Int) :: st, h)
      | _ => none)
    | _ => none)
  | _ => none
def aStep (M : aM) (f : aF) : Option aF := match aFetch (aMt M) f.1 with
  | some i => aOp M i f.1 f.2.1 f.2.2.1 f.2.2.2
  | none => none
def aRun (M : aM) : Nat → aF → Option aF
  | 0, f => some f
  | n + 1, f => match aStep M f with
    | some f' => aRun M n f'
    | none => none
end
section
/-! The abstract machine's judgement, and that each of its steps is the machine's. -/
/-- the words of nest mates -/
def aNW : List Cond := lw_tbl.filter (fun w => match w with
  | .methodLinkNest _ _ _ _ => true
  | _ => false)
/-- String constants: where the code names them, their texts, lengths, bytes -/
def aTx : List (Nat × String) := [(66, "p?00000;"), (68, "a000;"), (70, "l0000;"), (72, "k00000;"), (74, "s000;"), (76, "d00;"), (78, ""), (83, "pswcon")]
def aTxLen : List Nat := aTx.map fun q => q.2.length
def aTxByt : List (List Int32) := aTx.map fun q => q.2.toList.map fun c => Int32.ofNat c.toNat
/-- what holds of the world at every call: the classes, int arrays, nest words, String constants -/
def aIv (base : Nat) (D : va_G) (cI : ClassId) (adK adV : Nat → Nat) (U : State) : Prop :=
  va_K D aCls [(cI, .int)] U ∧ (∀ w ∈ aNW, va_Nw w U) ∧ vk_S 8 aTxLen aTxByt adK adV (fun q => base ≤ q) U U.heap ∧ ∀ (i : Nat) (q : Nat × String), aTx[i]? = some q → vk_R RX6 q.1 q.2 (adK i) U
def aSc (sc : Option (Nat × (Nat → Int32))) (base b0 : Nat) (s : State) : Prop := ∀ (L : Nat) (xs : Nat → Int32), sc = some (L, xs) → va_X b0 L xs s s.heap ∧ b0 < s.heap.size ∧ b0 < base
def aCx (M : aM) (d : Nat) (sc : Option (Nat × (Nat → Int32))) (base b0 : Nat) (adK adV : Nat → Nat) (D : va_G) (cI : ClassId) (p : Program) (R : Room) (s : State) (m : MethodId) (args : Array Value) (meth : Method) (c : Code) : Prop :=
  p.tables.exec = Jvm.exec ∧ c.code = aMc M ∧ c.maxLocals = aMn M ∧ meth.sig.returnType = aMr M ∧ ((aMy M).name = "<init>" → meth.name = "<init>") ∧ s.vm.findClass (aMy M).cls = some m.cls ∧ (∀ w ∈ aBW, w.before args s = true) ∧ meth.locks = false ∧
  aIv base D cI adK adV s ∧ (d ≤ R.frames ∧ 36 * d ≤ R.locals) ∧ base ≤ s.heap.size ∧ aSc sc base b0 s
def aAss (ad : Nat → Nat) (ls : aLs) : List (Nat × Value) := (List.range ls.length).filterMap fun i => match ls[i]? with
  | some (some v) => some (i, aC ad v)
  | _ => none
theorem aAss_in {ad : Nat → Nat} {ls : aLs} {i : Nat} {v : Value} : (i, v) ∈ aAss ad ls ↔ ∃ w, ls[i]? = some (some w) ∧ v = aC ad w := by
  unfold aAss
  rw [List.mem_filterMap]
  constructor
  · rintro ⟨j, -, hj⟩
    cases hl : ls[j]? with
    | none => rw [hl] at hj; cases hj
    | some o =>
      cases o with
      | none => rw [hl] at hj; cases hj
      | some w =>
        rw [hl] at hj
        cases hj
        exact ⟨w, hl, rfl⟩
  · rintro ⟨w, hw, rfl⟩
    refine ⟨i, List.mem_range.mpr (List.getElem?_eq_some_iff.mp hw).1, ?_⟩
    rw [hw]
def aL (ad : Nat → Nat) (ls : aLs) (la : Array Slot) (nL : Nat) : Prop := lv_has la nL (aAss ad ls)
theorem lv_less {ls : Array Slot} {nL : Nat} {l l' : List (Nat × Value)} (h : lv_has ls nL l) (hs : ∀ q ∈ l', q ∈ l) : lv_has ls nL l' := ⟨h.1, h.2.1, fun q hq => h.2.2 q (hs q hq)⟩
theorem aC_cat (ad : Nat → Nat) (v : aV) : (aC ad v).category = 1 := by cases v <;> rfl
theorem aL_set {ad : Nat → Nat} {ls : aLs} {la : Array Slot} {nL k : Nat} {v : aV} (h : lv_has la nL ((k, aC ad v) :: (aAss ad ls).filter (fun q => !(q.1 == k) && !(q.1 + 1 == k && q.2.category == 2)))) : aL ad (ls.set k (some v)) la nL := by
  refine lv_less h fun q hq => ?_
  obtain ⟨i, w⟩ := q
  obtain ⟨x, hx, rfl⟩ := aAss_in.mp hq
  by_cases hi : i = k
  · subst hi
    have hl : i < ls.length := by
      have := (List.getElem?_eq_some_iff.mp hx).1
      simpa using this
    rw [List.getElem?_set_self hl] at hx
    cases hx
    exact List.mem_cons_self
  · rw [List.getElem?_set_ne (Ne.symm hi)] at hx
    refine List.mem_cons_of_mem _ (List.mem_filter.mpr ⟨aAss_in.mpr ⟨x, hx, rfl⟩, ?_⟩)
    simp [hi, aC_cat]
theorem aL_at {ad : Nat → Nat} {ls : aLs} {la : Array Slot} {nL k : Nat} {v : aV} (h : aL ad ls la nL) (hk : aLoc ls k = some v) : la[k]? = some (.val (aC ad v)) := by
  refine h.2.2 (k, aC ad v) (aAss_in.mpr ⟨v, ?_, rfl⟩)
  unfold aLoc at hk
  cases hl : ls[k]? with
  | none => rw [hl] at hk; cases hk
  | some o =>
    cases o with
    | none => rw [hl] at hk; cases hk
    | some w => rw [hl] at hk; cases hk; rfl
/-- the instruction that gives the answer back -/
def aRet (M : aM) (pc : Nat) : Option aV → Prop
  | none => aFetch (aMt M) pc = some .return_ ∧ aMr M = none
  | some (.inl z) => aFetch (aMt M) pc = some .ireturn ∧ (aMr M = some .int ∨ (aMr M = some .boolean ∧ (z = 0 ∨ z = 1)))
  | some (.inr _) => aFetch (aMt M) pc = some .areturn ∧ ∃ n, aMr M = some (.object n)
def AW (M : aM) (d kc ks n : Nat) (sc : Option (Nat × (Nat → Int32))) (Q : Option aV → aH → Prop) (f : aF) : Prop :=
  ∀ (p : Program) (l : Launch) (e : Env) (R : Room) (s : State) (m : MethodId) (args : Array Value) (below : List Frame) (meth : Method) (c : Code) (D : va_G) (cI : ClassId) (base b0 : Nat) (adK adV : Nat → Nat) (C1 S1 : Nat) (Z : State → Prop),
    aCx M d sc base b0 adK adV D cI p R s m args meth c → C1 ≤ R.cells → S1 ≤ R.slots →
    (∀ (v : Option aV) (h : aH) (pc : Nat) (la : Array Slot) (H : Heap) (locs : List Loc) (slots : Nat), Q v h → aP D cI (aAd base b0 adK) h H → H.size = base + (n + kc) → va_S (fun q => base ≤ q) s.heap H locs → slots ≤ S1 → aRet M pc v →
      W p l e R s m args below meth c H locs C1 slots Z (F0 m pc la (v.map (aC (aAd base b0 adK))).toList)) →
    ∀ (la : Array Slot) (H : Heap) (locs : List Loc) (cells slots : Nat), aP D cI (aAd base b0 adK) f.2.2.2 H → H.size = base + n → va_S (fun q => base ≤ q) s.heap H locs → aL (aAd base b0 adK) f.2.1 la (aMn M) → cells + kc = C1 → slots + ks ≤ S1 →
      W p l e R s m args below meth c H locs cells slots Z (F0 m f.1 la (f.2.2.1.map (aC (aAd base b0 adK))))
theorem aDec_of {M : aM} (hM : aOK M) {pc : Nat} {i : Instr} (h : aFetch (aMt M) pc = some i) : ∃ n, decode (aMc M) pc = .ok (i, n) ∧ (n = aLen i ∨ aSwi i = true) ∧ aOkI i = true := by
  have h1 := hM.1 _ (aFetch_in h)
  unfold aDecOk at h1
  cases hd : decode (aMc M) pc with
  | error e => rw [show ((pc, i) : Nat × Instr).1 = pc from rfl, hd] at h1; cases h1
  | ok q =>
    obtain ⟨i', n⟩ := q
    rw [show ((pc, i) : Nat × Instr).1 = pc from rfl, hd] at h1
    simp only [Bool.and_eq_true, decide_eq_true_eq, Bool.or_eq_true, beq_iff_eq] at h1
    obtain ⟨⟨rfl, h2⟩, h3⟩ := h1
    exact ⟨n, rfl, h2, h3⟩
theorem aDec1 {M : aM} (hM : aOK M) {pc : Nat} {i : Instr} (h : aFetch (aMt M) pc = some i) (hs : aSwi i = false) {n : Nat} (hn : aLen i = n) : decode (aMc M) pc = .ok (i, n) := by
  obtain ⟨k, h1, h2 | h2, -⟩ := aDec_of hM h
  · rw [h1, h2, hn]
  · rw [hs] at h2; cases h2
theorem i32_add (a b : Int) : Int32.ofInt a + Int32.ofInt b = Int32.ofInt (a + b) := (Int32.ofInt_add a b).symm
theorem i32_sub (a b : Int) : Int32.ofInt a - Int32.ofInt b = Int32.ofInt (a - b) := (Int32.ofInt_sub a b).symm
theorem i32_mul (a b : Int) : Int32.ofInt a * Int32.ofInt b = Int32.ofInt (a * b) := (Int32.ofInt_mul a b).symm
theorem i32_neg (a : Int) : -Int32.ofInt a = Int32.ofInt (-a) := (Int32.ofInt_neg a).symm
theorem i32_op (f : Int32 → Int32 → Int32) (a b : Int) : f (Int32.ofInt a) (Int32.ofInt b) = Int32.ofInt (a32 f a b) := (Int32.ofInt_toInt _).symm
theorem i32_byte {z : Int} (h : aOkI (.bipush z) = true) : (Int8.ofInt z).toInt32 = Int32.ofInt z := by
  simp only [aOkI, Bool.and_eq_true, decide_eq_true_eq] at h
  rw [← Int32.toInt_inj, Int8.toInt_toInt32, Int8.toInt_ofInt_of_le (by omega) (by omega), Int32.toInt_ofInt_of_le (by omega) (by omega)]
theorem i32_short {z : Int} (h : aOkI (.sipush z) = true) : (Int16.ofInt z).toInt32 = Int32.ofInt z := by
  simp only [aOkI, Bool.and_eq_true, decide_eq_true_eq] at h
  rw [← Int32.toInt_inj, Int16.toInt_toInt32, Int16.toInt_ofInt_of_le (by omega) (by omega), Int32.toInt_ofInt_of_le (by omega) (by omega)]
end
section
/-! Each step of a straight stretch. -/
section AOP
variable {p : Program} {l : Launch} {e : Env} {R : Room} {s : State} {m : MethodId} {args : Array Value} {below : List Frame} {meth : Method} {c : Code} {D : va_G} {cI : ClassId} {base b0 : Nat} {adK adV : Nat → Nat} {Z : State → Prop}
variable {M : aM} {d kc ks n : Nat} {sc : Option (Nat × (Nat → Int32))} {Q : Option aV → aH → Prop}
theorem a_getfield (hM : aOK M) {h : aH} {idx k : Nat} {v : aV} (hg : aGetF M h idx k = some v) (hcx : aCx M d sc base b0 adK adV D cI p R s m args meth c) {H : Heap} (hP : aP D cI (aAd base b0 adK) h H) {pc : Nat} (hd : decode (aMc M) pc = .ok (.getfield idx, 3)) {la : Array Slot} {rest : List Value} {locs : List Loc} {cells slots : Nat}
    (kk : W p l e R s m args below meth c H locs cells slots Z (F0 m (pc + 3) la (aC (aAd base b0 adK) v :: rest))) : W p l e R s m args below meth c H locs cells slots Z (F0 m pc la (.ref (aAd base b0 adK k) :: rest)) := by
  obtain ⟨hx, hb, hml, hr, hin, hown, hts, hlk, hiv, hrm, hba, hsc⟩ := id hcx
  unfold aGetF at hg
  cases hf : aFld (aMf M) idx with
  | none => rw [hf] at hg; cases hg
  | some f =>
    cases hk : aGet h k with
    | none => rw [hf, hk] at hg; cases hg
    | some ee =>
      cases ee with
      | inl a => rw [hf, hk] at hg; cases hg
      | inr o =>
        rw [hf, hk] at hg
        simp only at hg
        cases hbq : Nat.beq f.1 o.1 with
        | false => rw [hbq] at hg; cases hg
        | true =>
          rw [hbq] at hg
          have hco := Nat.eq_of_beq_eq_true hbq
          simp only [cond_true] at hg
          cases hq : o.2[f.2.1]? with
          | none => rw [hq] at hg; cases hg
          | some w =>
            cases w with
            | none => rw [hq] at hg; cases hg
            | some w =>
              rw [hq] at hg
              cases hg
              obtain ⟨C, T, N, ty, g1, g2, g3, g4, -⟩ := hM.2.1 _ (aFld_in hf)
              have hc := (aCls_at g1)
              refine va_get (D := D) (cl := aCls) (tys := [(cI, .int)]) (C := C) (T := T) (N := N) (ci := f.1) (Ts := aBW) (fs := o.2.map (aN (aAd base b0 adK))) hx hb hts hc.1 hown hiv.1 (aP_one hP hk) 0 ?_ g1 f.2.1 g2 (hts _ g3) (fun x hx => by rw [← g4]; exact hx) ?_ hd kk
              · rw [hco]; rfl
              · rw [List.getElem?_map, hq]; rfl
theorem aTy_narrow {t : Nat} {ty : FieldType} {v : aV} (ad : Nat → Nat) (ht : aTyc ty = t) (hv : aTyFit t v = true) : narrow ty (aC ad v) = aC ad v ∧ fits ty (aC ad v) = true := by
  subst ht
  cases ty with
  | int => cases v with
    | inl z => exact ⟨rfl, rfl⟩
    | inr z => simp [aTyc, aTyFit] at hv
  | boolean => cases v with
    | inl z =>
      simp only [aTyc, aTyFit, Bool.or_eq_true, decide_eq_true_eq] at hv
      rcases hv with rfl | rfl
      · exact ⟨(by decide : narrow .boolean (.int (Int32.ofInt 0)) = .int (Int32.ofInt 0)), (by decide : fits .boolean (.int (Int32.ofInt 0)) = true)⟩
      · exact ⟨(by decide : narrow .boolean (.int (Int32.ofInt 1)) = .int (Int32.ofInt 1)), (by decide : fits .boolean (.int (Int32.ofInt 1)) = true)⟩
    | inr z => simp [aTyc, aTyFit] at hv
  | object q => cases v with
    | inl z => simp [aTyc, aTyFit] at hv
    | inr z => exact ⟨rfl, rfl⟩
  | array q => cases v with
    | inl z => simp [aTyc, aTyFit] at hv
    | inr z => exact ⟨rfl, rfl⟩
  | _ => simp [aTyc, aTyFit] at hv
theorem a_putfield (hM : aOK M) {h h' : aH} {idx k : Nat} {v : aV} (hg : aPutF M h idx k v = some h') (hcx : aCx M d sc base b0 adK adV D cI p R s m args meth c) {H : Heap} (hP : aP D cI (aAd base b0 adK) h H) {pc : Nat} (hd : decode (aMc M) pc = .ok (.putfield idx, 3)) {la : Array Slot} {rest : List Value} {locs : List Loc} {cells slots : Nat} (hS : va_S (fun q => base ≤ q) s.heap H locs)
    (kk : ∀ (H1 : Heap) (locs1 : List Loc), aP D cI (aAd base b0 adK) h' H1 → H1.size = H.size → va_S (fun q => base ≤ q) s.heap H1 locs1 → W p l e R s m args below meth c H1 locs1 cells slots Z (F0 m (pc + 3) la rest)) : W p l e R s m args below meth c H locs cells slots Z (F0 m pc la (aC (aAd base b0 adK) v :: .ref (aAd base b0 adK k) :: rest)) := by
  obtain ⟨hx, hb, hml, hr, hin, hown, hts, hlk, hiv, hrm, hba, hsc⟩ := id hcx
  unfold aPutF at hg
  cases hf : aFld (aMf M) idx with
  | none => rw [hf] at hg; cases hg
  | some f =>
    cases hk : aGet h k with
    | none => rw [hf, hk] at hg; cases hg
    | some ee =>
      cases ee with
      | inl a => rw [hf, hk] at hg; cases hg
      | inr o =>
        rw [hf, hk] at hg
        simp only at hg
        cases hbq : (Nat.beq f.1 o.1 && Nat.blt f.2.1 o.2.length && aTyFit f.2.2.1 v && (!f.2.2.2 || decide ((aMy M).name = "<init>"))) with
        | false => rw [hbq] at hg; cases hg
        | true =>
          rw [hbq] at hg
          cases hg
          simp only [Bool.and_eq_true, Bool.or_eq_true, Bool.not_eq_true', decide_eq_true_eq] at hbq
          obtain ⟨⟨⟨q1, q2⟩, q3⟩, q4⟩ := hbq
          have hco := Nat.eq_of_beq_eq_true q1
          have hlt : f.2.1 < o.2.length := Nat.le_of_ble_eq_true q2
          obtain ⟨C, T, N, ty, g1, g2, g3, g4, g5, g6, g7, g8⟩ := hM.2.1 _ (aFld_in hf)
          simp only at g1 g2 g3 g4 g5 g6 g7 g8
          obtain ⟨c1, ⟨tyF, c2, -⟩, c3, -⟩ := aCls_at g1
          simp only at c1 c2 c3
          obtain ⟨hn, hfit⟩ := aTy_narrow (aAd base b0 adK) g7 q3
          have hfk := aGet_fits hP.1 hk
          have hba' : base ≤ aAd base b0 adK k := by rw [aAd_fits hfk]; omega
          have hap := va_apart (own := C) hts c1 tyF c2 c3 hiv.1 g1
          have hat := hP.2 k _ hk
          obtain ⟨r, h1, cell, e1, e2, e3, e4⟩ := hat
          rw [hco] at g1 hap
          have hr' : r = (C, T, N) := Option.some.inj (h1.symm.trans g1)
          subst hr'
          obtain ⟨hSl, hfc, kC, hkC, hkind⟩ := hiv.1.1 o.1 _ g1
          obtain ⟨cf, kf, fi, fd, hi, hsl⟩ := hSl f.2.1 g2
          have hlay := hts _ (c1 _ (u_in_lay g2))
          have hst := (u_facts hfc hkC (u_lays hts c1 g2) hi).1
          have hput : ∀ H1 : Heap, H1[aAd base b0 adK k]? = some (cell.setSlot fd.slot (aC (aAd base b0 adK) v)) → (∀ q : Nat, q ≠ aAd base b0 adK k → H1[q]? = H[q]?) → aP D cI (aAd base b0 adK) (aSet h k (.inr (o.1, o.2.set f.2.1 (some v)))) H1 := by
            intro H1 z1 z2
            refine aP_set hP hfk ?_ z2
            refine ⟨_, g1, t_OB.to (V := updV (vp_V (o.2.map (aN (aAd base b0 adK)))) f.2.1 (aC (aAd base b0 adK) v)) ⟨_, z1, e2, e3, ?_⟩ (fun j _ => ?_)⟩
            · rw [hsl]; exact t_set e4 hap g2 _
            · have hl2 : f.2.1 < (o.2.map (aN (aAd base b0 adK))).length := by rw [List.length_map]; exact hlt
              rw [vp_updV_set hl2]
              show vp_V _ j = vp_V _ j
              rw [List.map_set]
              rfl
          have hsame : s.fieldFound? C (T f.2.1).2.1 (T f.2.1).2.2.1 = some (cf, kf, fi, fd) := by rw [← hi, g4]
          cases hfin : f.2.2.2 with
          | false =>
            rw [hfin] at g5
            unfold u_lay at hlay
            rw [if_neg (by rw [g5]; decide)] at hlay
            have h6 := u_store hfc hkC hkind hlay hi g6 hn hfit
            refine W.putK hx hb (f := fd) ⟨hown, hts _ g3, ⟨_, _, _, hsame⟩, hst⟩ (by rw [e2]; exact h6) e1 e3 (by rw [hsl]; exact k2_hasslot (e4 f.2.1 g2)) rfl rfl hd fun H1 z1 z2 z3 => ?_
            exact kk H1 _ (hput H1 z1 z3) z2 (hS.put z2 z3 hba')
          | true =>
            rw [hfin] at g5 g8 q4
            unfold u_lay at hlay
            rw [if_pos g5] at hlay
            have hcf : m.cls = cf := by
              obtain ⟨_, _, c', _, _, _, -, -, hf', -, -, -, hown2, -⟩ := Cond.laysFinal_spec hlay
              have z1 : c' = cf := by have := hi.symm.trans hf'; simp at this; exact this.1.symm
              rw [g4, g8 rfl] at hown2
              rw [← z1]; exact Option.some.inj (hown.symm.trans hown2)
            have h6 := u_fits hfc hkC hkind (Or.inr hlay) hi g6 hn hfit
            have hin2 : meth.name = "<init>" := by
              rcases q4 with z | z
              · cases z
              · exact hin z
            refine W.putFinK hx hb hown (hts _ g3) hsame hst hcf hin2 (by rw [e2]; exact h6) e1 e3 (by rw [hsl]; exact k2_hasslot (e4 f.2.1 g2)) rfl rfl hd fun H1 z1 z2 z3 => ?_
            exact kk H1 _ (hput H1 z1 z3) z2 (hS.put z2 z3 hba')
theorem aBlt {a b : Nat} {α : Type} {x y : α} (h : (bif Nat.blt a b then some x else none) = some y) : a < b ∧ x = y := by
  cases hb : Nat.blt a b with
  | true => rw [hb] at h; exact ⟨Nat.le_of_ble_eq_true hb, Option.some.inj h⟩
  | false => rw [hb] at h; cases h
set_option maxHeartbeats 4000000 in
theorem aOp_ok (hM : aOK M) {i : Instr} {pc : Nat} {ls : aLs} {st : List aV} {h : aH} {f' : aF} (hf : aFetch (aMt M) pc = some i) (ho : aOp M i pc ls st h = some f') (k : AW M d kc ks n sc Q f') : AW M d kc ks n sc Q (pc, ls, st, h) := by
  intro p l e R s m args below meth c D cI base b0 adK adV C1 S1 Z hcx hC hS1 hfin la H locs cells slots hP hz hS hL hcs hss
  obtain ⟨hx, hb, hml, hr, hin, hown, hts, hlk, hiv, hrm, hba, hsc⟩ := id hcx
  have kk := k p l e R s m args below meth c D cI base b0 adK adV C1 S1 Z hcx hC hS1 hfin
  clear k
  simp only at hP hL
  cases i with
  | iconst z =>
    cases ho
    exact lv_iconst hx hb (aDec1 hM hf rfl rfl) rfl (kk la H locs cells slots hP hz hS hL hcs hss)
  | bipush z =>
    cases ho
    exact lv_bipush hx hb (aDec1 hM hf rfl rfl) (i32_byte (aDec_of hM hf).choose_spec.2.2) (kk la H locs cells slots hP hz hS hL hcs hss)
  | sipush z =>
    cases ho
    exact lv_sipush hx hb (aDec1 hM hf rfl rfl) (i32_short (aDec_of hM hf).choose_spec.2.2) (kk la H locs cells slots hP hz hS hL hcs hss)
  | ldc q =>
    obtain ⟨z, hz1, hz2⟩ := Option.map_eq_some_iff.mp ho
    cases hz2
    exact lv_ldc hx hb hown (hts _ (hM.2.2.1 _ (aKst_in hz1))) (aDec1 hM hf rfl rfl) (kk la H locs cells slots hP hz hS hL hcs hss)
  | ldc_w q =>
    obtain ⟨z, hz1, hz2⟩ := Option.map_eq_some_iff.mp ho
    cases hz2
    exact lv_ldcw hx hb hown (hts _ (hM.2.2.1 _ (aKst_in hz1))) (aDec1 hM hf rfl rfl) (kk la H locs cells slots hP hz hS hL hcs hss)
  | iload q =>
    cases hq : aLoc ls q with
    | none => simp [aOp, hq] at ho
    | some v => cases v with
      | inr z => simp [aOp, hq] at ho
      | inl z =>
        simp only [aOp, hq] at ho
        cases ho
        exact lv_iload hx hb (aDec1 hM hf rfl rfl) (aL_at hL hq) (kk la H locs cells slots hP hz hS hL hcs hss)
  | iload_n q =>
    cases hq : aLoc ls q.val with
    | none => simp [aOp, hq] at ho
    | some v => cases v with
      | inr z => simp [aOp, hq] at ho
      | inl z =>
        simp only [aOp, hq] at ho
        cases ho
        exact lv_iload_n hx hb (aDec1 hM hf rfl rfl) rfl (aL_at hL hq) (kk la H locs cells slots hP hz hS hL hcs hss)
  | aload q =>
    cases hq : aLoc ls q with
    | none => simp [aOp, hq] at ho
    | some v => cases v with
      | inl z => simp [aOp, hq] at ho
      | inr z =>
        simp only [aOp, hq] at ho
        cases ho
        exact lv_aload hx hb (aDec1 hM hf rfl rfl) (aL_at hL hq) (kk la H locs cells slots hP hz hS hL hcs hss)
  | aload_n q =>
    cases hq : aLoc ls q.val with
    | none => simp [aOp, hq] at ho
    | some v => cases v with
      | inl z => simp [aOp, hq] at ho
      | inr z =>
        simp only [aOp, hq] at ho
        cases ho
        exact lv_aload_n hx hb (aDec1 hM hf rfl rfl) rfl (aL_at hL hq) (kk la H locs cells slots hP hz hS hL hcs hss)
  | istore q =>
    cases st with
    | nil => simp [aOp] at ho
    | cons v st => cases v with
      | inr z => simp [aOp] at ho
      | inl z =>
        obtain ⟨g1, g2⟩ := aBlt ho
        cases g2
        exact lv_istore hx hb (aDec1 hM hf rfl rfl) hL g1 rfl (fun la' hl => kk la' H locs cells slots hP hz hS (aL_set hl) hcs hss)
  | istore_n q =>
    cases st with
    | nil => simp [aOp] at ho
    | cons v st => cases v with
      | inr z => simp [aOp] at ho
      | inl z =>
        obtain ⟨g1, g2⟩ := aBlt ho
        cases g2
        exact lv_istore_n hx hb (aDec1 hM hf rfl rfl) rfl hL g1 rfl (fun la' hl => kk la' H locs cells slots hP hz hS (aL_set hl) hcs hss)
  | astore q =>
    cases st with
    | nil => simp [aOp] at ho
    | cons v st => cases v with
      | inl z => simp [aOp] at ho
      | inr z =>
        obtain ⟨g1, g2⟩ := aBlt ho
        cases g2
        exact lv_astore hx hb (aDec1 hM hf rfl rfl) hL g1 rfl (fun la' hl => kk la' H locs cells slots hP hz hS (aL_set hl) hcs hss)
  | astore_n q =>
    cases st with
    | nil => simp [aOp] at ho
    | cons v st => cases v with
      | inl z => simp [aOp] at ho
      | inr z =>
        obtain ⟨g1, g2⟩ := aBlt ho
        cases g2
        exact lv_astore_n hx hb (aDec1 hM hf rfl rfl) rfl hL g1 rfl (fun la' hl => kk la' H locs cells slots hP hz hS (aL_set hl) hcs hss)
  | iinc q z =>
    cases hq : aLoc ls q with
    | none => simp [aOp, hq] at ho
    | some v => cases v with
      | inr z => simp [aOp, hq] at ho
      | inl x =>
        simp only [aOp, hq] at ho
        obtain ⟨g1, g2⟩ := aBlt ho
        cases g2
        have hm : (q, Value.int (Int32.ofInt x)) ∈ aAss (aAd base b0 adK) ls := aAss_in.mpr ⟨.inl x, by
          unfold aLoc at hq
          cases hl : ls[q]? with
          | none => rw [hl] at hq; cases hq
          | some o => cases o with
            | none => rw [hl] at hq; cases hq
            | some w => rw [hl] at hq; cases hq; rfl, rfl⟩
        obtain ⟨j, hj⟩ := List.getElem?_of_mem hm
        exact lv_iinc hx hb (aDec1 hM hf rfl rfl) hL hj (i32_add x z) g1 rfl (fun la' hl => kk la' H locs cells slots hP hz hS (aL_set (v := .inl (x + z)) hl) hcs hss)
  | iadd =>
    match st, ho with
    | .inl y :: .inl x :: st, ho =>
      cases ho
      refine lv_iadd hx hb (aDec1 hM hf rfl rfl) ?_
      rw [i32_add]
      exact kk la H locs cells slots hP hz hS hL hcs hss
  | isub =>
    match st, ho with
    | .inl y :: .inl x :: st, ho =>
      cases ho
      refine lv_isub hx hb (aDec1 hM hf rfl rfl) ?_
      rw [i32_sub]
      exact kk la H locs cells slots hP hz hS hL hcs hss
  | imul =>
    match st, ho with
    | .inl y :: .inl x :: st, ho =>
      cases ho
      refine lv_imul hx hb (aDec1 hM hf rfl rfl) ?_
      rw [i32_mul]
      exact kk la H locs cells slots hP hz hS hL hcs hss
  | ineg =>
    match st, ho with
    | .inl x :: st, ho =>
      cases ho
      refine lv_ineg hx hb (aDec1 hM hf rfl rfl) ?_
      rw [i32_neg]
      exact kk la H locs cells slots hP hz hS hL hcs hss
  | iand =>
    match st, ho with
    | .inl y :: .inl x :: st, ho =>
      cases ho
      refine lv_iand hx hb (aDec1 hM hf rfl rfl) ?_
      rw [i32_op (fun x y => x &&& y)]
      exact kk la H locs cells slots hP hz hS hL hcs hss
  | ior =>
    match st, ho with
    | .inl y :: .inl x :: st, ho =>
      cases ho
      refine lv_ior hx hb (aDec1 hM hf rfl rfl) ?_
      rw [i32_op (fun x y => x ||| y)]
      exact kk la H locs cells slots hP hz hS hL hcs hss
  | ixor =>
    match st, ho with
    | .inl y :: .inl x :: st, ho =>
      cases ho
      refine lv_ixor hx hb (aDec1 hM hf rfl rfl) ?_
      rw [i32_op (fun x y => x ^^^ y)]
      exact kk la H locs cells slots hP hz hS hL hcs hss
  | ishl =>
    match st, ho with
    | .inl y :: .inl x :: st, ho =>
      cases ho
      refine lv_ishl hx hb (aDec1 hM hf rfl rfl) ?_
      rw [i32_op (fun x y => x <<< (y &&& 31))]
      exact kk la H locs cells slots hP hz hS hL hcs hss
  | ishr =>
    match st, ho with
    | .inl y :: .inl x :: st, ho =>
      cases ho
      refine lv_ishr hx hb (aDec1 hM hf rfl rfl) ?_
      rw [i32_op (fun x y => x >>> (y &&& 31))]
      exact kk la H locs cells slots hP hz hS hL hcs hss
  | iushr =>
    match st, ho with
    | .inl y :: .inl x :: st, ho =>
      cases ho
      exact lv_iushr hx hb (aDec1 hM hf rfl rfl) (i32_op (fun x y => (x.toUInt32 >>> (y.toUInt32 &&& Int32.toUInt32 31)).toInt32) x y) (kk la H locs cells slots hP hz hS hL hcs hss)
  | dup =>
    match st, ho with
    | x :: st, ho =>
      cases ho
      exact lv_dup hx hb (aDec1 hM hf rfl rfl) (aC_cat _ x) (kk la H locs cells slots hP hz hS hL hcs hss)
  | dup2 =>
    match st, ho with
    | x :: y :: st, ho =>
      cases ho
      exact lv_dup2_11 hx hb (aDec1 hM hf rfl rfl) (aC_cat _ x) (aC_cat _ y) (kk la H locs cells slots hP hz hS hL hcs hss)
  | pop =>
    match st, ho with
    | x :: st, ho =>
      cases ho
      exact lv_pop hx hb (aDec1 hM hf rfl rfl) (aC_cat _ x) (kk la H locs cells slots hP hz hS hL hcs hss)
  | goto off =>
    simp only [aOp] at ho
    cases hq : decide (0 ≤ (pc : Int) + off) with
    | false => rw [hq] at ho; cases ho
    | true =>
      rw [hq] at ho
      cases ho
      have hq := of_decide_eq_true hq
      exact lv_goto (tgt := aJmp pc off) hx hb (aDec1 hM hf rfl rfl) (by unfold aJmp; omega) (kk la H locs cells slots hP hz hS hL hcs hss)
  | getfield idx =>
    match st, ho with
    | .inr q :: st, ho =>
      obtain ⟨v, hv1, hv2⟩ := Option.map_eq_some_iff.mp ho
      cases hv2
      exact a_getfield hM hv1 hcx hP (aDec1 hM hf rfl rfl) (kk la H locs cells slots hP hz hS hL hcs hss)
  | putfield idx =>
    match st, ho with
    | v :: .inr q :: st, ho =>
      obtain ⟨h', hv1, hv2⟩ := Option.map_eq_some_iff.mp ho
      cases hv2
      exact a_putfield hM hv1 hcx hP (aDec1 hM hf rfl rfl) hS (fun H1 locs1 g1 g2 g3 => kk la H1 locs1 cells slots g1 (g2.trans hz) g3 hL hcs hss)
  | arraylength =>
    match st, ho with
    | .inr q :: st, ho =>
      simp only [aOp] at ho
      cases hq : aGet h q with
      | none => rw [hq] at ho; cases ho
      | some ee => cases ee with
        | inr o => rw [hq] at ho; cases ho
        | inl a =>
          rw [hq] at ho
          cases ho
          exact va_alen (D := D) (cl := aCls) (tys := [(cI, .int)]) (v := Int32.ofInt (a.length : Int)) hx hb hiv.1 (aP_one hP hq) 0 0 rfl rfl rfl (aDec1 hM hf rfl rfl) (kk la H locs cells slots hP hz hS hL hcs hss)
  | _ => simp [aOp] at ho
end AOP
theorem aStep_ok {M : aM} {d kc ks n : Nat} {sc : Option (Nat × (Nat → Int32))} {Q : Option aV → aH → Prop} (hM : aOK M) {f f' : aF} (h : aStep M f = some f') (k : AW M d kc ks n sc Q f') : AW M d kc ks n sc Q f := by
  obtain ⟨pc, ls, st, hh⟩ := f
  unfold aStep at h
  cases hf : aFetch (aMt M) pc with
  | none => simp only [hf] at h; cases h
  | some i =>
    simp only [hf] at h
    exact aOp_ok hM hf h k
/-- a straight stretch of N instructions -/
theorem aGo {M : aM} {d kc ks n : Nat} {sc : Option (Nat × (Nat → Int32))} {Q : Option aV → aH → Prop} (hM : aOK M) (N : Nat) {f f' : aF} (h : aRun M N f = some f') (k : AW M d kc ks n sc Q f') : AW M d kc ks n sc Q f := by
  induction N generalizing f with
  | zero => cases h; exact k
  | succ N ih =>
    unfold aRun at h
    cases hs : aStep M f with
    | none => rw [hs] at h; cases h
    | some g => rw [hs] at h; exact aStep_ok hM hs (ih h)
end
section
/-! The rules of the abstract machine: branches, arrays, division, switches, answers, new cells, calls. -/
def aI (z : Int) : Prop := -2147483648 ≤ z ∧ z ≤ 2147483647
theorem aI_toInt {z : Int} (h : aI z) : (Int32.ofInt z).toInt = z := Int32.toInt_ofInt_of_le h.1 (by have := h.2; omega)
theorem aI_lt {x y : Int} (hx : aI x) (hy : aI y) : Int32.ofInt x < Int32.ofInt y ↔ x < y := by rw [Int32.lt_iff_toInt_lt, aI_toInt hx, aI_toInt hy]
theorem aI_le {x y : Int} (hx : aI x) (hy : aI y) : Int32.ofInt x ≤ Int32.ofInt y ↔ x ≤ y := by rw [Int32.le_iff_toInt_le, aI_toInt hx, aI_toInt hy]
theorem aI_eq {x y : Int} (hx : aI x) (hy : aI y) : Int32.ofInt x = Int32.ofInt y ↔ x = y := by rw [← Int32.toInt_inj, aI_toInt hx, aI_toInt hy]
theorem aI_0 : aI 0 := ⟨by decide, by decide⟩
theorem aIx {j N : Nat} (h : j < N) (h2 : j < 2147483648) : ¬ (nI j < 0 ∨ N ≤ (nI j).toNatClampNeg) := fun q => by
  rcases q with q | q
  · exact nI_pos (by omega) q
  · rw [nI_clamp (by omega)] at q; omega
theorem aCat_sum (ad : Nat → Nat) (st : List aV) : ((st.map (aC ad)).map fun v => v.category).sum = st.length := by
  induction st with
  | nil => rfl
  | cons v st ih => simp only [List.map_cons, List.sum_cons, List.length_cons, ih, aC_cat]; omega
theorem i32_0 : (0 : Int32) = Int32.ofInt 0 := rfl
section ARU
variable {M : aM} {d kc ks n : Nat} {sc : Option (Nat × (Nat → Int32))} {Q : Option aV → aH → Prop} {pc tgt : Nat} {off : Int} {ls : aLs} {st : List aV} {h : aH} {x y : Int}
theorem b_eq (hM : aOK M) (hf : aFetch (aMt M) pc = some (.if_icmp .eq off)) (ht : (pc : Int) + off = (tgt : Int)) (hx : aI x) (hy : aI y) (kt : x = y → AW M d kc ks n sc Q (tgt, ls, st, h)) (kf : x ≠ y → AW M d kc ks n sc Q (pc + 3, ls, st, h)) : AW M d kc ks n sc Q (pc, ls, .inl y :: .inl x :: st, h) := by
  intro p l e R s m args below meth c D cI base b0 adK adV C1 S1 Z hcx hC hS1 hfin la H locs cells slots hP hz hS hL hcs hss
  obtain ⟨hX, hb, -⟩ := id hcx
  exact lv_icmp_eq hX hb (aDec1 hM hf rfl rfl) ht (fun z => kt ((aI_eq hx hy).mp z) p l e R s m args below meth c D cI base b0 adK adV C1 S1 Z hcx hC hS1 hfin la H locs cells slots hP hz hS hL hcs hss) (fun z => kf (fun e => z ((aI_eq hx hy).mpr e)) p l e R s m args below meth c D cI base b0 adK adV C1 S1 Z hcx hC hS1 hfin la H locs cells slots hP hz hS hL hcs hss)
theorem b0_eq (hM : aOK M) (hf : aFetch (aMt M) pc = some (.ifCond .eq off)) (ht : (pc : Int) + off = (tgt : Int)) (hx : aI x) (kt : x = 0 → AW M d kc ks n sc Q (tgt, ls, st, h)) (kf : x ≠ 0 → AW M d kc ks n sc Q (pc + 3, ls, st, h)) : AW M d kc ks n sc Q (pc, ls, .inl x :: st, h) := by
  have hy := aI_0
  intro p l e R s m args below meth c D cI base b0 adK adV C1 S1 Z hcx hC hS1 hfin la H locs cells slots hP hz hS hL hcs hss
  obtain ⟨hX, hb, -⟩ := id hcx
  exact lv_if_eq hX hb (aDec1 hM hf rfl rfl) ht (fun z => kt ((aI_eq hx hy).mp z) p l e R s m args below meth c D cI base b0 adK adV C1 S1 Z hcx hC hS1 hfin la H locs cells slots hP hz hS hL hcs hss) (fun z => kf (fun e => z ((aI_eq hx hy).mpr e)) p l e R s m args below meth c D cI base b0 adK adV C1 S1 Z hcx hC hS1 hfin la H locs cells slots hP hz hS hL hcs hss)
theorem b_ne (hM : aOK M) (hf : aFetch (aMt M) pc = some (.if_icmp .ne off)) (ht : (pc : Int) + off = (tgt : Int)) (hx : aI x) (hy : aI y) (kt : x ≠ y → AW M d kc ks n sc Q (tgt, ls, st, h)) (kf : x = y → AW M d kc ks n sc Q (pc + 3, ls, st, h)) : AW M d kc ks n sc Q (pc, ls, .inl y :: .inl x :: st, h) := by
  intro p l e R s m args below meth c D cI base b0 adK adV C1 S1 Z hcx hC hS1 hfin la H locs cells slots hP hz hS hL hcs hss
  obtain ⟨hX, hb, -⟩ := id hcx
  exact lv_icmp_ne hX hb (aDec1 hM hf rfl rfl) ht (fun z => kt (fun e => z ((aI_eq hx hy).mpr e)) p l e R s m args below meth c D cI base b0 adK adV C1 S1 Z hcx hC hS1 hfin la H locs cells slots hP hz hS hL hcs hss) (fun z => kf ((aI_eq hx hy).mp z) p l e R s m args below meth c D cI base b0 adK adV C1 S1 Z hcx hC hS1 hfin la H locs cells slots hP hz hS hL hcs hss)
theorem b0_ne (hM : aOK M) (hf : aFetch (aMt M) pc = some (.ifCond .ne off)) (ht : (pc : Int) + off = (tgt : Int)) (hx : aI x) (kt : x ≠ 0 → AW M d kc ks n sc Q (tgt, ls, st, h)) (kf : x = 0 → AW M d kc ks n sc Q (pc + 3, ls, st, h)) : AW M d kc ks n sc Q (pc, ls, .inl x :: st, h) := by
  have hy := aI_0
  intro p l e R s m args below meth c D cI base b0 adK adV C1 S1 Z hcx hC hS1 hfin la H locs cells slots hP hz hS hL hcs hss
  obtain ⟨hX, hb, -⟩ := id hcx
  exact lv_if_ne hX hb (aDec1 hM hf rfl rfl) ht (fun z => kt (fun e => z ((aI_eq hx hy).mpr e)) p l e R s m args below meth c D cI base b0 adK adV C1 S1 Z hcx hC hS1 hfin la H locs cells slots hP hz hS hL hcs hss) (fun z => kf ((aI_eq hx hy).mp z) p l e R s m args below meth c D cI base b0 adK adV C1 S1 Z hcx hC hS1 hfin la H locs cells slots hP hz hS hL hcs hss)
theorem b_lt (hM : aOK M) (hf : aFetch (aMt M) pc = some (.if_icmp .lt off)) (ht : (pc : Int) + off = (tgt : Int)) (hx : aI x) (hy : aI y) (kt : x < y → AW M d kc ks n sc Q (tgt, ls, st, h)) (kf : y ≤ x → AW M d kc ks n sc Q (pc + 3, ls, st, h)) : AW M d kc ks n sc Q (pc, ls, .inl y :: .inl x :: st, h) := by
  intro p l e R s m args below meth c D cI base b0 adK adV C1 S1 Z hcx hC hS1 hfin la H locs cells slots hP hz hS hL hcs hss
  obtain ⟨hX, hb, -⟩ := id hcx
  exact lv_icmp_lt hX hb (aDec1 hM hf rfl rfl) ht (fun z => kt ((aI_lt hx hy).mp z) p l e R s m args below meth c D cI base b0 adK adV C1 S1 Z hcx hC hS1 hfin la H locs cells slots hP hz hS hL hcs hss) (fun z => kf (Int.not_lt.mp (fun e => z ((aI_lt hx hy).mpr e))) p l e R s m args below meth c D cI base b0 adK adV C1 S1 Z hcx hC hS1 hfin la H locs cells slots hP hz hS hL hcs hss)
theorem b0_lt (hM : aOK M) (hf : aFetch (aMt M) pc = some (.ifCond .lt off)) (ht : (pc : Int) + off = (tgt : Int)) (hx : aI x) (kt : x < 0 → AW M d kc ks n sc Q (tgt, ls, st, h)) (kf : 0 ≤ x → AW M d kc ks n sc Q (pc + 3, ls, st, h)) : AW M d kc ks n sc Q (pc, ls, .inl x :: st, h) := by
  have hy := aI_0
  intro p l e R s m args below meth c D cI base b0 adK adV C1 S1 Z hcx hC hS1 hfin la H locs cells slots hP hz hS hL hcs hss
  obtain ⟨hX, hb, -⟩ := id hcx
  exact lv_if_lt hX hb (aDec1 hM hf rfl rfl) ht (fun z => kt ((aI_lt hx hy).mp z) p l e R s m args below meth c D cI base b0 adK adV C1 S1 Z hcx hC hS1 hfin la H locs cells slots hP hz hS hL hcs hss) (fun z => kf (Int.not_lt.mp (fun e => z ((aI_lt hx hy).mpr e))) p l e R s m args below meth c D cI base b0 adK adV C1 S1 Z hcx hC hS1 hfin la H locs cells slots hP hz hS hL hcs hss)
theorem b_ge (hM : aOK M) (hf : aFetch (aMt M) pc = some (.if_icmp .ge off)) (ht : (pc : Int) + off = (tgt : Int)) (hx : aI x) (hy : aI y) (kt : y ≤ x → AW M d kc ks n sc Q (tgt, ls, st, h)) (kf : x < y → AW M d kc ks n sc Q (pc + 3, ls, st, h)) : AW M d kc ks n sc Q (pc, ls, .inl y :: .inl x :: st, h) := by
  intro p l e R s m args below meth c D cI base b0 adK adV C1 S1 Z hcx hC hS1 hfin la H locs cells slots hP hz hS hL hcs hss
  obtain ⟨hX, hb, -⟩ := id hcx
  exact lv_icmp_ge hX hb (aDec1 hM hf rfl rfl) ht (fun z => kt ((aI_le hy hx).mp z) p l e R s m args below meth c D cI base b0 adK adV C1 S1 Z hcx hC hS1 hfin la H locs cells slots hP hz hS hL hcs hss) (fun z => kf (Int.not_le.mp (fun e => z ((aI_le hy hx).mpr e))) p l e R s m args below meth c D cI base b0 adK adV C1 S1 Z hcx hC hS1 hfin la H locs cells slots hP hz hS hL hcs hss)
theorem b0_ge (hM : aOK M) (hf : aFetch (aMt M) pc = some (.ifCond .ge off)) (ht : (pc : Int) + off = (tgt : Int)) (hx : aI x) (kt : 0 ≤ x → AW M d kc ks n sc Q (tgt, ls, st, h)) (kf : x < 0 → AW M d kc ks n sc Q (pc + 3, ls, st, h)) : AW M d kc ks n sc Q (pc, ls, .inl x :: st, h) := by
  have hy := aI_0
  intro p l e R s m args below meth c D cI base b0 adK adV C1 S1 Z hcx hC hS1 hfin la H locs cells slots hP hz hS hL hcs hss
  obtain ⟨hX, hb, -⟩ := id hcx
  exact lv_if_ge hX hb (aDec1 hM hf rfl rfl) ht (fun z => kt ((aI_le hy hx).mp z) p l e R s m args below meth c D cI base b0 adK adV C1 S1 Z hcx hC hS1 hfin la H locs cells slots hP hz hS hL hcs hss) (fun z => kf (Int.not_le.mp (fun e => z ((aI_le hy hx).mpr e))) p l e R s m args below meth c D cI base b0 adK adV C1 S1 Z hcx hC hS1 hfin la H locs cells slots hP hz hS hL hcs hss)
theorem b_gt (hM : aOK M) (hf : aFetch (aMt M) pc = some (.if_icmp .gt off)) (ht : (pc : Int) + off = (tgt : Int)) (hx : aI x) (hy : aI y) (kt : y < x → AW M d kc ks n sc Q (tgt, ls, st, h)) (kf : x ≤ y → AW M d kc ks n sc Q (pc + 3, ls, st, h)) : AW M d kc ks n sc Q (pc, ls, .inl y :: .inl x :: st, h) := by
  intro p l e R s m args below meth c D cI base b0 adK adV C1 S1 Z hcx hC hS1 hfin la H locs cells slots hP hz hS hL hcs hss
  obtain ⟨hX, hb, -⟩ := id hcx
  exact lv_icmp_gt hX hb (aDec1 hM hf rfl rfl) ht (fun z => kt ((aI_lt hy hx).mp z) p l e R s m args below meth c D cI base b0 adK adV C1 S1 Z hcx hC hS1 hfin la H locs cells slots hP hz hS hL hcs hss) (fun z => kf (Int.not_lt.mp (fun e => z ((aI_lt hy hx).mpr e))) p l e R s m args below meth c D cI base b0 adK adV C1 S1 Z hcx hC hS1 hfin la H locs cells slots hP hz hS hL hcs hss)
theorem b0_gt (hM : aOK M) (hf : aFetch (aMt M) pc = some (.ifCond .gt off)) (ht : (pc : Int) + off = (tgt : Int)) (hx : aI x) (kt : 0 < x → AW M d kc ks n sc Q (tgt, ls, st, h)) (kf : x ≤ 0 → AW M d kc ks n sc Q (pc + 3, ls, st, h)) : AW M d kc ks n sc Q (pc, ls, .inl x :: st, h) := by
  have hy := aI_0
  intro p l e R s m args below meth c D cI base b0 adK adV C1 S1 Z hcx hC hS1 hfin la H locs cells slots hP hz hS hL hcs hss
  obtain ⟨hX, hb, -⟩ := id hcx
  exact lv_if_gt hX hb (aDec1 hM hf rfl rfl) ht (fun z => kt ((aI_lt hy hx).mp z) p l e R s m args below meth c D cI base b0 adK adV C1 S1 Z hcx hC hS1 hfin la H locs cells slots hP hz hS hL hcs hss) (fun z => kf (Int.not_lt.mp (fun e => z ((aI_lt hy hx).mpr e))) p l e R s m args below meth c D cI base b0 adK adV C1 S1 Z hcx hC hS1 hfin la H locs cells slots hP hz hS hL hcs hss)
theorem b_le (hM : aOK M) (hf : aFetch (aMt M) pc = some (.if_icmp .le off)) (ht : (pc : Int) + off = (tgt : Int)) (hx : aI x) (hy : aI y) (kt : x ≤ y → AW M d kc ks n sc Q (tgt, ls, st, h)) (kf : y < x → AW M d kc ks n sc Q (pc + 3, ls, st, h)) : AW M d kc ks n sc Q (pc, ls, .inl y :: .inl x :: st, h) := by
  intro p l e R s m args below meth c D cI base b0 adK adV C1 S1 Z hcx hC hS1 hfin la H locs cells slots hP hz hS hL hcs hss
  obtain ⟨hX, hb, -⟩ := id hcx
  exact lv_icmp_le hX hb (aDec1 hM hf rfl rfl) ht (fun z => kt ((aI_le hx hy).mp z) p l e R s m args below meth c D cI base b0 adK adV C1 S1 Z hcx hC hS1 hfin la H locs cells slots hP hz hS hL hcs hss) (fun z => kf (Int.not_le.mp (fun e => z ((aI_le hx hy).mpr e))) p l e R s m args below meth c D cI base b0 adK adV C1 S1 Z hcx hC hS1 hfin la H locs cells slots hP hz hS hL hcs hss)
theorem b0_le (hM : aOK M) (hf : aFetch (aMt M) pc = some (.ifCond .le off)) (ht : (pc : Int) + off = (tgt : Int)) (hx : aI x) (kt : x ≤ 0 → AW M d kc ks n sc Q (tgt, ls, st, h)) (kf : 0 < x → AW M d kc ks n sc Q (pc + 3, ls, st, h)) : AW M d kc ks n sc Q (pc, ls, .inl x :: st, h) := by
  have hy := aI_0
  intro p l e R s m args below meth c D cI base b0 adK adV C1 S1 Z hcx hC hS1 hfin la H locs cells slots hP hz hS hL hcs hss
  obtain ⟨hX, hb, -⟩ := id hcx
  exact lv_if_le hX hb (aDec1 hM hf rfl rfl) ht (fun z => kt ((aI_le hx hy).mp z) p l e R s m args below meth c D cI base b0 adK adV C1 S1 Z hcx hC hS1 hfin la H locs cells slots hP hz hS hL hcs hss) (fun z => kf (Int.not_le.mp (fun e => z ((aI_le hx hy).mpr e))) p l e R s m args below meth c D cI base b0 adK adV C1 S1 Z hcx hC hS1 hfin la H locs cells slots hP hz hS hL hcs hss)
/-- two answers that are the same, of whatever size -/
theorem b_same (hM : aOK M) (hf : aFetch (aMt M) pc = some (.if_icmp .eq off)) (ht : (pc : Int) + off = (tgt : Int)) (hxy : x = y) (kt : AW M d kc ks n sc Q (tgt, ls, st, h)) : AW M d kc ks n sc Q (pc, ls, .inl y :: .inl x :: st, h) := by
  intro p l e R s m args below meth c D cI base b0 adK adV C1 S1 Z hcx hC hS1 hfin la H locs cells slots hP hz hS hL hcs hss
  obtain ⟨hX, hb, -⟩ := id hcx
  exact lv_icmp_eq hX hb (aDec1 hM hf rfl rfl) ht (fun z => kt p l e R s m args below meth c D cI base b0 adK adV C1 S1 Z hcx hC hS1 hfin la H locs cells slots hP hz hS hL hcs hss) (fun z => absurd (by rw [hxy]) z)
/-! division of numbers that are not below 0 -/
theorem i32_div (hx : 0 ≤ x ∧ x ≤ 2147483647) (hy : 0 < y ∧ y ≤ 2147483647) : Int32.ofInt x / Int32.ofInt y = Int32.ofInt (x / y) := by
  have h1 : x / y ≤ x := Int.ediv_le_self y hx.1
  have h2 : 0 ≤ x / y := Int.ediv_nonneg hx.1 (by omega)
  rw [← Int32.toInt_inj, Int32.toInt_div, aI_toInt ⟨by omega, hx.2⟩, aI_toInt ⟨by omega, hy.2⟩, Int.tdiv_eq_ediv_of_nonneg hx.1, aI_toInt ⟨by omega, by omega⟩]
  exact Int.bmod_eq_of_le (by omega) (by omega)
theorem b_div (hM : aOK M) (hf : aFetch (aMt M) pc = some .idiv) (hx : 0 ≤ x ∧ x ≤ 2147483647) (hy : 0 < y ∧ y ≤ 2147483647) (kk : AW M d kc ks n sc Q (pc + 1, ls, .inl (x / y) :: st, h)) : AW M d kc ks n sc Q (pc, ls, .inl y :: .inl x :: st, h) := by
  intro p l e R s m args below meth c D cI base b0 adK adV C1 S1 Z hcx hC hS1 hfin la H locs cells slots hP hz hS hL hcs hss
  obtain ⟨hX, hb, -⟩ := id hcx
  refine lv_idiv hX hb (aDec1 hM hf rfl rfl) (fun z => ?_) ?_
  · have := (aI_eq (x := y) (y := 0) ⟨by omega, hy.2⟩ aI_0).mp z
    omega
  · rw [i32_div hx hy]
    exact kk p l e R s m args below meth c D cI base b0 adK adV C1 S1 Z hcx hC hS1 hfin la H locs cells slots hP hz hS hL hcs hss
theorem b_rem (hM : aOK M) (hf : aFetch (aMt M) pc = some .irem) (hx : 0 ≤ x ∧ x ≤ 2147483647) (hy : 0 < y ∧ y ≤ 2147483647) (kk : AW M d kc ks n sc Q (pc + 1, ls, .inl (x % y) :: st, h)) : AW M d kc ks n sc Q (pc, ls, .inl y :: .inl x :: st, h) := by
  intro p l e R s m args below meth c D cI base b0 adK adV C1 S1 Z hcx hC hS1 hfin la H locs cells slots hP hz hS hL hcs hss
  obtain ⟨hX, hb, -⟩ := id hcx
  refine lv_irem hX hb (aDec1 hM hf rfl rfl) (fun z => ?_) ?_
  · have := (aI_eq (x := y) (y := 0) ⟨by omega, hy.2⟩ aI_0).mp z
    omega
  · rw [i32_div hx hy, i32_mul, i32_sub, show x - x / y * y = x % y by rw [Int.emod_def, Int.mul_comm]]
    exact kk p l e R s m args below meth c D cI base b0 adK adV C1 S1 Z hcx hC hS1 hfin la H locs cells slots hP hz hS hL hcs hss
/-! switches -/
theorem b_swIn {dflt lo hi : Int} {offs : Array Int} (hM : aOK M) (hf : aFetch (aMt M) pc = some (.tableswitch dflt lo hi offs)) (hx : aI x) (h1 : lo ≤ x) (h2 : x ≤ hi) (ho : offs[(x - lo).toNat]? = some off) (ht : (pc : Int) + off = (tgt : Int)) (kk : AW M d kc ks n sc Q (tgt, ls, st, h)) : AW M d kc ks n sc Q (pc, ls, .inl x :: st, h) := by
  intro p l e R s m args below meth c D cI base b0 adK adV C1 S1 Z hcx hC hS1 hfin la H locs cells slots hP hz hS hL hcs hss
  obtain ⟨hX, hb, -⟩ := id hcx
  obtain ⟨len, hd, -⟩ := aDec_of hM hf
  exact lv_tableIn hX hb hd (by rw [aI_toInt hx]; omega) (by rw [aI_toInt hx]; omega) (by rw [aI_toInt hx]; exact ho) ht (kk p l e R s m args below meth c D cI base b0 adK adV C1 S1 Z hcx hC hS1 hfin la H locs cells slots hP hz hS hL hcs hss)
theorem b_swOut {dflt lo hi : Int} {offs : Array Int} (hM : aOK M) (hf : aFetch (aMt M) pc = some (.tableswitch dflt lo hi offs)) (hx : aI x) (h1 : x < lo ∨ hi < x) (ht : (pc : Int) + dflt = (tgt : Int)) (kk : AW M d kc ks n sc Q (tgt, ls, st, h)) : AW M d kc ks n sc Q (pc, ls, .inl x :: st, h) := by
  intro p l e R s m args below meth c D cI base b0 adK adV C1 S1 Z hcx hC hS1 hfin la H locs cells slots hP hz hS hL hcs hss
  obtain ⟨hX, hb, -⟩ := id hcx
  obtain ⟨len, hd, -⟩ := aDec_of hM hf
  exact lv_tableOut hX hb hd (by rw [aI_toInt hx]; exact h1) ht (kk p l e R s m args below meth c D cI base b0 adK adV C1 S1 Z hcx hC hS1 hfin la H locs cells slots hP hz hS hL hcs hss)
theorem b_look {dflt : Int} {ps : Array (Int × Int)} (hM : aOK M) (hf : aFetch (aMt M) pc = some (.lookupswitch dflt ps)) (hp : (ps.toList.zip (ps.toList.drop 1)).all (fun (a, next) => a.1 < next.1) = true) (hx : aI x) (ho : Op.lookupswitch.offset ps.toList dflt x = off) (ht : (pc : Int) + off = (tgt : Int)) (kk : AW M d kc ks n sc Q (tgt, ls, st, h)) : AW M d kc ks n sc Q (pc, ls, .inl x :: st, h) := by
  intro p l e R s m args below meth c D cI base b0 adK adV C1 S1 Z hcx hC hS1 hfin la H locs cells slots hP hz hS hL hcs hss
  obtain ⟨hX, hb, -⟩ := id hcx
  obtain ⟨len, hd, -⟩ := aDec_of hM hf
  exact lv_lookup hX hb hd hp (by rw [aI_toInt hx]; exact ho) ht (kk p l e R s m args below meth c D cI base b0 adK adV C1 S1 Z hcx hC hS1 hfin la H locs cells slots hP hz hS hL hcs hss)
/-! arrays of ints -/
theorem b_ald {k j : Nat} {a : List Int} (hM : aOK M) (hf : aFetch (aMt M) pc = some .iaload) (hk : aGet h k = some (.inl a)) (hx : x = (j : Int)) (hj : j < a.length) (hj2 : j < 2147483648) (kk : AW M d kc ks n sc Q (pc + 1, ls, .inl (a.getD j 0) :: st, h)) : AW M d kc ks n sc Q (pc, ls, .inl x :: .inr k :: st, h) := by
  intro p l e R s m args below meth c D cI base b0 adK adV C1 S1 Z hcx hC hS1 hfin la H locs cells slots hP hz hS hL hcs hss
  obtain ⟨hX, hb, hml, hr, hin, hown, hts, hlk, hiv, -⟩ := id hcx
  have ej : Int32.ofInt x = nI j := by rw [hx]; rfl
  refine va_iald (D := D) (cl := aCls) (tys := [(cI, .int)]) (n := a.length) (f := fun j => Int32.ofInt (a.getD j 0)) hX hb hiv.1 (aP_one hP hk) 0 0 rfl rfl (i := Int32.ofInt x) (by rw [ej]; exact aIx hj (by omega)) (aDec1 hM hf rfl rfl) ?_
  rw [ej, nI_clamp (by omega)]
  exact kk p l e R s m args below meth c D cI base b0 adK adV C1 S1 Z hcx hC hS1 hfin la H locs cells slots hP hz hS hL hcs hss
theorem b_ast {k j : Nat} {a : List Int} (hM : aOK M) (hf : aFetch (aMt M) pc = some .iastore) (hk : aGet h k = some (.inl a)) (hx : x = (j : Int)) (hj : j < a.length) (hj2 : j < 2147483648) (kk : AW M d kc ks n sc Q (pc + 1, ls, st, aSet h k (.inl (a.set j y)))) : AW M d kc ks n sc Q (pc, ls, .inl y :: .inl x :: .inr k :: st, h) := by
  intro p l e R s m args below meth c D cI base b0 adK adV C1 S1 Z hcx hC hS1 hfin la H locs cells slots hP hz hS hL hcs hss
  obtain ⟨hX, hb, hml, hr, hin, hown, hts, hlk, hiv, -⟩ := id hcx
  have ej : Int32.ofInt x = nI j := by rw [hx]; rfl
  have hfk := aGet_fits hP.1 hk
  have hat : H[aAd base b0 adK k]? = some (vp_cell cI (a.length, .inl (fun j => Int32.ofInt (a.getD j 0)))) := hP.2 k _ hk
  have hba' : base ≤ aAd base b0 adK k := by rw [aAd_fits hfk]; omega
  refine W.iast (x := Int32.ofInt y) (j := Int32.ofInt x) hX hb hat ((hiv.1.2 0 _ rfl).1 a.length (fun j => .int (Int32.ofInt (a.getD j 0)))) (fun q => by cases q) (by
    show ¬ (_ ∨ (arrV _ _ _).slots.size ≤ _)
    rw [arrV_size, ej]
    exact aIx hj hj2) rfl rfl (aDec1 hM hf rfl rfl) fun H1 z1 z2 z3 => ?_
  refine kk p l e R s m args below meth c D cI base b0 adK adV C1 S1 Z hcx hC hS1 hfin la H1 _ cells slots (aP_set hP hfk ?_ z3) (z2.trans hz) (hS.put z2 z3 hba') hL hcs hss
  show H1[_]? = some (vp_cell _ _)
  rw [z1, ej, nI_clamp (by omega), vp_cell_i, vp_cell_i, arrV_store]
  congr 2
  · rw [List.length_set]
  · funext q
    simp only [updV]
    by_cases hq : q = j
    · subst hq
      rw [if_pos rfl, List.getD_eq_getElem?_getD, List.getElem?_set_self hj]
      rfl
    · rw [if_neg hq, List.getD_eq_getElem?_getD, List.getD_eq_getElem?_getD, List.getElem?_set_ne (fun z => hq z.symm)]
/-! the law's script -/
theorem b_sld {j L : Nat} {xs : Nat → Int32} (hM : aOK M) (hf : aFetch (aMt M) pc = some .iaload) (hs : sc = some (L, xs)) (hx : x = (j : Int)) (hj : j < L) (hj2 : L < 2147483648) (kk : AW M d kc ks n sc Q (pc + 1, ls, .inl (xs j).toInt :: st, h)) : AW M d kc ks n sc Q (pc, ls, .inl x :: .inr 1024 :: st, h) := by
  intro p l e R s m args below meth c D cI base b0 adK adV C1 S1 Z hcx hC hS1 hfin la H locs cells slots hP hz hS hL hcs hss
  obtain ⟨hX, hb, hml, hr, hin, hown, hts, hlk, hiv, -, hba, hsc⟩ := id hcx
  obtain ⟨g1, g2, g3⟩ := hsc L xs hs
  have ej : Int32.ofInt x = nI j := by rw [hx]; rfl
  refine va_sld hX hb g1 g2 (Nat.not_le.mpr g3) hS (i := Int32.ofInt x) (by rw [ej]; exact aIx hj (by omega)) (aDec1 hM hf rfl rfl) ?_
  rw [ej, nI_clamp (by omega)]
  have k2 := kk p l e R s m args below meth c D cI base b0 adK adV C1 S1 Z hcx hC hS1 hfin la H locs cells slots hP hz hS hL hcs hss
  simp only [List.map_cons, aC, Int32.ofInt_toInt] at k2
  exact k2
theorem b_slen {L : Nat} {xs : Nat → Int32} (hM : aOK M) (hf : aFetch (aMt M) pc = some .arraylength) (hs : sc = some (L, xs)) (kk : AW M d kc ks n sc Q (pc + 1, ls, .inl (L : Int) :: st, h)) : AW M d kc ks n sc Q (pc, ls, .inr 1024 :: st, h) := by
  intro p l e R s m args below meth c D cI base b0 adK adV C1 S1 Z hcx hC hS1 hfin la H locs cells slots hP hz hS hL hcs hss
  obtain ⟨hX, hb, hml, hr, hin, hown, hts, hlk, hiv, -, hba, hsc⟩ := id hcx
  obtain ⟨g1, g2, g3⟩ := hsc L xs hs
  exact va_slen hX hb g1 g2 (Nat.not_le.mpr g3) hS (aDec1 hM hf rfl rfl) (kk p l e R s m args below meth c D cI base b0 adK adV C1 S1 Z hcx hC hS1 hfin la H locs cells slots hP hz hS hL hcs hss)
/-! answers; locals that are forgotten -/
theorem b_ret {v : Option aV} (hr : aRet M pc v) (hq : Q v h) (hst : st = v.toList) : AW M d 0 ks n sc Q (pc, ls, st, h) := by
  intro p l e R s m args below meth c D cI base b0 adK adV C1 S1 Z hcx hC hS1 hfin la H locs cells slots hP hz hS hL hcs hss
  subst hst
  simp only [Nat.add_zero] at hcs
  subst hcs
  have := hfin v h pc la H locs slots hq hP hz hS (by omega) hr
  cases v <;> exact this
theorem b_lose {ls' : aLs} (hl : ∀ (i : Nat) (v : aV), ls'[i]? = some (some v) → ls[i]? = some (some v)) (kk : AW M d kc ks n sc Q (pc, ls', st, h)) : AW M d kc ks n sc Q (pc, ls, st, h) := by
  intro p l e R s m args below meth c D cI base b0 adK adV C1 S1 Z hcx hC hS1 hfin la H locs cells slots hP hz hS hL hcs hss
  refine kk p l e R s m args below meth c D cI base b0 adK adV C1 S1 Z hcx hC hS1 hfin la H locs cells slots hP hz hS (lv_less hL fun q hq => ?_) hcs hss
  obtain ⟨i, w⟩ := q
  obtain ⟨v, h1, h2⟩ := aAss_in.mp hq
  exact aAss_in.mpr ⟨v, hl i v h1, h2⟩
theorem b_post {Q' : Option aV → aH → Prop} {f : aF} (hq : ∀ v h, Q' v h → Q v h) (kk : AW M d kc ks n sc Q' f) : AW M d kc ks n sc Q f := by
  intro p l e R s m args below meth c D cI base b0 adK adV C1 S1 Z hcx hC hS1 hfin
  exact kk p l e R s m args below meth c D cI base b0 adK adV C1 S1 Z hcx hC hS1 (fun v h pc la H locs slots g => hfin v h pc la H locs slots (hq v h g))
/-! new cells -/
def aDef : FieldType → Option aV
  | .int => some (.inl 0)
  | .boolean => some (.inl 0)
  | _ => none
theorem aDef_ok (ad : Nat → Nat) {ty : FieldType} (h : aTyc ty ≤ 2) : defaultValue ty = aN ad (aDef ty) := by
  cases ty <;> first | rfl | (simp [aTyc] at h)
theorem b_new {idx k ci N : Nat} {C : String} {T : u_T} (hM : aOK M) (hf : aFetch (aMt M) pc = some (.new idx)) (hcl : aCls[ci]? = some (C, T, N)) (hlk : Cond.classLink (aMy M).cls idx C ∈ aBW) (hfk : aFits k) (hk : n = aOrd k) {fs : List (Option aV)} (hlen : fs.length = N) (hfs : ∀ j, j < N → ∀ ty, parseFieldDescriptor (T j).2.2.1 = some ty → fs[j]? = some (aDef ty))
    (kk : AW M d kc ks (n + 1) sc Q (pc + 3, ls, .inr k :: st, aSet h k (.inr (ci, fs)))) : AW M d (kc + 1) (ks + N) n sc Q (pc, ls, st, h) := by
  intro p l e R s m args below meth c D cI base b0 adK adV C1 S1 Z hcx hC hS1 hfin la H locs cells slots hP hz hS hL hcs hss
  obtain ⟨hX, hb, hml, hr, hin, hown, hts, hlo, hiv, -⟩ := id hcx
  obtain ⟨c1, ⟨tyF, c2, c4⟩, c3, c5, c6⟩ := aCls_at hcl
  simp only at c1 c2 c3 c4 c5 c6
  have hKn := hiv.1.1 ci _ hcl
  have had : aAd base b0 adK k = H.size := by rw [aAd_fits hfk, hz, hk]
  have hba := hcx.2.2.2.2.2.2.2.2.2.2.1
  refine W.newcK hX hb hown (hts _ hlk) (hts _ c5) (hts _ c6) rfl (aDec1 hM hf rfl rfl) (by omega) (by omega) hKn.2.1 had.symm fun H1 kC hkC e1 z1 o1 => ?_
  have hP1 : aP D cI (aAd base b0 adK) (aSet h k (.inr (ci, fs))) H1 := by
    refine aP_new hP hfk had ⟨_, hcl, (u_born tyF hts c1 hKn hkC e1 c2).to fun j hj => ?_⟩ (fun q hq => o1 q (by rw [had]; exact hq))
    rw [aDef_ok (aAd base b0 adK) (c4 j hj)]
    simp only [vp_V, List.getD_eq_getElem?_getD, List.getElem?_map, hfs j hj _ (c2 j hj)]
    rfl
  exact kk p l e R s m args below meth c D cI base b0 adK adV C1 S1 Z hcx hC hS1 (fun v h pc la H locs slots g1 g2 g3 => hfin v h pc la H locs slots g1 g2 (by omega)) la H1 locs (cells + 1) (slots + N) hP1 (by rw [z1, had, hz]; omega) ⟨by have := hS.1; omega, fun x h1 h2 => (o1 x (by rw [had]; exact Nat.lt_of_lt_of_le h1 hS.1)).trans (hS.2.1 x h1 h2), hS.2.2⟩ hL (by omega) (by omega)
theorem b_newa {k N : Nat} (hM : aOK M) (hf : aFetch (aMt M) pc = some (.newarray .int)) (hN : N < 65536) (hx : x = (N : Int)) (hfk : aFits k) (hk : n = aOrd k) (hI : Cond.arrayClass .int ∈ aBW)
    (kk : AW M d kc ks (n + 1) sc Q (pc + 2, ls, .inr k :: st, aSet h k (.inl (List.replicate N 0)))) : AW M d (kc + 1) (ks + N) n sc Q (pc, ls, .inl x :: st, h) := by
  intro p l e R s m args below meth c D cI base b0 adK adV C1 S1 Z hcx hC hS1 hfin la H locs cells slots hP hz hS hL hcs hss
  obtain ⟨hX, hb, hml, hr, hin, hown, hts, hlo, hiv, -⟩ := id hcx
  have ej : Int32.ofInt x = nI N := by rw [hx]; rfl
  have had : aAd base b0 adK k = H.size := by rw [aAd_fits hfk, hz, hk]
  refine va_newaK (atype := .int) (n := Int32.ofInt x) (N := N) hX hb (hts _ hI) rfl (aDec1 hM hf rfl rfl) rfl (by rw [ej]; exact nI_pos (by omega)) (by rw [ej]; exact nI_clamp (by omega)) (by show N * 4 ≤ _; omega) (by omega) (by omega) had.symm fun H1 cA e1 z1 o1 hAr hNm => ?_
  have hcA : cA = cI := Option.some.inj (hNm.symm.trans (hiv.1.2 0 _ rfl).2)
  subst hcA
  have hP1 : aP D cA (aAd base b0 adK) (aSet h k (.inl (List.replicate N 0))) H1 := by
    refine aP_new hP hfk had ?_ (fun q hq => o1 q (by rw [had]; exact hq))
    show H1[_]? = some (vp_cell _ _)
    rw [e1, vp_cell_i, List.length_replicate]
    congr 2
    funext q
    simp only [List.getD_eq_getElem?_getD, List.getElem?_replicate]
    by_cases hq : q < N
    · rw [if_pos hq]; rfl
    · rw [if_neg hq]; rfl
  exact kk p l e R s m args below meth c D cA base b0 adK adV C1 S1 Z hcx hC hS1 (fun v h pc la H locs slots g1 g2 g3 => hfin v h pc la H locs slots g1 g2 (by omega)) la H1 locs (cells + 1) (slots + N) hP1 (by rw [z1, had, hz]; omega) ⟨by have := hS.1; omega, fun x h1 h2 => (o1 x (by rw [had]; exact Nat.lt_of_lt_of_le h1 hS.1)).trans (hS.2.1 x h1 h2), hS.2.2⟩ hL (by omega) (by omega)
/-- Object.<init> -/
theorem b_obj {idx k : Nat} (hM : aOK M) (hf : aFetch (aMt M) pc = some (.invokespecial idx)) (hlk : Cond.methodLink (aMy M).cls idx Lib.objectInit ∈ aBW) (hin : Cond.instanceMethod Lib.objectInit ∈ aBW) (hco : Cond.code Lib.objectInit ⟨#[0xb1]⟩ 1 none ∈ aBW) (hd : 1 ≤ d) (hst : st.length ≤ 8) (kk : AW M d kc ks n sc Q (pc + 3, ls, st, h)) : AW M d kc ks n sc Q (pc, ls, .inr k :: st, h) := by
  intro p l e R s m args below meth c D cI base b0 adK adV C1 S1 Z hcx hC hS1 hfin la H locs cells slots hP hz hS hL hcs hss
  obtain ⟨hX, hb, hml, hr, hin0, hown, hts, hlo, hiv, hrm, -⟩ := id hcx
  refine W.objInit hX hb hown (hts _ hlk) (hts _ hin) (hts _ hco) rfl (by rw [hml]; exact hL.1) rfl (aDec1 hM hf rfl rfl) (by omega) ?_ (kk p l e R s m args below meth c D cI base b0 adK adV C1 S1 Z hcx hC hS1 hfin la H locs cells slots hP hz hS hL hcs hss)
  have hsum := aCat_sum (aAd base b0 adK) st
  show 2 * 0 + _ + 12 ≤ _
  rw [hsum]; omega
end ARU
end
section
/-! Methods' contracts over the abstract machine, and calls. -/
def aRm (d kc ks : Nat) : Room := { frames := d, cells := kc, slots := ks, locals := 36 * d }
def aPre (D : va_G) (cI : ClassId) (base b0 : Nat) (adK adV : Nat → Nat) (n : Nat) (as : List aV) (h : aH) : Array Value → State → Prop := fun v U =>
  v = (as.map (aC (aAd base b0 adK))).toArray ∧ U.heap.size = base + n ∧ base ≤ U.heap.size ∧ aP D cI (aAd base b0 adK) h U.heap ∧ aIv base D cI adK adV U
def aPost (D : va_G) (cI : ClassId) (base b0 : Nat) (adK : Nat → Nat) (n : Nat) (Q : Option aV → aH → Prop) : Array Value → State → Outcome → State → Prop := fun _ st o t =>
  (∃ (v : Option aV) (h : aH), o = .returned (v.map (aC (aAd base b0 adK))) ∧ Q v h ∧ t.heap.size = base + n ∧ aP D cI (aAd base b0 adK) h t.heap) ∧ va_F (fun q => base ≤ q) st t
def aWs (M : aM) : List Cond := Cond.code (aMy M) (aMc M) (aMn M) (aMr M) :: aBW
/-- method M, on these arguments over this heap with n cells made before, ends with Q; it makes kc cells of ks slots; d frames -/
def aEv (M : aM) (d kc ks n : Nat) (as : List aV) (h : aH) (Q : Option aV → aH → Prop) : Prop :=
  ∀ (l : Launch) (D : va_G) (cI : ClassId) (base b0 : Nat) (adK adV : Nat → Nat), Met l (aMy M) (aWs M) (aRm d kc ks) (aPre D cI base b0 adK adV n as h) (aPost D cI base b0 adK (n + kc) Q) kc ks (fun q => base ≤ q)
theorem aNW_is {w : Cond} (hw : w ∈ aNW) : ∃ a i x h, w = .methodLinkNest a i x h := by
  have h := (List.mem_filter.mp hw).2
  cases w <;> first | exact ⟨_, _, _, _, rfl⟩ | (simp at h)
theorem aIv_moved {base : Nat} {D : va_G} {cI : ClassId} {adK adV : Nat → Nat} {s U : State} (hW : s.WarmedH U.vm) (hk : ∀ a : Nat, a < s.heap.size → ¬ base ≤ a → U.heap[a]? = s.heap[a]?) (h : aIv base D cI adK adV s) : aIv base D cI adK adV U := by
  obtain ⟨h1, h2, h3, h4⟩ := h
  refine ⟨va_K.moved hW.alike h1, fun w hw => ?_, (vk_S.moved hW.alike h3).kept hk, fun i q hq => vk_R.warm hW (h4 i q hq)⟩
  obtain ⟨a, i, x, hh, rfl⟩ := aNW_is hw
  exact va_Nw.warmM hW (h2 _ hw)
theorem aPre_blind {D : va_G} {cI : ClassId} {base b0 : Nat} {adK adV : Nat → Nat} {n : Nat} {as : List aV} {h : aH} : FrameBlind (aPre D cI base b0 adK adV n as h) := by
  rintro a U g mk ⟨h1, h2, h3, h4, h5⟩
  exact ⟨h1, h2, h3, h4, aIv_moved (s := U) (U := U.calling g mk a) (State.WarmedH.refl U) (fun _ _ _ => rfl) h5⟩
/-- the locals of a method's start -/
def aEn (nL : Nat) (as : List aV) : aLs := as.map some ++ List.replicate (nL - as.length) none
theorem lv_args_mem (ad : Nat → Nat) : ∀ (as : List aV) (i k : Nat) (w : aV), as[k]? = some w → (i + k, aC ad w) ∈ lv_args i (as.map (aC ad))
  | [], i, k, w, h => by simp at h
  | a :: as, i, 0, w, h => by
    simp only [List.getElem?_cons_zero, Option.some.injEq] at h
    subst h
    exact List.mem_cons_self
  | a :: as, i, k + 1, w, h => by
    simp only [List.getElem?_cons_succ] at h
    have := lv_args_mem ad as (i + 1) k w h
    show _ ∈ (i, aC ad a) :: lv_args (if (aC ad a).category = 2 then i + 2 else i + 1) (as.map (aC ad))
    rw [aC_cat, if_neg (by decide)]
    rw [show i + (k + 1) = i + 1 + k by omega]
    exact List.mem_cons_of_mem _ this
theorem lg_sl_len (ad : Nat → Nat) (as : List aV) : (lg_sl (as.map (aC ad))).length = as.length := by
  induction as with
  | nil => rfl
  | cons a as ih =>
    simp only [lg_sl, List.map_cons, List.flatMap_cons, List.length_append, List.length_cons, aC_cat] at ih ⊢
    rw [ih]
    simp
    omega
theorem aEn_ok (ad : Nat → Nat) {nL : Nat} {as : List aV} (hn : as.length ≤ nL) : aL ad (aEn nL as) ((lg_sl (as.map (aC ad)) ++ List.replicate (nL - (lg_sl (as.map (aC ad))).length) Slot.unset).toArray) nL := by
  refine lv_less (lv_entry (as.map (aC ad)) (n := nL) (by rw [lg_sl_len]; exact hn)) fun q hq => ?_
  obtain ⟨i, v⟩ := q
  obtain ⟨w, h1, rfl⟩ := aAss_in.mp hq
  unfold aEn at h1
  by_cases hi : i < as.length
  · rw [List.getElem?_append_left (by rw [List.length_map]; exact hi), List.getElem?_map] at h1
    have h2 : as[i]? = some w := by
      cases hh : as[i]? with
      | none => rw [hh] at h1; cases h1
      | some z => rw [hh] at h1; cases h1; rfl
    have := lv_args_mem ad as 0 i w h2
    rwa [Nat.zero_add] at this
  · rw [List.getElem?_append_right (by rw [List.length_map]; omega), List.getElem?_replicate] at h1
    split at h1 <;> cases h1
/-- what a call needs of its callee -/
def aCal (M : aM) (na : Nat) : Prop := Cond.code (aMy M) (aMc M) (aMn M) (aMr M) ∈ aBW ∧ Cond.initialized (aMy M).cls ∈ aBW ∧ ((aMy M).cls ≠ "java/lang/invoke/MethodHandle" ∧ (aMy M).cls ≠ "java/lang/invoke/VarHandle") ∧ (parseMethodDescriptor (aMy M).desc).map (fun d => d.parameters.length) = some na ∧ plainName (aMy M).cls = true ∧ aMn M ≤ 17
theorem aEv_of {M : aM} (hM : aOK M) {d kc ks n : Nat} {as : List aV} {h : aH} {Q : Option aV → aH → Prop} {na : Nat} (hc : aCal M na) (hn : as.length ≤ aMn M) (k : AW M d kc ks n none Q (0, aEn (aMn M) as, [], h)) : aEv M d kc ks n as h Q := by
  intro l D cI base b0 adK adV
  refine Met.ofW (cc := aMc M) (maxL := aMn M) (ret := aMr M) hc.2.2.2.2.1 rfl ?_
  intro p e s m args below meth c s₁ B hml hv
  obtain ⟨rfl, hz, hba, hP, hiv⟩ := hv
  rw [lg_entry_eq]
  have hw := atoms_spec (ws := aWs M) B.pre
  refine k p l e (aRm d kc ks) s m _ below meth c D cI base b0 adK adV kc ks _ ⟨B.exec, B.bytes, hml, B.returns, fun z => by rw [(name_of_methodNamed B.named B.method).1, z], findClass_of_methodNamed B.named, fun w hh => hw w (List.mem_cons_of_mem _ hh), B.notSynchronized, hiv, ⟨Nat.le_refl _, Nat.le_refl _⟩, hba, fun L xs z => by cases z⟩ (Nat.le_refl _) (Nat.le_refl _) ?_ _ s.heap [] 0 0 hP hz va_S.rf (aEn_ok (aAd base b0 adK) hn) (by omega) (by omega)
  intro v h' pc la H locs slots hq hP' hz' hS' hss hret
  refine W.widen (Nat.le_refl _) hss ?_
  have hqc : ∀ t : State, t.heap = H → s.WarmedH t.vm → aPost D cI base b0 adK (n + kc) Q (as.map (aC (aAd base b0 adK))).toArray s (.returned (v.map (aC (aAd base b0 adK)))) t := fun t ht hW => ⟨⟨v, h', rfl, hq, by rw [ht]; exact hz', by rw [ht]; exact hP'⟩, hS'.F ht⟩
  cases v with
  | none =>
    obtain ⟨g1, g2⟩ := hret
    exact W.vret B.exec B.bytes (by rw [B.returns, g2]) (hqc) hS'.2.2 (aDec1 hM g1 rfl rfl)
  | some v => cases v with
    | inl z =>
      obtain ⟨g1, g2⟩ := hret
      rcases g2 with g2 | ⟨g2, g3⟩
      · exact W.zret (ty := .int) B.exec B.bytes (by rw [B.returns, g2]) rfl hqc hS'.2.2 (aDec1 hM g1 rfl rfl)
      · exact W.zret (ty := .boolean) B.exec B.bytes (by rw [B.returns, g2]) (by rcases g3 with rfl | rfl <;> decide) hqc hS'.2.2 (aDec1 hM g1 rfl rfl)
    | inr z =>
      obtain ⟨g1, cn, g2⟩ := hret
      exact W.aret (rt := .object cn) B.exec B.bytes (by rw [B.returns, g2]) (Or.inl ⟨cn, rfl⟩) (Or.inr ⟨_, rfl⟩) hqc hS'.2.2 (aDec1 hM g1 rfl rfl)
section ACALL
variable {p : Program} {l : Launch} {e : Env} {R : Room} {s : State} {m : MethodId} {args : Array Value} {below : List Frame} {meth : Method} {c : Code} {Z : State → Prop}
/-- behind a call -/
theorem a_cont {D : va_G} {cI : ClassId} {base b0 : Nat} {adK : Nat → Nat} {n mc ms : Nat} {Q1 : Option aV → aH → Prop} {H : Heap} {locs : List Loc} {cells slots pc : Nat} {la : Array Slot} {st0 rest : List Value} {a : Array Value} (hr : va_Run p l e R s m args below meth c H locs cells slots mc ms (F0 m pc la st0) rest (aPost D cI base b0 adK n Q1 a) (fun q => base ≤ q)) (hS : va_S (fun q => base ≤ q) s.heap H locs)
    (kk : ∀ (v : Option aV) (h' : aH) (H1 : Heap) (locs1 : List Loc), Q1 v h' → aP D cI (aAd base b0 adK) h' H1 → H1.size = base + n → va_S (fun q => base ≤ q) s.heap H1 locs1 → W p l e R s m args below meth c H1 locs1 (cells + mc) (slots + ms) Z (F0 m (pc + 3) la ((v.map (aC (aAd base b0 adK))).toList ++ rest))) : W p l e R s m args below meth c H locs cells slots Z (F0 m pc la st0) := by
  intro T hT X
  obtain ⟨v0, st₀, t, T', L, h0, X', hL, e1, e2, ⟨⟨v, h', hv, hq, hz, hP⟩, hf1, hf2⟩, st⟩ := hr T hT X
  cases hv
  rw [h0] at hf1 hf2
  obtain ⟨t2, a1, b1⟩ := kk v h' T'.heap (locs ++ L) hq (by rw [e1]; exact hP) (by rw [e1]; exact hz) ⟨Nat.le_trans hS.1 (by rw [e1]; exact hf1), fun q h1 h2 => by rw [e1, hf2 q (Nat.lt_of_lt_of_le h1 hS.1) h2]; exact hS.2.1 q h1 h2, fun q hq => by
      rcases List.mem_append.mp hq with h | h
      · exact hS.2.2 q h
      · exact hL q h⟩ T' rfl X'
  exact ⟨t2, st t2 a1, b1⟩
theorem a_pre {M : aM} {d : Nat} {sc : Option (Nat × (Nat → Int32))} {base b0 : Nat} {adK adV : Nat → Nat} {D : va_G} {cI : ClassId} (hcx : aCx M d sc base b0 adK adV D cI p R s m args meth c) {H : Heap} {n : Nat} {h : aH} {locs : List Loc} (hP : aP D cI (aAd base b0 adK) h H) (hz : H.size = base + n) (hS : va_S (fun q => base ≤ q) s.heap H locs) (as : List aV) (va : List Value) (hva : va = as.map (aC (aAd base b0 adK))) : ∀ U : State, U.heap = H → s.WarmedH U.vm → aPre D cI base b0 adK adV n as h va.toArray U := by
  intro U hU hW
  subst hva
  have hba := hcx.2.2.2.2.2.2.2.2.2.2.1
  exact ⟨rfl, by rw [hU]; exact hz, by rw [hU, hz]; omega, by rw [hU]; exact hP, aIv_moved hW (fun a h1 h2 => by rw [hU]; exact hS.2.1 a h1 h2) hcx.2.2.2.2.2.2.2.2.1⟩
end ACALL
section ARC
variable {M Mc : aM} {d dc kc ks kc1 ks1 n na : Nat} {sc : Option (Nat × (Nat → Int32))} {Q Q1 : Option aV → aH → Prop} {pc idx k ci N : Nat} {ls : aLs} {st rest as : List aV} {h : aH} {fs : List (Option aV)} {T : u_T} {host : String}
def aLkV (own : String) (idx : Nat) (Mc : aM) : Prop := Cond.methodLink own idx (aMy Mc) ∈ aBW ∧ Cond.instanceMethod (aMy Mc) ∈ aBW ∧ Cond.selects (aMy Mc).cls (aMy Mc) (aMy Mc) ∈ aBW
def aLkS (own : String) (idx : Nat) (Mc : aM) : Prop := Cond.methodLink own idx (aMy Mc) ∈ aBW ∧ Cond.static (aMy Mc) ∈ aBW
def aLkSN (own : String) (idx : Nat) (Mc : aM) (host : String) : Prop := Cond.methodLinkNest own idx (aMy Mc) host ∈ aNW ∧ Cond.static (aMy Mc) ∈ aBW
def aLkI (own : String) (idx : Nat) (Mc : aM) : Prop := Cond.methodLink own idx (aMy Mc) ∈ aBW ∧ Cond.instanceMethod (aMy Mc) ∈ aBW ∧ (aMy Mc).name = "<init>" ∧ aMr Mc = none
def aLkIN (own : String) (idx : Nat) (Mc : aM) (host : String) : Prop := Cond.methodLinkNest own idx (aMy Mc) host ∈ aNW ∧ Cond.instanceMethod (aMy Mc) ∈ aBW ∧ (aMy Mc).name = "<init>" ∧ aMr Mc = none
theorem b_callV (hM : aOK M) (hf : aFetch (aMt M) pc = some (.invokevirtual idx)) (hl : aLkV (aMy M).cls idx Mc) (hc : aCal Mc na) (hd : dc + 1 ≤ d) (hna : as.length = na) (hrl : rest.length ≤ 8) (hk : aGet h k = some (.inr (ci, fs))) (hcl : aCls[ci]? = some ((aMy Mc).cls, T, N)) (hst : st = as.reverse ++ .inr k :: rest) (ev : aEv Mc dc kc1 ks1 n (.inr k :: as) h Q1)
    (kk : ∀ v h', Q1 v h' → AW M d kc ks (n + kc1) sc Q (pc + 3, ls, v.toList ++ rest, h')) : AW M d (kc1 + kc) (ks1 + ks) n sc Q (pc, ls, st, h) := by
  intro p l e R s m args below meth c D cI base b0 adK adV C1 S1 Z hcx hC hS1 hfin la H locs cells slots hP hz hS hL hcs hss
  obtain ⟨hX, hb, hml, hr, hin, hown, hts, hlk, hiv, hrm, hba, hsc⟩ := id hcx
  obtain ⟨c1, c2, c3, c4, c5, c6⟩ := hc
  have hev := ev l D cI base b0 adK adV
  have hcall : va_Run p l e R s m args below meth c H locs cells slots kc1 ks1 (F0 m pc la (st.map (aC (aAd base b0 adK)))) (rest.map (aC (aAd base b0 adK))) (aPost D cI base b0 adK (n + kc1) Q1 (Value.ref (aAd base b0 adK k) :: as.map (aC (aAd base b0 adK))).toArray) (fun q => base ≤ q) := by
    refine va_runV (As := as.map (aC (aAd base b0 adK))) (rest := rest.map (aC (aAd base b0 adK))) ⟨hX, hb, hml, hown, hts⟩ hev ⟨callB_of (maxL := aMn Mc) (bytes := aMc Mc) (ret := aMr Mc) na hts (aBW_in c1) rfl rfl rfl (hts _ c2) (hts _ hl.1) ⟨c3.1, c3.2, c4⟩ ⟨by show dc + 1 ≤ _; omega, by show 8 + (aMn Mc + 11) + 36 * dc ≤ _; omega⟩, hts _ hl.2.1, hts _ hl.2.2⟩ ⟨aPre_blind, va_recv hiv.1 (aP_one hP hk) (ci := ci) (q0 := 0) hcl rfl, a_pre hcx hP hz hS (.inr k :: as) _ rfl⟩ rfl (by rw [List.length_map]; exact hna) hL.1 (by rw [hst, List.map_append, List.map_reverse]; rfl) (lv_room (by rw [aCat_sum]; exact hrl)) (aDec1 hM hf rfl rfl) ⟨by omega, by omega⟩
  refine a_cont hcall hS fun v h' H1 locs1 g1 g2 g3 g4 => ?_
  have hkk := kk v h' g1 p l e R s m args below meth c D cI base b0 adK adV C1 S1 Z hcx hC hS1 (fun v h pc la H locs slots z1 z2 z3 => hfin v h pc la H locs slots z1 z2 (by omega)) la H1 locs1 (cells + kc1) (slots + ks1) g2 g3 g4 hL (by omega) (by omega)
  simp only [List.map_append] at hkk
  cases v <;> exact hkk
theorem b_callS (hM : aOK M) (hf : aFetch (aMt M) pc = some (.invokestatic idx)) (hl : aLkS (aMy M).cls idx Mc) (hc : aCal Mc na) (hd : dc + 1 ≤ d) (hna : as.length = na) (hrl : rest.length ≤ 8) (hst : st = as.reverse ++ rest) (ev : aEv Mc dc kc1 ks1 n as h Q1)
    (kk : ∀ v h', Q1 v h' → AW M d kc ks (n + kc1) sc Q (pc + 3, ls, v.toList ++ rest, h')) : AW M d (kc1 + kc) (ks1 + ks) n sc Q (pc, ls, st, h) := by
  intro p l e R s m args below meth c D cI base b0 adK adV C1 S1 Z hcx hC hS1 hfin la H locs cells slots hP hz hS hL hcs hss
  obtain ⟨hX, hb, hml, hr, hin, hown, hts, hlk, hiv, hrm, hba, hsc⟩ := id hcx
  obtain ⟨c1, c2, c3, c4, c5, c6⟩ := hc
  have hev := ev l D cI base b0 adK adV
  have hcall : va_Run p l e R s m args below meth c H locs cells slots kc1 ks1 (F0 m pc la (st.map (aC (aAd base b0 adK)))) (rest.map (aC (aAd base b0 adK))) (aPost D cI base b0 adK (n + kc1) Q1 (as.map (aC (aAd base b0 adK))).toArray) (fun q => base ≤ q) := by
    refine va_runS (As := as.map (aC (aAd base b0 adK))) (rest := rest.map (aC (aAd base b0 adK))) ⟨hX, hb, hml, hown, hts⟩ hev ⟨callB_of (maxL := aMn Mc) (bytes := aMc Mc) (ret := aMr Mc) na hts (aBW_in c1) rfl rfl rfl (hts _ c2) (hts _ hl.1) ⟨c3.1, c3.2, c4⟩ ⟨by show dc + 1 ≤ _; omega, by show 8 + (aMn Mc + 11) + 36 * dc ≤ _; omega⟩, hts _ hl.2⟩ ⟨aPre_blind, a_pre hcx hP hz hS as _ rfl⟩ rfl (by rw [List.length_map]; exact hna) hL.1 (by rw [hst, List.map_append, List.map_reverse]) (lv_room (by rw [aCat_sum]; exact hrl)) (aDec1 hM hf rfl rfl) ⟨by omega, by omega⟩
  refine a_cont hcall hS fun v h' H1 locs1 g1 g2 g3 g4 => ?_
  have hkk := kk v h' g1 p l e R s m args below meth c D cI base b0 adK adV C1 S1 Z hcx hC hS1 (fun v h pc la H locs slots z1 z2 z3 => hfin v h pc la H locs slots z1 z2 (by omega)) la H1 locs1 (cells + kc1) (slots + ks1) g2 g3 g4 hL (by omega) (by omega)
  simp only [List.map_append] at hkk
  cases v <;> exact hkk
theorem b_callSN (hM : aOK M) (hf : aFetch (aMt M) pc = some (.invokestatic idx)) (hl : aLkSN (aMy M).cls idx Mc host) (hc : aCal Mc na) (hd : dc + 1 ≤ d) (hna : as.length = na) (hrl : rest.length ≤ 8) (hst : st = as.reverse ++ rest) (ev : aEv Mc dc kc1 ks1 n as h Q1)
    (kk : ∀ v h', Q1 v h' → AW M d kc ks (n + kc1) sc Q (pc + 3, ls, v.toList ++ rest, h')) : AW M d (kc1 + kc) (ks1 + ks) n sc Q (pc, ls, st, h) := by
  intro p l e R s m args below meth c D cI base b0 adK adV C1 S1 Z hcx hC hS1 hfin la H locs cells slots hP hz hS hL hcs hss
  obtain ⟨hX, hb, hml, hr, hin, hown, hts, hlk, hiv, hrm, hba, hsc⟩ := id hcx
  obtain ⟨c1, c2, c3, c4, c5, c6⟩ := hc
  have hev := ev l D cI base b0 adK adV
  have hcall : va_Run p l e R s m args below meth c H locs cells slots kc1 ks1 (F0 m pc la (st.map (aC (aAd base b0 adK)))) (rest.map (aC (aAd base b0 adK))) (aPost D cI base b0 adK (n + kc1) Q1 (as.map (aC (aAd base b0 adK))).toArray) (fun q => base ≤ q) := by
    refine va_runSN (As := as.map (aC (aAd base b0 adK))) (rest := rest.map (aC (aAd base b0 adK))) ⟨hX, hb, hml, hown, hts⟩ hev ⟨va_cnB (maxL := aMn Mc) (bytes := aMc Mc) (ret := aMr Mc) na hts (aBW_in c1) rfl rfl rfl (hiv.2.1 _ hl.1) (hts _ c2) ⟨c3.1, c3.2, c4⟩ ⟨by show dc + 1 ≤ _; omega, by show 8 + (aMn Mc + 11) + 36 * dc ≤ _; omega⟩, hts _ hl.2, trivial⟩ ⟨aPre_blind, a_pre hcx hP hz hS as _ rfl⟩ rfl (by rw [List.length_map]; exact hna) hL.1 (by rw [hst, List.map_append, List.map_reverse]) (lv_room (by rw [aCat_sum]; exact hrl)) (aDec1 hM hf rfl rfl) ⟨by omega, by omega⟩
  refine a_cont hcall hS fun v h' H1 locs1 g1 g2 g3 g4 => ?_
  have hkk := kk v h' g1 p l e R s m args below meth c D cI base b0 adK adV C1 S1 Z hcx hC hS1 (fun v h pc la H locs slots z1 z2 z3 => hfin v h pc la H locs slots z1 z2 (by omega)) la H1 locs1 (cells + kc1) (slots + ks1) g2 g3 g4 hL (by omega) (by omega)
  simp only [List.map_append] at hkk
  cases v <;> exact hkk
theorem b_callI (hM : aOK M) (hf : aFetch (aMt M) pc = some (.invokespecial idx)) (hl : aLkI (aMy M).cls idx Mc) (hc : aCal Mc na) (hd : dc + 1 ≤ d) (hna : as.length = na) (hrl : rest.length ≤ 8) (hst : st = as.reverse ++ .inr k :: rest) (ev : aEv Mc dc kc1 ks1 n (.inr k :: as) h Q1)
    (kk : ∀ v h', Q1 v h' → AW M d kc ks (n + kc1) sc Q (pc + 3, ls, v.toList ++ rest, h')) : AW M d (kc1 + kc) (ks1 + ks) n sc Q (pc, ls, st, h) := by
  intro p l e R s m args below meth c D cI base b0 adK adV C1 S1 Z hcx hC hS1 hfin la H locs cells slots hP hz hS hL hcs hss
  obtain ⟨hX, hb, hml, hr, hin, hown, hts, hlk, hiv, hrm, hba, hsc⟩ := id hcx
  obtain ⟨c1, c2, c3, c4, c5, c6⟩ := hc
  have hev := ev l D cI base b0 adK adV
  obtain ⟨l1, l2, l3, l4⟩ := hl
  unfold aWs at hev
  rw [l4] at hev c1
  have hcall : va_Run p l e R s m args below meth c H locs cells slots kc1 ks1 (F0 m pc la (st.map (aC (aAd base b0 adK)))) (rest.map (aC (aAd base b0 adK))) (aPost D cI base b0 adK (n + kc1) Q1 (Value.ref (aAd base b0 adK k) :: as.map (aC (aAd base b0 adK))).toArray) (fun q => base ≤ q) := by
    refine va_runI (As := as.map (aC (aAd base b0 adK))) (rest := rest.map (aC (aAd base b0 adK))) ⟨hX, hb, hml, hown, hts⟩ hev ⟨callB_of (maxL := aMn Mc) (bytes := aMc Mc) (ret := none) na hts (aBW_in c1) rfl rfl rfl (hts _ c2) (hts _ l1) ⟨c3.1, c3.2, c4⟩ ⟨by show dc + 1 ≤ _; omega, by show 8 + (aMn Mc + 11) + 36 * dc ≤ _; omega⟩, l3, hts _ l2⟩ ⟨aPre_blind, a_pre hcx hP hz hS (.inr k :: as) _ rfl⟩ rfl (by rw [List.length_map]; exact hna) hL.1 (by rw [hst, List.map_append, List.map_reverse]; rfl) (lv_room (by rw [aCat_sum]; exact hrl)) (aDec1 hM hf rfl rfl) ⟨by omega, by omega⟩
  refine a_cont hcall hS fun v h' H1 locs1 g1 g2 g3 g4 => ?_
  have hkk := kk v h' g1 p l e R s m args below meth c D cI base b0 adK adV C1 S1 Z hcx hC hS1 (fun v h pc la H locs slots z1 z2 z3 => hfin v h pc la H locs slots z1 z2 (by omega)) la H1 locs1 (cells + kc1) (slots + ks1) g2 g3 g4 hL (by omega) (by omega)
  simp only [List.map_append] at hkk
  cases v <;> exact hkk
theorem b_callIN (hM : aOK M) (hf : aFetch (aMt M) pc = some (.invokespecial idx)) (hl : aLkIN (aMy M).cls idx Mc host) (hc : aCal Mc na) (hd : dc + 1 ≤ d) (hna : as.length = na) (hrl : rest.length ≤ 8) (hst : st = as.reverse ++ .inr k :: rest) (ev : aEv Mc dc kc1 ks1 n (.inr k :: as) h Q1)
    (kk : ∀ v h', Q1 v h' → AW M d kc ks (n + kc1) sc Q (pc + 3, ls, v.toList ++ rest, h')) : AW M d (kc1 + kc) (ks1 + ks) n sc Q (pc, ls, st, h) := by
  intro p l e R s m args below meth c D cI base b0 adK adV C1 S1 Z hcx hC hS1 hfin la H locs cells slots hP hz hS hL hcs hss
  obtain ⟨hX, hb, hml, hr, hin, hown, hts, hlk, hiv, hrm, hba, hsc⟩ := id hcx
  obtain ⟨c1, c2, c3, c4, c5, c6⟩ := hc
  have hev := ev l D cI base b0 adK adV
  obtain ⟨l1, l2, l3, l4⟩ := hl
  unfold aWs at hev
  rw [l4] at hev c1
  have hcall : va_Run p l e R s m args below meth c H locs cells slots kc1 ks1 (F0 m pc la (st.map (aC (aAd base b0 adK)))) (rest.map (aC (aAd base b0 adK))) (aPost D cI base b0 adK (n + kc1) Q1 (Value.ref (aAd base b0 adK k) :: as.map (aC (aAd base b0 adK))).toArray) (fun q => base ≤ q) := by
    refine va_runIN (As := as.map (aC (aAd base b0 adK))) (rest := rest.map (aC (aAd base b0 adK))) ⟨hX, hb, hml, hown, hts⟩ hev ⟨va_cnB (maxL := aMn Mc) (bytes := aMc Mc) (ret := none) na hts (aBW_in c1) rfl rfl rfl (hiv.2.1 _ l1) (hts _ c2) ⟨c3.1, c3.2, c4⟩ ⟨by show dc + 1 ≤ _; omega, by show 8 + (aMn Mc + 11) + 36 * dc ≤ _; omega⟩, l3, hts _ l2⟩ ⟨aPre_blind, a_pre hcx hP hz hS (.inr k :: as) _ rfl⟩ rfl (by rw [List.length_map]; exact hna) hL.1 (by rw [hst, List.map_append, List.map_reverse]; rfl) (lv_room (by rw [aCat_sum]; exact hrl)) (aDec1 hM hf rfl rfl) ⟨by omega, by omega⟩
  refine a_cont hcall hS fun v h' H1 locs1 g1 g2 g3 g4 => ?_
  have hkk := kk v h' g1 p l e R s m args below meth c D cI base b0 adK adV C1 S1 Z hcx hC hS1 (fun v h pc la H locs slots z1 z2 z3 => hfin v h pc la H locs slots z1 z2 (by omega)) la H1 locs1 (cells + kc1) (slots + ks1) g2 g3 g4 hL (by omega) (by omega)
  simp only [List.map_append] at hkk
  cases v <;> exact hkk
end ARC
end
