/-! String's members over the constants of Text; laid by gen_jdk.py -/
theorem iniBJ0 : Cond.initialized RJ0 ∈ aBW := aBW_at 80 (by decide +kernel) (by decide +kernel)
theorem iniBJ1 : Cond.initialized RJ1 ∈ aBW := aBW_at 81 (by decide +kernel) (by decide +kernel)
theorem iniBJ3 : Cond.initialized RJ3 ∈ aBW := aBW_at 82 (by decide +kernel) (by decide +kernel)
def yJ0_length_8abf5 : MethodName := ⟨RJ0, "length", "()I"⟩
def tJ0_length_8abf5 : List (Nat × Instr) := [(0, .aload_n 0), (1, .getfield 9), (4, .arraylength), (5, .aload_n 0), (6, .invokevirtual 335), (9, .ishr), (10, .ireturn)]
def mJ0_length_8abf5 : aM := (yJ0_length_8abf5, prog_13_method_54_code, tJ0_length_8abf5, 1, (some .int), [], [])
theorem okJ0_length_8abf5 : aOK mJ0_length_8abf5 := ⟨by decide +kernel, fun f hf => absurd hf List.not_mem_nil, fun f hf => absurd hf List.not_mem_nil, by decide⟩
theorem caJ0_length_8abf5 : aCal mJ0_length_8abf5 0 := ⟨aBW_at 337 (by decide +kernel) (by decide +kernel), iniBJ0, ⟨by decide +kernel, by decide +kernel⟩, by decide +kernel, by decide +kernel, by decide⟩
def yJ0_isEmpty_aae02 : MethodName := ⟨RJ0, "isEmpty", "()Z"⟩
def tJ0_isEmpty_aae02 : List (Nat × Instr) := [(0, .aload_n 0), (1, .getfield 9), (4, .arraylength), (5, .ifCond .ne 7), (8, .iconst 1), (9, .goto 4), (12, .iconst 0), (13, .ireturn)]
def mJ0_isEmpty_aae02 : aM := (yJ0_isEmpty_aae02, prog_13_method_55_code, tJ0_isEmpty_aae02, 1, (some .boolean), [], [])
theorem okJ0_isEmpty_aae02 : aOK mJ0_isEmpty_aae02 := ⟨by decide +kernel, fun f hf => absurd hf List.not_mem_nil, fun f hf => absurd hf List.not_mem_nil, by decide⟩
theorem caJ0_isEmpty_aae02 : aCal mJ0_isEmpty_aae02 0 := ⟨aBW_at 333 (by decide +kernel) (by decide +kernel), iniBJ0, ⟨by decide +kernel, by decide +kernel⟩, by decide +kernel, by decide +kernel, by decide⟩
def yJ0_charAt_5068e : MethodName := ⟨RJ0, "charAt", "(I)C"⟩
def tJ0_charAt_5068e : List (Nat × Instr) := [(0, .aload_n 0), (1, .invokevirtual 492), (4, .ifCond .eq 12), (7, .aload_n 0), (8, .getfield 9), (11, .iload_n 1), (12, .invokestatic 495), (15, .ireturn), (16, .aload_n 0), (17, .getfield 9), (20, .iload_n 1), (21, .invokestatic 498), (24, .ireturn)]
def mJ0_charAt_5068e : aM := (yJ0_charAt_5068e, prog_13_method_56_code, tJ0_charAt_5068e, 2, (some .char), [], [])
theorem okJ0_charAt_5068e : aOK mJ0_charAt_5068e := ⟨by decide +kernel, fun f hf => absurd hf List.not_mem_nil, fun f hf => absurd hf List.not_mem_nil, by decide⟩
theorem caJ0_charAt_5068e : aCal mJ0_charAt_5068e 1 := ⟨aBW_at 347 (by decide +kernel) (by decide +kernel), iniBJ0, ⟨by decide +kernel, by decide +kernel⟩, by decide +kernel, by decide +kernel, by decide⟩
def yJ0_coder_7d493 : MethodName := ⟨RJ0, "coder", "()B"⟩
def tJ0_coder_7d493 : List (Nat × Instr) := [(3, .ifCond .eq 10), (6, .aload_n 0), (7, .getfield 15), (10, .goto 4), (13, .iconst 1), (14, .ireturn)]
def mJ0_coder_7d493 : aM := (yJ0_coder_7d493, prog_13_method_152_code, tJ0_coder_7d493, 1, (some .byte), [], [])
theorem okJ0_coder_7d493 : aOK mJ0_coder_7d493 := ⟨by decide +kernel, fun f hf => absurd hf List.not_mem_nil, fun f hf => absurd hf List.not_mem_nil, by decide⟩
theorem caJ0_coder_7d493 : aCal mJ0_coder_7d493 0 := ⟨aBW_at 341 (by decide +kernel) (by decide +kernel), iniBJ0, ⟨by decide +kernel, by decide +kernel⟩, by decide +kernel, by decide +kernel, by decide⟩
def yJ0_isLatin1_aae02 : MethodName := ⟨RJ0, "isLatin1", "()Z"⟩
def tJ0_isLatin1_aae02 : List (Nat × Instr) := [(3, .ifCond .eq 14), (6, .aload_n 0), (7, .getfield 15), (10, .ifCond .ne 7), (13, .iconst 1), (14, .goto 4), (17, .iconst 0), (18, .ireturn)]
def mJ0_isLatin1_aae02 : aM := (yJ0_isLatin1_aae02, prog_13_method_154_code, tJ0_isLatin1_aae02, 1, (some .boolean), [], [])
theorem okJ0_isLatin1_aae02 : aOK mJ0_isLatin1_aae02 := ⟨by decide +kernel, fun f hf => absurd hf List.not_mem_nil, fun f hf => absurd hf List.not_mem_nil, by decide⟩
theorem caJ0_isLatin1_aae02 : aCal mJ0_isLatin1_aae02 0 := ⟨aBW_at 351 (by decide +kernel) (by decide +kernel), iniBJ0, ⟨by decide +kernel, by decide +kernel⟩, by decide +kernel, by decide +kernel, by decide⟩
def yJ0_checkIndex_df160 : MethodName := ⟨RJ0, "checkIndex", "(II)V"⟩
def tJ0_checkIndex_df160 : List (Nat × Instr) := [(0, .iload_n 0), (1, .iload_n 1), (5, .invokestatic 1059), (8, .pop), (9, .return_)]
def mJ0_checkIndex_df160 : aM := (yJ0_checkIndex_df160, prog_13_method_155_code, tJ0_checkIndex_df160, 2, none, [], [])
theorem okJ0_checkIndex_df160 : aOK mJ0_checkIndex_df160 := ⟨by decide +kernel, fun f hf => absurd hf List.not_mem_nil, fun f hf => absurd hf List.not_mem_nil, by decide⟩
theorem caJ0_checkIndex_df160 : aCal mJ0_checkIndex_df160 2 := ⟨aBW_at 357 (by decide +kernel) (by decide +kernel), iniBJ0, ⟨by decide +kernel, by decide +kernel⟩, by decide +kernel, by decide +kernel, by decide⟩
def yJ1_charAt_3b067 : MethodName := ⟨RJ1, "charAt", "([BI)C"⟩
def tJ1_charAt_3b067 : List (Nat × Instr) := [(0, .iload_n 1), (1, .aload_n 0), (2, .arraylength), (3, .invokestatic 9), (6, .aload_n 0), (7, .iload_n 1), (8, .baload), (9, .sipush 255), (12, .iand), (13, .i2c), (14, .ireturn)]
def mJ1_charAt_3b067 : aM := (yJ1_charAt_3b067, prog_14_method_2_code, tJ1_charAt_3b067, 2, (some .char), [], [])
theorem okJ1_charAt_3b067 : aOK mJ1_charAt_3b067 := ⟨by decide +kernel, fun f hf => absurd hf List.not_mem_nil, fun f hf => absurd hf List.not_mem_nil, by decide⟩
theorem caJ1_charAt_3b067 : aCal mJ1_charAt_3b067 2 := ⟨aBW_at 354 (by decide +kernel) (by decide +kernel), iniBJ1, ⟨by decide +kernel, by decide +kernel⟩, by decide +kernel, by decide +kernel, by decide⟩
def yJ3_checkIndex_8e157 : MethodName := ⟨RJ3, "checkIndex", "(IILjava/util/function/BiFunction;)I"⟩
def tJ3_checkIndex_8e157 : List (Nat × Instr) := [(0, .iload_n 0), (1, .ifCond .lt 8), (4, .iload_n 0), (5, .iload_n 1), (6, .if_icmp .lt 10), (9, .aload_n 2), (10, .iload_n 0), (11, .iload_n 1), (12, .invokestatic 95), (15, .athrow), (16, .iload_n 0), (17, .ireturn)]
def mJ3_checkIndex_8e157 : aM := (yJ3_checkIndex_8e157, prog_16_method_11_code, tJ3_checkIndex_8e157, 3, (some .int), [], [])
theorem okJ3_checkIndex_8e157 : aOK mJ3_checkIndex_8e157 := ⟨by decide +kernel, fun f hf => absurd hf List.not_mem_nil, fun f hf => absurd hf List.not_mem_nil, by decide⟩
theorem caJ3_checkIndex_8e157 : aCal mJ3_checkIndex_8e157 3 := ⟨aBW_at 362 (by decide +kernel) (by decide +kernel), iniBJ3, ⟨by decide +kernel, by decide +kernel⟩, by decide +kernel, by decide +kernel, by decide⟩
theorem lkX6_40 : aLkV RX6 40 mJ0_length_8abf5 := ⟨aBW_at 334 (by decide +kernel) (by decide +kernel), aBW_at 335 (by decide +kernel) (by decide +kernel), aBW_at 336 (by decide +kernel) (by decide +kernel)⟩
theorem lkX6_50 : aLkV RX6 50 mJ0_isEmpty_aae02 := ⟨aBW_at 330 (by decide +kernel) (by decide +kernel), aBW_at 331 (by decide +kernel) (by decide +kernel), aBW_at 332 (by decide +kernel) (by decide +kernel)⟩
theorem lkX6_58 : aLkV RX6 58 mJ0_charAt_5068e := ⟨aBW_at 344 (by decide +kernel) (by decide +kernel), aBW_at 345 (by decide +kernel) (by decide +kernel), aBW_at 346 (by decide +kernel) (by decide +kernel)⟩
theorem lkJ0_335 : aLkV RJ0 335 mJ0_coder_7d493 := ⟨aBW_at 338 (by decide +kernel) (by decide +kernel), aBW_at 339 (by decide +kernel) (by decide +kernel), aBW_at 340 (by decide +kernel) (by decide +kernel)⟩
theorem lkJ0_492 : aLkV RJ0 492 mJ0_isLatin1_aae02 := ⟨aBW_at 348 (by decide +kernel) (by decide +kernel), aBW_at 349 (by decide +kernel) (by decide +kernel), aBW_at 350 (by decide +kernel) (by decide +kernel)⟩
theorem lkJ0_495 : aLkS RJ0 495 mJ1_charAt_3b067 := ⟨aBW_at 352 (by decide +kernel) (by decide +kernel), aBW_at 353 (by decide +kernel) (by decide +kernel)⟩
theorem lkJ0_1059 : aLkS RJ0 1059 mJ3_checkIndex_8e157 := ⟨aBW_at 360 (by decide +kernel) (by decide +kernel), aBW_at 361 (by decide +kernel) (by decide +kernel)⟩
theorem lkJ1_9 : aLkS RJ1 9 mJ0_checkIndex_df160 := ⟨aBW_at 355 (by decide +kernel) (by decide +kernel), aBW_at 356 (by decide +kernel) (by decide +kernel)⟩
theorem flJ0_38 : Cond.fieldLink RJ0 38 "java/lang/String" "COMPACT_STRINGS" "Z" ∈ aBW := aBW_at 342 (by decide +kernel) (by decide +kernel)
theorem flJ0_1053 : Cond.fieldLink RJ0 1053 "jdk/internal/util/Preconditions" "SIOOBE_FORMATTER" "Ljava/util/function/BiFunction;" ∈ aBW := aBW_at 358 (by decide +kernel) (by decide +kernel)
theorem flJ0_9 : Cond.fieldLink RJ0 9 "java/lang/String" "value" "[B" ∈ aBW := aBW_at 1415 (by decide +kernel) (by decide +kernel)
theorem flJ0_15 : Cond.fieldLink RJ0 15 "java/lang/String" "coder" "B" ∈ aBW := aBW_at 1416 (by decide +kernel) (by decide +kernel)
