/-! String.indexOf(I) and String.length(), of the three constant strings. -/
def RJ0 : String := "java/lang/String"
abbrev cJ0_length_8abf5 : ByteArray := prog_22_method_54_code
def yJ0_length_8abf5 : MethodName := ⟨RJ0, "length", "()I"⟩
abbrev cJ0_indexOf_0f7a4 : ByteArray := prog_22_method_79_code
def yJ0_indexOf_0f7a4 : MethodName := ⟨RJ0, "indexOf", "(I)I"⟩
abbrev cJ0_indexOf_7cf53 : ByteArray := prog_22_method_80_code
def yJ0_indexOf_7cf53 : MethodName := ⟨RJ0, "indexOf", "(II)I"⟩
abbrev cJ0_coder_7d493 : ByteArray := prog_22_method_152_code
def yJ0_coder_7d493 : MethodName := ⟨RJ0, "coder", "()B"⟩
abbrev cJ0_isLatin1_aae02 : ByteArray := prog_22_method_154_code
def yJ0_isLatin1_aae02 : MethodName := ⟨RJ0, "isLatin1", "()Z"⟩
abbrev cJ0_checkBoundsBeginEnd_23922 : ByteArray := prog_22_method_158_code
def yJ0_checkBoundsBeginEnd_23922 : MethodName := ⟨RJ0, "checkBoundsBeginEnd", "(III)V"⟩
def RJ1 : String := "java/lang/StringLatin1"
abbrev cJ1_canEncode_9a6ad : ByteArray := prog_23_method_4_code
def yJ1_canEncode_9a6ad : MethodName := ⟨RJ1, "canEncode", "(I)Z"⟩
abbrev cJ1_indexOf_4cfef : ByteArray := prog_23_method_22_code
def yJ1_indexOf_4cfef : MethodName := ⟨RJ1, "indexOf", "([BIII)I"⟩
abbrev cJ1_indexOfChar_4cfef : ByteArray := prog_23_method_23_code
def yJ1_indexOfChar_4cfef : MethodName := ⟨RJ1, "indexOfChar", "([BIII)I"⟩
theorem dJ0_length_8abf5_0 : decode cJ0_length_8abf5 0 = .ok (.aload_n 0, 1) := by decide +kernel
theorem dJ0_length_8abf5_1 : decode cJ0_length_8abf5 1 = .ok (.getfield 9, 3) := by decide +kernel
theorem dJ0_length_8abf5_4 : decode cJ0_length_8abf5 4 = .ok (.arraylength, 1) := by decide +kernel
theorem dJ0_length_8abf5_5 : decode cJ0_length_8abf5 5 = .ok (.aload_n 0, 1) := by decide +kernel
theorem dJ0_length_8abf5_6 : decode cJ0_length_8abf5 6 = .ok (.invokevirtual 335, 3) := by decide +kernel
theorem dJ0_length_8abf5_9 : decode cJ0_length_8abf5 9 = .ok (.ishr, 1) := by decide +kernel
theorem dJ0_length_8abf5_10 : decode cJ0_length_8abf5 10 = .ok (.ireturn, 1) := by decide +kernel
theorem dJ0_indexOf_0f7a4_0 : decode cJ0_indexOf_0f7a4 0 = .ok (.aload_n 0, 1) := by decide +kernel
theorem dJ0_indexOf_0f7a4_1 : decode cJ0_indexOf_0f7a4 1 = .ok (.iload_n 1, 1) := by decide +kernel
theorem dJ0_indexOf_0f7a4_2 : decode cJ0_indexOf_0f7a4 2 = .ok (.iconst 0, 1) := by decide +kernel
theorem dJ0_indexOf_0f7a4_3 : decode cJ0_indexOf_0f7a4 3 = .ok (.invokevirtual 633, 3) := by decide +kernel
theorem dJ0_indexOf_0f7a4_6 : decode cJ0_indexOf_0f7a4 6 = .ok (.ireturn, 1) := by decide +kernel
theorem dJ0_indexOf_7cf53_0 : decode cJ0_indexOf_7cf53 0 = .ok (.aload_n 0, 1) := by decide +kernel
theorem dJ0_indexOf_7cf53_1 : decode cJ0_indexOf_7cf53 1 = .ok (.invokevirtual 492, 3) := by decide +kernel
theorem dJ0_indexOf_7cf53_4 : decode cJ0_indexOf_7cf53 4 = .ok (.ifCond .eq 19, 3) := by decide +kernel
theorem dJ0_indexOf_7cf53_7 : decode cJ0_indexOf_7cf53 7 = .ok (.aload_n 0, 1) := by decide +kernel
theorem dJ0_indexOf_7cf53_8 : decode cJ0_indexOf_7cf53 8 = .ok (.getfield 9, 3) := by decide +kernel
theorem dJ0_indexOf_7cf53_11 : decode cJ0_indexOf_7cf53 11 = .ok (.iload_n 1, 1) := by decide +kernel
theorem dJ0_indexOf_7cf53_12 : decode cJ0_indexOf_7cf53 12 = .ok (.iload_n 2, 1) := by decide +kernel
theorem dJ0_indexOf_7cf53_13 : decode cJ0_indexOf_7cf53 13 = .ok (.aload_n 0, 1) := by decide +kernel
theorem dJ0_indexOf_7cf53_14 : decode cJ0_indexOf_7cf53 14 = .ok (.invokevirtual 505, 3) := by decide +kernel
theorem dJ0_indexOf_7cf53_17 : decode cJ0_indexOf_7cf53 17 = .ok (.invokestatic 637, 3) := by decide +kernel
theorem dJ0_indexOf_7cf53_20 : decode cJ0_indexOf_7cf53 20 = .ok (.goto 16, 3) := by decide +kernel
theorem dJ0_indexOf_7cf53_23 : decode cJ0_indexOf_7cf53 23 = .ok (.aload_n 0, 1) := by decide +kernel
theorem dJ0_indexOf_7cf53_24 : decode cJ0_indexOf_7cf53 24 = .ok (.getfield 9, 3) := by decide +kernel
theorem dJ0_indexOf_7cf53_27 : decode cJ0_indexOf_7cf53 27 = .ok (.iload_n 1, 1) := by decide +kernel
theorem dJ0_indexOf_7cf53_28 : decode cJ0_indexOf_7cf53 28 = .ok (.iload_n 2, 1) := by decide +kernel
theorem dJ0_indexOf_7cf53_29 : decode cJ0_indexOf_7cf53 29 = .ok (.aload_n 0, 1) := by decide +kernel
theorem dJ0_indexOf_7cf53_30 : decode cJ0_indexOf_7cf53 30 = .ok (.invokevirtual 505, 3) := by decide +kernel
theorem dJ0_indexOf_7cf53_33 : decode cJ0_indexOf_7cf53 33 = .ok (.invokestatic 640, 3) := by decide +kernel
theorem dJ0_indexOf_7cf53_36 : decode cJ0_indexOf_7cf53 36 = .ok (.ireturn, 1) := by decide +kernel
theorem dJ0_coder_7d493_0 : decode cJ0_coder_7d493 0 = .ok (.getstatic 38, 3) := by decide +kernel
theorem dJ0_coder_7d493_3 : decode cJ0_coder_7d493 3 = .ok (.ifCond .eq 10, 3) := by decide +kernel
theorem dJ0_coder_7d493_6 : decode cJ0_coder_7d493 6 = .ok (.aload_n 0, 1) := by decide +kernel
theorem dJ0_coder_7d493_7 : decode cJ0_coder_7d493 7 = .ok (.getfield 15, 3) := by decide +kernel
theorem dJ0_coder_7d493_10 : decode cJ0_coder_7d493 10 = .ok (.goto 4, 3) := by decide +kernel
theorem dJ0_coder_7d493_13 : decode cJ0_coder_7d493 13 = .ok (.iconst 1, 1) := by decide +kernel
theorem dJ0_coder_7d493_14 : decode cJ0_coder_7d493 14 = .ok (.ireturn, 1) := by decide +kernel
theorem dJ0_isLatin1_aae02_0 : decode cJ0_isLatin1_aae02 0 = .ok (.getstatic 38, 3) := by decide +kernel
theorem dJ0_isLatin1_aae02_3 : decode cJ0_isLatin1_aae02 3 = .ok (.ifCond .eq 14, 3) := by decide +kernel
theorem dJ0_isLatin1_aae02_6 : decode cJ0_isLatin1_aae02 6 = .ok (.aload_n 0, 1) := by decide +kernel
theorem dJ0_isLatin1_aae02_7 : decode cJ0_isLatin1_aae02 7 = .ok (.getfield 15, 3) := by decide +kernel
theorem dJ0_isLatin1_aae02_10 : decode cJ0_isLatin1_aae02 10 = .ok (.ifCond .ne 7, 3) := by decide +kernel
theorem dJ0_isLatin1_aae02_13 : decode cJ0_isLatin1_aae02 13 = .ok (.iconst 1, 1) := by decide +kernel
theorem dJ0_isLatin1_aae02_14 : decode cJ0_isLatin1_aae02 14 = .ok (.goto 4, 3) := by decide +kernel
theorem dJ0_isLatin1_aae02_17 : decode cJ0_isLatin1_aae02 17 = .ok (.iconst 0, 1) := by decide +kernel
theorem dJ0_isLatin1_aae02_18 : decode cJ0_isLatin1_aae02 18 = .ok (.ireturn, 1) := by decide +kernel
theorem dJ1_canEncode_9a6ad_0 : decode cJ1_canEncode_9a6ad 0 = .ok (.iload_n 0, 1) := by decide +kernel
theorem dJ1_canEncode_9a6ad_1 : decode cJ1_canEncode_9a6ad 1 = .ok (.ifCond .lt 14, 3) := by decide +kernel
theorem dJ1_canEncode_9a6ad_4 : decode cJ1_canEncode_9a6ad 4 = .ok (.iload_n 0, 1) := by decide +kernel
theorem dJ1_canEncode_9a6ad_5 : decode cJ1_canEncode_9a6ad 5 = .ok (.sipush 255, 3) := by decide +kernel
theorem dJ1_canEncode_9a6ad_8 : decode cJ1_canEncode_9a6ad 8 = .ok (.if_icmp .gt 7, 3) := by decide +kernel
theorem dJ1_canEncode_9a6ad_11 : decode cJ1_canEncode_9a6ad 11 = .ok (.iconst 1, 1) := by decide +kernel
theorem dJ1_canEncode_9a6ad_12 : decode cJ1_canEncode_9a6ad 12 = .ok (.goto 4, 3) := by decide +kernel
theorem dJ1_canEncode_9a6ad_15 : decode cJ1_canEncode_9a6ad 15 = .ok (.iconst 0, 1) := by decide +kernel
theorem dJ1_canEncode_9a6ad_16 : decode cJ1_canEncode_9a6ad 16 = .ok (.ireturn, 1) := by decide +kernel
theorem dJ1_indexOf_4cfef_0 : decode cJ1_indexOf_4cfef 0 = .ok (.iload_n 1, 1) := by decide +kernel
theorem dJ1_indexOf_4cfef_1 : decode cJ1_indexOf_4cfef 1 = .ok (.invokestatic 88, 3) := by decide +kernel
theorem dJ1_indexOf_4cfef_4 : decode cJ1_indexOf_4cfef 4 = .ok (.ifCond .ne 5, 3) := by decide +kernel
theorem dJ1_indexOf_4cfef_7 : decode cJ1_indexOf_4cfef 7 = .ok (.iconst (-1), 1) := by decide +kernel
theorem dJ1_indexOf_4cfef_8 : decode cJ1_indexOf_4cfef 8 = .ok (.ireturn, 1) := by decide +kernel
theorem dJ1_indexOf_4cfef_9 : decode cJ1_indexOf_4cfef 9 = .ok (.iload_n 2, 1) := by decide +kernel
theorem dJ1_indexOf_4cfef_10 : decode cJ1_indexOf_4cfef 10 = .ok (.iconst 0, 1) := by decide +kernel
theorem dJ1_indexOf_4cfef_11 : decode cJ1_indexOf_4cfef 11 = .ok (.invokestatic 92, 3) := by decide +kernel
theorem dJ1_indexOf_4cfef_14 : decode cJ1_indexOf_4cfef 14 = .ok (.istore_n 2, 1) := by decide +kernel
theorem dJ1_indexOf_4cfef_15 : decode cJ1_indexOf_4cfef 15 = .ok (.iload_n 3, 1) := by decide +kernel
theorem dJ1_indexOf_4cfef_16 : decode cJ1_indexOf_4cfef 16 = .ok (.aload_n 0, 1) := by decide +kernel
theorem dJ1_indexOf_4cfef_17 : decode cJ1_indexOf_4cfef 17 = .ok (.arraylength, 1) := by decide +kernel
theorem dJ1_indexOf_4cfef_18 : decode cJ1_indexOf_4cfef 18 = .ok (.invokestatic 38, 3) := by decide +kernel
theorem dJ1_indexOf_4cfef_21 : decode cJ1_indexOf_4cfef 21 = .ok (.istore_n 3, 1) := by decide +kernel
theorem dJ1_indexOf_4cfef_22 : decode cJ1_indexOf_4cfef 22 = .ok (.iload_n 2, 1) := by decide +kernel
theorem dJ1_indexOf_4cfef_23 : decode cJ1_indexOf_4cfef 23 = .ok (.iload_n 3, 1) := by decide +kernel
theorem dJ1_indexOf_4cfef_24 : decode cJ1_indexOf_4cfef 24 = .ok (.if_icmp .lt 5, 3) := by decide +kernel
theorem dJ1_indexOf_4cfef_27 : decode cJ1_indexOf_4cfef 27 = .ok (.iconst (-1), 1) := by decide +kernel
theorem dJ1_indexOf_4cfef_28 : decode cJ1_indexOf_4cfef 28 = .ok (.ireturn, 1) := by decide +kernel
theorem dJ1_indexOf_4cfef_29 : decode cJ1_indexOf_4cfef 29 = .ok (.aload_n 0, 1) := by decide +kernel
theorem dJ1_indexOf_4cfef_30 : decode cJ1_indexOf_4cfef 30 = .ok (.iload_n 1, 1) := by decide +kernel
theorem dJ1_indexOf_4cfef_31 : decode cJ1_indexOf_4cfef 31 = .ok (.iload_n 2, 1) := by decide +kernel
theorem dJ1_indexOf_4cfef_32 : decode cJ1_indexOf_4cfef 32 = .ok (.iload_n 3, 1) := by decide +kernel
theorem dJ1_indexOf_4cfef_33 : decode cJ1_indexOf_4cfef 33 = .ok (.invokestatic 95, 3) := by decide +kernel
theorem dJ1_indexOf_4cfef_36 : decode cJ1_indexOf_4cfef 36 = .ok (.ireturn, 1) := by decide +kernel
theorem dJ1_indexOfChar_4cfef_0 : decode cJ1_indexOfChar_4cfef 0 = .ok (.iload_n 1, 1) := by decide +kernel
theorem dJ1_indexOfChar_4cfef_1 : decode cJ1_indexOfChar_4cfef 1 = .ok (.i2b, 1) := by decide +kernel
theorem dJ1_indexOfChar_4cfef_2 : decode cJ1_indexOfChar_4cfef 2 = .ok (.istore 4, 2) := by decide +kernel
theorem dJ1_indexOfChar_4cfef_4 : decode cJ1_indexOfChar_4cfef 4 = .ok (.iload_n 2, 1) := by decide +kernel
theorem dJ1_indexOfChar_4cfef_5 : decode cJ1_indexOfChar_4cfef 5 = .ok (.istore 5, 2) := by decide +kernel
theorem dJ1_indexOfChar_4cfef_7 : decode cJ1_indexOfChar_4cfef 7 = .ok (.iload 5, 2) := by decide +kernel
theorem dJ1_indexOfChar_4cfef_9 : decode cJ1_indexOfChar_4cfef 9 = .ok (.iload_n 3, 1) := by decide +kernel
theorem dJ1_indexOfChar_4cfef_10 : decode cJ1_indexOfChar_4cfef 10 = .ok (.if_icmp .ge 21, 3) := by decide +kernel
theorem dJ1_indexOfChar_4cfef_13 : decode cJ1_indexOfChar_4cfef 13 = .ok (.aload_n 0, 1) := by decide +kernel
theorem dJ1_indexOfChar_4cfef_14 : decode cJ1_indexOfChar_4cfef 14 = .ok (.iload 5, 2) := by decide +kernel
theorem dJ1_indexOfChar_4cfef_16 : decode cJ1_indexOfChar_4cfef 16 = .ok (.baload, 1) := by decide +kernel
theorem dJ1_indexOfChar_4cfef_17 : decode cJ1_indexOfChar_4cfef 17 = .ok (.iload 4, 2) := by decide +kernel
theorem dJ1_indexOfChar_4cfef_19 : decode cJ1_indexOfChar_4cfef 19 = .ok (.if_icmp .ne 6, 3) := by decide +kernel
theorem dJ1_indexOfChar_4cfef_22 : decode cJ1_indexOfChar_4cfef 22 = .ok (.iload 5, 2) := by decide +kernel
theorem dJ1_indexOfChar_4cfef_24 : decode cJ1_indexOfChar_4cfef 24 = .ok (.ireturn, 1) := by decide +kernel
theorem dJ1_indexOfChar_4cfef_25 : decode cJ1_indexOfChar_4cfef 25 = .ok (.iinc 5 1, 3) := by decide +kernel
theorem dJ1_indexOfChar_4cfef_28 : decode cJ1_indexOfChar_4cfef 28 = .ok (.goto (-21), 3) := by decide +kernel
theorem dJ1_indexOfChar_4cfef_31 : decode cJ1_indexOfChar_4cfef 31 = .ok (.iconst (-1), 1) := by decide +kernel
theorem dJ1_indexOfChar_4cfef_32 : decode cJ1_indexOfChar_4cfef 32 = .ok (.ireturn, 1) := by decide +kernel
set_option maxRecDepth 20000 in
theorem qj_cd_coder : Cond.code yJ0_coder_7d493 cJ0_coder_7d493 1 (some .byte) ∈ qa_W := List.mem_filter.mpr ⟨qa_in2 (List.mem_of_getElem? (i := 200) rfl), rfl⟩
set_option maxRecDepth 20000 in
theorem qj_cd_isLatin1 : Cond.code yJ0_isLatin1_aae02 cJ0_isLatin1_aae02 1 (some .boolean) ∈ qa_W := List.mem_filter.mpr ⟨qa_in2 (List.mem_of_getElem? (i := 190) rfl), rfl⟩
set_option maxRecDepth 20000 in
theorem qj_cd_length : Cond.code yJ0_length_8abf5 cJ0_length_8abf5 1 (some .int) ∈ qa_W := List.mem_filter.mpr ⟨qa_in2 (List.mem_of_getElem? (i := 196) rfl), rfl⟩
set_option maxRecDepth 20000 in
theorem qj_cd_indexOf2 : Cond.code yJ0_indexOf_7cf53 cJ0_indexOf_7cf53 3 (some .int) ∈ qa_W := List.mem_filter.mpr ⟨qa_in2 (List.mem_of_getElem? (i := 186) rfl), rfl⟩
set_option maxRecDepth 20000 in
theorem qj_cd_indexOf1 : Cond.code yJ0_indexOf_0f7a4 cJ0_indexOf_0f7a4 2 (some .int) ∈ qa_W := List.mem_filter.mpr ⟨qa_in2 (List.mem_of_getElem? (i := 182) rfl), rfl⟩
set_option maxRecDepth 20000 in
theorem qj_cd_canEncode : Cond.code yJ1_canEncode_9a6ad cJ1_canEncode_9a6ad 1 (some .boolean) ∈ qa_W := List.mem_filter.mpr ⟨qa_in2 (List.mem_of_getElem? (i := 206) rfl), rfl⟩
set_option maxRecDepth 20000 in
theorem qj_cd_indexOfL : Cond.code yJ1_indexOf_4cfef cJ1_indexOf_4cfef 4 (some .int) ∈ qa_W := List.mem_filter.mpr ⟨qa_in2 (List.mem_of_getElem? (i := 203) rfl), rfl⟩
set_option maxRecDepth 20000 in
theorem qj_cd_indexOfChar : Cond.code yJ1_indexOfChar_4cfef cJ1_indexOfChar_4cfef 6 (some .int) ∈ qa_W := List.mem_filter.mpr ⟨qa_in2 (List.mem_of_getElem? (i := 215) rfl), rfl⟩
theorem qj_w1 : Cond.fieldLink RJ0 38 "java/lang/String" "COMPACT_STRINGS" "Z" ∈ qa_W := qa_mW (by decide +kernel)
theorem qj_w2 : Cond.fieldLink RJ0 15 "java/lang/String" "coder" "B" ∈ qa_W := qa_mW (by decide +kernel)
theorem qj_w3 : Cond.fieldLink RJ0 9 "java/lang/String" "value" "[B" ∈ qa_W := qa_mW (by decide +kernel)
theorem qj_i0 : Cond.initialized RJ0 ∈ qa_W := qa_mW (by decide +kernel)
theorem qj_i1 : Cond.initialized RJ1 ∈ qa_W := qa_mW (by decide +kernel)
theorem qj_v1 : Cond.methodLink RJ0 335 yJ0_coder_7d493 ∈ qa_W ∧ Cond.instanceMethod yJ0_coder_7d493 ∈ qa_W ∧ Cond.selects RJ0 yJ0_coder_7d493 yJ0_coder_7d493 ∈ qa_W := ⟨qa_mW (by decide +kernel), qa_mW (by decide +kernel), qa_mW (by decide +kernel)⟩
theorem qj_v2 : Cond.methodLink RJ0 492 yJ0_isLatin1_aae02 ∈ qa_W ∧ Cond.instanceMethod yJ0_isLatin1_aae02 ∈ qa_W ∧ Cond.selects RJ0 yJ0_isLatin1_aae02 yJ0_isLatin1_aae02 ∈ qa_W := ⟨qa_mW (by decide +kernel), qa_mW (by decide +kernel), qa_mW (by decide +kernel)⟩
theorem qj_v3 : Cond.methodLink RJ0 505 yJ0_length_8abf5 ∈ qa_W ∧ Cond.instanceMethod yJ0_length_8abf5 ∈ qa_W ∧ Cond.selects RJ0 yJ0_length_8abf5 yJ0_length_8abf5 ∈ qa_W := ⟨qa_mW (by decide +kernel), qa_mW (by decide +kernel), qa_mW (by decide +kernel)⟩
theorem qj_v4 : Cond.methodLink RJ0 633 yJ0_indexOf_7cf53 ∈ qa_W ∧ Cond.instanceMethod yJ0_indexOf_7cf53 ∈ qa_W ∧ Cond.selects RJ0 yJ0_indexOf_7cf53 yJ0_indexOf_7cf53 ∈ qa_W := ⟨qa_mW (by decide +kernel), qa_mW (by decide +kernel), qa_mW (by decide +kernel)⟩
theorem qj_s1 : Cond.methodLink RJ0 637 yJ1_indexOf_4cfef ∈ qa_W ∧ Cond.static yJ1_indexOf_4cfef ∈ qa_W := ⟨qa_mW (by decide +kernel), qa_mW (by decide +kernel)⟩
theorem qj_s2 : Cond.methodLink RJ1 88 yJ1_canEncode_9a6ad ∈ qa_W ∧ Cond.static yJ1_canEncode_9a6ad ∈ qa_W := ⟨qa_mW (by decide +kernel), qa_mW (by decide +kernel)⟩
theorem qj_s3 : Cond.methodLink RJ1 95 yJ1_indexOfChar_4cfef ∈ qa_W ∧ Cond.static yJ1_indexOfChar_4cfef ∈ qa_W := ⟨qa_mW (by decide +kernel), qa_mW (by decide +kernel)⟩
theorem qj_m1 : Cond.methodLink RJ1 92 Lib.Math.max.name ∈ qa_W ∧ Cond.static Lib.Math.max.name ∈ qa_W ∧ Cond.initialized "java/lang/Math" ∈ qa_W ∧ Cond.code Lib.Math.max.name Lib.Math.max.code 2 (some .int) ∈ qa_W := ⟨qa_mW (by decide +kernel), qa_mW (by decide +kernel), qa_mW (by decide +kernel), qa_mW (by decide +kernel)⟩
theorem qj_m2 : Cond.methodLink RJ1 38 Lib.Math.min.name ∈ qa_W ∧ Cond.static Lib.Math.min.name ∈ qa_W ∧ Cond.code Lib.Math.min.name Lib.Math.min.code 2 (some .int) ∈ qa_W := ⟨qa_mW (by decide +kernel), qa_mW (by decide +kernel), qa_mW (by decide +kernel)⟩
def qj_rm (k : Nat) : Room := { frames := k, cells := 0, slots := 0, locals := k * 64 }
/-- a row of bytes beside -/
def qj_P (z : qa_S) (w : LMem) (v t : Nat) (as : List Value) : Array Value → State → Prop := va_Pc as (fun U => va_K z.1 vwCl (qa_tys z) U ∧ qa_SF z U U.heap ∧ qa_Rel z false w U.heap ∧ va_T .byte v (([3, 4, 8] : List Nat).getD t 0) (fun j => .int ((([qa_str 0, qa_str 1, qa_str 2] : List (List Int32)).getD t []).getD j 0)) (qa_A z) U U.heap)
theorem qj_blind {z : qa_S} {w : LMem} {v t : Nat} {as : List Value} : FrameBlind (qj_P z w v t as) := by
  intro a U g mk h
  obtain ⟨h0, h1, h2, h3, h4⟩ := h
  exact ⟨h0, va_K.moved (u := U) (U := U.calling g mk a) (Vm.Alike.refl U.vm) h1, qa_SF_same (u := U) (U := U.calling g mk a) rfl rfl h2, h3, va_T.moved (u := U) (U := U.calling g mk a) (Vm.Alike.refl U.vm) h4⟩
section QJ
variable {p : Program} {l : Launch} {e : Env} {R : Room} {s : State} {m : MethodId} {args : Array Value} {below : List Frame} {meth : Method} {c : Code} {QF : State → Prop} {z : qa_S} {w : LMem}
theorem qj_end {Q' : LPost} {r : Int32} (hQ : Q' (some (lI r)) w) (hR : qa_Rel z false w s.heap) : ∀ t : State, t.heap = s.heap → s.WarmedH t.vm → qa_Qc z false (gN w) 0 Q' args s (.returned (some (.int r))) t :=
  fun t ht _ => ⟨⟨some (lI r), w, hQ, rfl, by rw [ht]; exact hR, Nat.le_refl _, fun q => (by cases q), fun v hv => by cases hv; trivial⟩, va_S.rf.F ht⟩
theorem qj_good {y : MethodName} {bytes : ByteArray} {maxL : Nat} {ret : Option FieldType} (hc : Cond.code y bytes maxL ret ∈ qa_W) : GoodIn qa_W (.code y bytes maxL ret :: qa_W) := fun x hx9 => by
  rcases List.mem_cons.mp hx9 with rfl | hx9
  · exact ⟨hc, qa_Wgood hc⟩
  · exact ⟨hx9, qa_Wgood hx9⟩
theorem qj_runV {own : String} {index maxL n k pc nL : Nat} {y : MethodName} {bytes cc : ByteArray} {ret : Option FieldType} {Pc : Array Value → State → Prop} {Qc : Array Value → State → Outcome → State → Prop} {H : Heap} {locs : List Loc} {cells slots : Nat} {ls : Array Slot} {b : Nat} {As rest : List Value}
    (S : CallFix p m c cc nL s args qa_W own) (hM : Met l y (.code y bytes maxL ret :: qa_W) (qj_rm k) Pc Qc 0 0 (qa_A z)) (hc : Cond.code y bytes maxL ret ∈ qa_W) (hi : Cond.initialized y.cls ∈ qa_W) (hv : Cond.methodLink own index y ∈ qa_W ∧ Cond.instanceMethod y ∈ qa_W ∧ Cond.selects y.cls y y ∈ qa_W)
    (y1 : y.cls ≠ "java/lang/invoke/MethodHandle" ∧ y.cls ≠ "java/lang/invoke/VarHandle") (hn : (parseMethodDescriptor y.desc).map (fun d => d.parameters.length) = some n) (hp : PreV s H y.cls b Pc As) (hk : k + 1 ≤ R.frames) (hl : 8 + (maxL + 11) + k * 64 ≤ R.locals)
    (hA : As.length = n) (hls : ls.size = nL) (hcat : (rest.map fun v => v.category).sum ≤ 8) (hdg : decode cc pc = .ok (.invokevirtual index, 3)) (hcl : cells ≤ R.cells) (hsl : slots ≤ R.slots) :
    va_Run p l e R s m args below meth c H locs cells slots 0 0 (F0 m pc ls (As.reverse ++ .ref b :: rest)) rest (Qc (Value.ref b :: As).toArray) (qa_A z) := by
  have hts := S.2.2.2.2
  exact va_runV S hM ⟨⟨rfl, rfl, hk, hl, pay_in hts (qj_good hc), List.mem_cons_self, hts _ hc, hts _ hi, y1, fun sig h9 => by rw [h9] at hn; exact (Option.some.inj hn).symm, hts _ hv.1⟩, hts _ hv.2.1, hts _ hv.2.2⟩ hp rfl hA hls rfl (lv_room hcat) hdg ⟨hcl, hsl⟩
theorem qj_runS {own : String} {index maxL n k pc nL : Nat} {y : MethodName} {bytes cc : ByteArray} {ret : Option FieldType} {Pc : Array Value → State → Prop} {Qc : Array Value → State → Outcome → State → Prop} {H : Heap} {locs : List Loc} {cells slots : Nat} {ls : Array Slot} {As rest : List Value}
    (S : CallFix p m c cc nL s args qa_W own) (hM : Met l y (.code y bytes maxL ret :: qa_W) (qj_rm k) Pc Qc 0 0 (qa_A z)) (hc : Cond.code y bytes maxL ret ∈ qa_W) (hi : Cond.initialized y.cls ∈ qa_W) (hv : Cond.methodLink own index y ∈ qa_W ∧ Cond.static y ∈ qa_W)
    (y1 : y.cls ≠ "java/lang/invoke/MethodHandle" ∧ y.cls ≠ "java/lang/invoke/VarHandle") (hn : (parseMethodDescriptor y.desc).map (fun d => d.parameters.length) = some n) (hp : PreS s H Pc As) (hk : k + 1 ≤ R.frames) (hl : 8 + (maxL + 11) + k * 64 ≤ R.locals)
    (hA : As.length = n) (hls : ls.size = nL) (hcat : (rest.map fun v => v.category).sum ≤ 8) (hdg : decode cc pc = .ok (.invokestatic index, 3)) (hcl : cells ≤ R.cells) (hsl : slots ≤ R.slots) :
    va_Run p l e R s m args below meth c H locs cells slots 0 0 (F0 m pc ls (As.reverse ++ rest)) rest (Qc As.toArray) (qa_A z) := by
  have hts := S.2.2.2.2
  exact va_runS S hM ⟨⟨rfl, rfl, hk, hl, pay_in hts (qj_good hc), List.mem_cons_self, hts _ hc, hts _ hi, y1, fun sig h9 => by rw [h9] at hn; exact (Option.some.inj hn).symm, hts _ hv.1⟩, hts _ hv.2⟩ hp rfl hA hls rfl (lv_room hcat) hdg ⟨hcl, hsl⟩
end QJ
theorem qj_coder {l : Launch} {z : qa_S} {w : LMem} {t : Nat} (ht : t < 3) {Q' : LPost} (hQ : Q' (some (lI 0)) w) : Met l yJ0_coder_7d493 (.code yJ0_coder_7d493 cJ0_coder_7d493 1 (some .byte) :: qa_W) (qj_rm 1) (qa_Pc z false [lR 64 (some t)] w) (qa_Qc z false (gN w) 0 Q') 0 0 (qa_A z) := by
  refine Met.ofW (cc := cJ0_coder_7d493) (maxL := 1) (ret := some .byte) (by decide) rfl ?_
  intro p e s m args below meth cc s₁ B hml hpc
  obtain ⟨rfl, hK, hSF, hR⟩ := hpc
  have hts := atoms_spec (ws := .code yJ0_coder_7d493 cJ0_coder_7d493 1 (some .byte) :: qa_W) B.pre
  have hW : ∀ x ∈ qa_W, x.before _ s = true := fun x hx => hts x (List.mem_cons_of_mem _ hx)
  have hown : s.vm.findClass RJ0 = some m.cls := findClass_of_methodNamed B.named
  obtain ⟨adV, hSt⟩ := hSF.2.2.2.2.1
  obtain ⟨-, hco, hva, hby⟩ := hSt.1 t ht
  rw [lg_entry_eq]
  have hl := lv_entry ([lR 64 (some t)].map (qa_val z)) (n := 1) (Nat.le_of_ble_eq_true rfl)
  refine va_gets B.exec B.bytes hSF.2.2.2.2.2.1.1 va_S.rf hown (hW _ qj_w1) (fun _ h => h) dJ0_coder_7d493_0 ?_
  refine lv_if_eq B.exec B.bytes dJ0_coder_7d493_3 (tgt := 13) rfl (fun h => absurd h (by decide)) (fun _ => ?_)
  refine lv_aload_n B.exec B.bytes dJ0_coder_7d493_6 rfl (lv_at hl 0 rfl) ?_
  refine vk_getf B.exec B.bytes hco va_S.rf hown (hW _ qj_w2) (fun _ h => h) dJ0_coder_7d493_7 ?_
  refine lv_goto B.exec B.bytes dJ0_coder_7d493_10 (tgt := 14) rfl ?_
  exact W.zret B.exec B.bytes B.returns rfl (qj_end hQ hR) (va_S.rf : va_S (qa_A z) s.heap s.heap []).2.2 dJ0_coder_7d493_14 B.notSynchronized
theorem qj_isLatin1 {l : Launch} {z : qa_S} {w : LMem} {t : Nat} (ht : t < 3) {Q' : LPost} (hQ : Q' (some (lI 1)) w) : Met l yJ0_isLatin1_aae02 (.code yJ0_isLatin1_aae02 cJ0_isLatin1_aae02 1 (some .boolean) :: qa_W) (qj_rm 1) (qa_Pc z false [lR 64 (some t)] w) (qa_Qc z false (gN w) 0 Q') 0 0 (qa_A z) := by
  refine Met.ofW (cc := cJ0_isLatin1_aae02) (maxL := 1) (ret := some .boolean) (by decide) rfl ?_
  intro p e s m args below meth cc s₁ B hml hpc
  obtain ⟨rfl, hK, hSF, hR⟩ := hpc
  have hts := atoms_spec (ws := .code yJ0_isLatin1_aae02 cJ0_isLatin1_aae02 1 (some .boolean) :: qa_W) B.pre
  have hW : ∀ x ∈ qa_W, x.before _ s = true := fun x hx => hts x (List.mem_cons_of_mem _ hx)
  have hown : s.vm.findClass RJ0 = some m.cls := findClass_of_methodNamed B.named
  obtain ⟨adV, hSt⟩ := hSF.2.2.2.2.1
  obtain ⟨-, hco, hva, hby⟩ := hSt.1 t ht
  rw [lg_entry_eq]
  have hl := lv_entry ([lR 64 (some t)].map (qa_val z)) (n := 1) (Nat.le_of_ble_eq_true rfl)
  refine va_gets B.exec B.bytes hSF.2.2.2.2.2.1.1 va_S.rf hown (hW _ qj_w1) (fun _ h => h) dJ0_isLatin1_aae02_0 ?_
  refine lv_if_eq B.exec B.bytes dJ0_isLatin1_aae02_3 (tgt := 17) rfl (fun h => absurd h (by decide)) (fun _ => ?_)
  refine lv_aload_n B.exec B.bytes dJ0_isLatin1_aae02_6 rfl (lv_at hl 0 rfl) ?_
  refine vk_getf B.exec B.bytes hco va_S.rf hown (hW _ qj_w2) (fun _ h => h) dJ0_isLatin1_aae02_7 ?_
  refine lv_if_ne B.exec B.bytes dJ0_isLatin1_aae02_10 (tgt := 17) rfl (fun h => absurd rfl h) (fun _ => ?_)
  refine lv_iconst B.exec B.bytes dJ0_isLatin1_aae02_13 (v := 1) rfl ?_
  refine lv_goto B.exec B.bytes dJ0_isLatin1_aae02_14 (tgt := 18) rfl ?_
  exact W.zret B.exec B.bytes B.returns rfl (qj_end hQ hR) (va_S.rf : va_S (qa_A z) s.heap s.heap []).2.2 dJ0_isLatin1_aae02_18 B.notSynchronized
theorem qj_pre {z : qa_S} {w : LMem} {As : List LV} {s : State} {H : Heap} {locs : List Loc} (hK : va_K z.1 vwCl (qa_tys z) s) (hSF : qa_SF z s s.heap) (hR : qa_Rel z false w H) (hS : va_S (qa_A z) s.heap H locs) : ∀ U : State, U.heap = H → s.WarmedH U.vm → qa_Pc z false As w (As.map (qa_val z)).toArray U :=
  fun U hU hW => ⟨rfl, va_K.moved hW.alike hK, qa_SF_moved (H := U.heap) hSF hW (fun a h1 h2 => by rw [hU]; exact hS.2.1 a h1 h2), by rw [hU]; exact hR⟩
theorem qj_preT {z : qa_S} {w : LMem} {v t : Nat} {as : List Value} {s : State} {H : Heap} {locs : List Loc} (hK : va_K z.1 vwCl (qa_tys z) s) (hSF : qa_SF z s s.heap) (hR : qa_Rel z false w H) (hS : va_S (qa_A z) s.heap H locs) (hT : va_T .byte v (([3, 4, 8] : List Nat).getD t 0) (fun j => .int ((([qa_str 0, qa_str 1, qa_str 2] : List (List Int32)).getD t []).getD j 0)) (qa_A z) s s.heap) : ∀ U : State, U.heap = H → s.WarmedH U.vm → qj_P z w v t as as.toArray U :=
  fun U hU hW => ⟨rfl, va_K.moved hW.alike hK, qa_SF_moved (H := U.heap) hSF hW (fun a h1 h2 => by rw [hU]; exact hS.2.1 a h1 h2), by rw [hU]; exact hR, (va_T.moved hW.alike hT).kept (fun a h1 h2 => by rw [hU]; exact hS.2.1 a h1 h2)⟩
theorem qj_len8 : ∀ t, t < 3 → Int32.ofNat (([3, 4, 8] : List Nat).getD t 0) >>> ((0 : Int32) &&& 31) = qa_sl t ∧ Int32.ofNat (([3, 4, 8] : List Nat).getD t 0) = qa_sl t := by decide +kernel
theorem qj_length {l : Launch} {z : qa_S} {w : LMem} {t : Nat} (ht : t < 3) {Q' : LPost} (hQ : Q' (some (lI (qa_sl t))) w) : Met l yJ0_length_8abf5 (.code yJ0_length_8abf5 cJ0_length_8abf5 1 (some .int) :: qa_W) (qj_rm 2) (qa_Pc z false [lR 64 (some t)] w) (qa_Qc z false (gN w) 0 Q') 0 0 (qa_A z) := by
  refine Met.ofW (cc := cJ0_length_8abf5) (maxL := 1) (ret := some .int) (by decide) rfl ?_
  intro p e s m args below meth cc s₁ B hml hpc
  obtain ⟨rfl, hK, hSF, hR⟩ := hpc
  have hts := atoms_spec (ws := .code yJ0_length_8abf5 cJ0_length_8abf5 1 (some .int) :: qa_W) B.pre
  have hW : ∀ x ∈ qa_W, x.before _ s = true := fun x hx => hts x (List.mem_cons_of_mem _ hx)
  have hown : s.vm.findClass RJ0 = some m.cls := findClass_of_methodNamed B.named
  obtain ⟨adV, hSt⟩ := hSF.2.2.2.2.1
  obtain ⟨-, hco, hva, hby⟩ := hSt.1 t ht
  rw [lg_entry_eq]
  have hl := lv_entry ([lR 64 (some t)].map (qa_val z)) (n := 1) (Nat.le_of_ble_eq_true rfl)
  refine lv_aload_n B.exec B.bytes dJ0_length_8abf5_0 rfl (lv_at hl 0 rfl) ?_
  refine vk_getf B.exec B.bytes hva va_S.rf hown (hW _ qj_w3) (fun _ h => h) dJ0_length_8abf5_1 ?_
  refine va_tlen B.exec B.bytes hby va_S.rf rfl dJ0_length_8abf5_4 ?_
  refine lv_aload_n B.exec B.bytes dJ0_length_8abf5_5 rfl (lv_at hl 0 rfl) ?_
  have hfix : CallFix p m cc cJ0_length_8abf5 1 s (([lR 64 (some t)].map (qa_val z)).toArray) qa_W RJ0 := ⟨B.exec, B.bytes, hml, hown, hW⟩
  have hcall := qj_runV (R := qj_rm 2) (l := l) (e := e) (below := below) (meth := meth) (H := s.heap) (locs := []) (As := []) (rest := [.int (Int32.ofNat (([3, 4, 8] : List Nat).getD t 0))]) (pc := 6) hfix (qj_coder (l := l) (Q' := fun r w' => r = some (lI 0) ∧ w' = w) ht ⟨rfl, rfl⟩) qj_cd_coder qj_i0 qj_v1 (by decide) rfl (⟨qa_Pc_blind, vk_recv hSt ht va_S.rf, qj_pre (As := [lR 64 (some t)]) hK hSF hR va_S.rf⟩ : PreV s s.heap RJ0 (z.2.2.2.1 64 t) (qa_Pc z false [lR 64 (some t)] w) []) (by decide) (by decide) rfl hl.1 (by show 1 + 0 ≤ 8; omega) dJ0_length_8abf5_6 (Nat.le_refl 0) (Nat.le_refl 0)
  refine qa_callW (Q' := fun r w' => r = some (lI 0) ∧ w' = w) hcall va_S.rf (fun r w' H1 locs1 hq hR1 g1 g2 g3 hS1 => ?_)
  obtain ⟨rfl, rfl⟩ := hq
  refine lv_ishr B.exec B.bytes dJ0_length_8abf5_9 ?_
  rw [(qj_len8 t ht).1]
  exact W.iret B.exec B.bytes B.returns (fun t' ht' _ => ⟨⟨some (lI (qa_sl t)), w', hQ, rfl, by rw [ht']; exact hR1, Nat.le_refl _, fun q => (by cases q), fun v hv => by cases hv; trivial⟩, hS1.F ht'⟩) hS1.2.2 dJ0_length_8abf5_10 B.notSynchronized
def qj_S (t : Nat) : List Int32 := ([qa_str 0, qa_str 1, qa_str 2] : List (List Int32)).getD t []
theorem qj_S9 : ∀ t, t < 3 → ([3, 4, 8] : List Nat).getD t 0 = (qj_S t).length ∧ qa_str t = qj_S t ∧ (qj_S t).length ≤ 8 ∧ 0 < (qj_S t).length ∧ Int32.ofNat (qj_S t).length = qa_sl t := by decide +kernel
theorem qj_b9 : ∀ n, n < 256 → ∀ t, t < 3 → ∀ j, j < (qj_S t).length → ((qj_S t).getD j 0 = (Int32.ofNat n).toInt8.toInt32 ↔ (qj_S t).getD j 0 = Int32.ofNat n) := by decide +kernel
theorem qj_c9 {c : Int32} (h1 : 0 ≤ c) (h2 : c < 256) : ∃ n, n < 256 ∧ c = Int32.ofNat n := by
  have g1 : 0 ≤ c.toInt := by simpa using Int32.le_iff_toInt_le.mp h1
  have g2 : c.toInt < 256 := by simpa using Int32.lt_iff_toInt_lt.mp h2
  refine ⟨c.toInt.toNat, by omega, ?_⟩
  apply Int32.toInt_inj.mp
  rw [Int32.toInt_ofNat_of_lt (by omega)]
  omega
theorem qj_canEncode {l : Launch} {z : qa_S} {w : LMem} {c : Int32} (h1 : 0 ≤ c) (h2 : c < 256) {Q' : LPost} (hQ : Q' (some (lI 1)) w) : Met l yJ1_canEncode_9a6ad (.code yJ1_canEncode_9a6ad cJ1_canEncode_9a6ad 1 (some .boolean) :: qa_W) (qj_rm 1) (qa_Pc z false [lI c] w) (qa_Qc z false (gN w) 0 Q') 0 0 (qa_A z) := by
  refine Met.ofW (cc := cJ1_canEncode_9a6ad) (maxL := 1) (ret := some .boolean) (by decide) rfl ?_
  intro p e s m args below meth cc s₁ B hml hpc
  obtain ⟨rfl, hK, hSF, hR⟩ := hpc
  rw [lg_entry_eq]
  have hl := lv_entry ([lI c].map (qa_val z)) (n := 1) (Nat.le_of_ble_eq_true rfl)
  refine lv_iload_n B.exec B.bytes dJ1_canEncode_9a6ad_0 rfl (lv_at hl 0 rfl) ?_
  refine lv_if_lt B.exec B.bytes dJ1_canEncode_9a6ad_1 (tgt := 15) rfl (fun h => absurd h (Int32.not_lt.mpr h1)) (fun _ => ?_)
  refine lv_iload_n B.exec B.bytes dJ1_canEncode_9a6ad_4 rfl (lv_at hl 0 rfl) ?_
  refine lv_sipush B.exec B.bytes dJ1_canEncode_9a6ad_5 (v := 255) rfl ?_
  refine lv_icmp_gt B.exec B.bytes dJ1_canEncode_9a6ad_8 (tgt := 15) rfl (fun h => ?_) (fun _ => ?_)
  · exfalso
    have g1 : (255 : Int) < c.toInt := by simpa using Int32.lt_iff_toInt_lt.mp h
    have g2 : c.toInt < 256 := by simpa using Int32.lt_iff_toInt_lt.mp h2
    omega
  refine lv_iconst B.exec B.bytes dJ1_canEncode_9a6ad_11 (v := 1) rfl ?_
  refine lv_goto B.exec B.bytes dJ1_canEncode_9a6ad_12 (tgt := 16) rfl ?_
  exact W.zret B.exec B.bytes B.returns rfl (qj_end hQ hR) (va_S.rf : va_S (qa_A z) s.heap s.heap []).2.2 dJ1_canEncode_9a6ad_16 B.notSynchronized
section QJL
variable {p : Program} {l : Launch} {e : Env} {R : Room} {s : State} {m : MethodId} {args : Array Value} {below : List Frame} {meth : Method} {c : Code} {z : qa_S} {w : LMem}
theorem qj_loop {v : Nat} {S : List Int32} {k cb : Int32} (hx : p.tables.exec = Jvm.exec) (hb : c.code = cJ1_indexOfChar_4cfef) (hr : meth.sig.returnType = some .int) (hlk : meth.locks = false) {Q' : LPost} (hR : qa_Rel z false w s.heap) (hT : va_T .byte v S.length (fun j => .int (S.getD j 0)) (qa_A z) s s.heap) (hS8 : S.length ≤ 8)
    (hcb : ∀ j, j < S.length → (S.getD j 0 = cb ↔ S.getD j 0 = k)) : ∀ (n i : Nat), i + n = S.length → Q' (some (lI (qa_ixF k (S.drop i) (Int32.ofNat i)))) w → ∀ ls : Array Slot, lv_has ls 6 [(5, .int (Int32.ofNat i)), (4, .int cb), (0, .ref v), (3, .int (Int32.ofNat S.length))] →
      W p l e R s m args below meth c s.heap [] 0 0 (MQ below (qa_Qc z false (gN w) 0 Q') args s 0 0 (qa_A z)) (F0 m 7 ls []) := by
  intro n
  induction n with
  | zero =>
    intro i hi hQ ls hl
    refine lv_iload hx hb dJ1_indexOfChar_4cfef_7 (lv_at hl 0 rfl) ?_
    refine lv_iload_n hx hb dJ1_indexOfChar_4cfef_9 rfl (lv_at hl 3 rfl) ?_
    refine lv_icmp_ge hx hb dJ1_indexOfChar_4cfef_10 (tgt := 31) rfl (fun _ => ?_) (fun h => absurd (by rw [show i = S.length by omega]; exact Int32.le_refl _) h)
    refine lv_iconst hx hb dJ1_indexOfChar_4cfef_31 (v := -1) rfl ?_
    rw [List.drop_eq_nil_of_le (by omega)] at hQ
    exact W.iret hx hb hr (qj_end hQ hR) (va_S.rf : va_S (qa_A z) s.heap s.heap []).2.2 dJ1_indexOfChar_4cfef_32 hlk
  | succ n ih =>
    intro i hi hQ ls hl
    have hil : i < S.length := by omega
    have e1 : (Int32.ofNat i).toInt = i := Int32.toInt_ofNat_of_lt (by omega)
    have e2 : (Int32.ofNat S.length).toInt = S.length := Int32.toInt_ofNat_of_lt (by omega)
    have e3 : (Int32.ofNat i).toNatClampNeg = i := Int32.toNatClampNeg_ofNat_of_lt (by omega)
    refine lv_iload hx hb dJ1_indexOfChar_4cfef_7 (lv_at hl 0 rfl) ?_
    refine lv_iload_n hx hb dJ1_indexOfChar_4cfef_9 rfl (lv_at hl 3 rfl) ?_
    refine lv_icmp_ge hx hb dJ1_indexOfChar_4cfef_10 (tgt := 31) rfl (fun h => ?_) (fun _ => ?_)
    · exfalso
      have := Int32.le_iff_toInt_le.mp h
      omega
    refine lv_aload_n hx hb dJ1_indexOfChar_4cfef_13 rfl (lv_at hl 2 rfl) ?_
    refine lv_iload hx hb dJ1_indexOfChar_4cfef_14 (lv_at hl 0 rfl) ?_
    refine va_tb hx hb hT va_S.rf (fun q => ?_) (v := .int (S.getD i 0)) (by rw [e3]) dJ1_indexOfChar_4cfef_16 ?_
    · rcases q with q | q
      · have := Int32.lt_iff_toInt_lt.mp q
        rw [e1] at this
        simp at this
        omega
      · omega
    have hdr : S.drop i = S.getD i 0 :: S.drop (i + 1) := by
      rw [List.drop_eq_getElem_cons hil]
      simp [hil]
    rw [hdr] at hQ
    refine lv_iload hx hb dJ1_indexOfChar_4cfef_17 (lv_at hl 1 rfl) ?_
    refine lv_icmp_ne hx hb dJ1_indexOfChar_4cfef_19 (tgt := 25) rfl (fun h => ?_) (fun h => ?_)
    · have hne : ¬ S.getD i 0 = k := fun q => h ((hcb i hil).mpr q)
      have hQ : Q' (some (lI (if S.getD i 0 = k then Int32.ofNat i else qa_ixF k (S.drop (i + 1)) (Int32.ofNat i + 1)))) w := hQ
      rw [if_neg hne] at hQ
      refine lv_iinc hx hb dJ1_indexOfChar_4cfef_25 hl (k := 0) rfl (v := Int32.ofNat (i + 1)) ?_ (by decide) rfl (fun ls' hl' => ?_)
      · show Int32.ofNat i + 1 = Int32.ofNat (i + 1)
        rw [Int32.ofNat_add]
        rfl
      · refine lv_goto hx hb dJ1_indexOfChar_4cfef_28 (tgt := 7) rfl ?_
        refine ih (i + 1) (by omega) ?_ ls' (lv_sub hl' [0, 1, 2, 3] rfl)
        rw [show Int32.ofNat (i + 1) = Int32.ofNat i + 1 by rw [Int32.ofNat_add]; rfl]
        exact hQ
    · have he : S.getD i 0 = k := (hcb i hil).mp h
      have hQ : Q' (some (lI (if S.getD i 0 = k then Int32.ofNat i else qa_ixF k (S.drop (i + 1)) (Int32.ofNat i + 1)))) w := hQ
      rw [if_pos he] at hQ
      refine lv_iload hx hb dJ1_indexOfChar_4cfef_22 (lv_at hl 0 rfl) ?_
      exact W.iret hx hb hr (qj_end hQ hR) (va_S.rf : va_S (qa_A z) s.heap s.heap []).2.2 dJ1_indexOfChar_4cfef_24 hlk
end QJL
theorem qj_indexOfChar {l : Launch} {z : qa_S} {w : LMem} {t v : Nat} (ht : t < 3) {c : Int32} (h1 : 0 ≤ c) (h2 : c < 256) {Q' : LPost} (hQ : Q' (some (lI (qa_ix t c))) w) : Met l yJ1_indexOfChar_4cfef (.code yJ1_indexOfChar_4cfef cJ1_indexOfChar_4cfef 6 (some .int) :: qa_W) (qj_rm 1) (qj_P z w v t [.ref v, .int c, .int 0, .int (qa_sl t)]) (qa_Qc z false (gN w) 0 Q') 0 0 (qa_A z) := by
  refine Met.ofW (cc := cJ1_indexOfChar_4cfef) (maxL := 6) (ret := some .int) (by decide) rfl ?_
  intro p e s m args below meth cc s₁ B hml hpc
  obtain ⟨rfl, hK, hSF, hR, hT⟩ := hpc
  obtain ⟨g1, g2, g3, g4, g5⟩ := qj_S9 t ht
  rw [g1] at hT
  rw [lg_entry_eq]
  have hl := lv_entry ([.ref v, .int c, .int 0, .int (qa_sl t)] : List Value) (n := 6) (Nat.le_of_ble_eq_true rfl)
  refine lv_iload_n B.exec B.bytes dJ1_indexOfChar_4cfef_0 rfl (lv_at hl 1 rfl) ?_
  refine lv_i2b B.exec B.bytes dJ1_indexOfChar_4cfef_1 rfl ?_
  refine lv_istore B.exec B.bytes dJ1_indexOfChar_4cfef_2 hl (by decide) rfl (fun ls1 hl1 => ?_)
  refine lv_iload_n B.exec B.bytes dJ1_indexOfChar_4cfef_4 rfl (lv_at hl1 3 rfl) ?_
  refine lv_istore B.exec B.bytes dJ1_indexOfChar_4cfef_5 hl1 (by decide) rfl (fun ls2 hl2 => ?_)
  obtain ⟨n, hn, rfl⟩ := qj_c9 h1 h2
  refine qj_loop (S := qj_S t) (k := Int32.ofNat n) (cb := (Int32.ofNat n).toInt8.toInt32) B.exec B.bytes B.returns B.notSynchronized hR hT g3 (fun j hj => qj_b9 n hn t ht j hj) (qj_S t).length 0 (Nat.zero_add _) ?_ ls2 ?_
  · rw [List.drop_zero, ← g2]
    exact hQ
  · rw [g5]
    exact lv_sub hl2 [0, 1, 2, 5] rfl
theorem qj_indexOfL {l : Launch} {z : qa_S} {w : LMem} {t v : Nat} (ht : t < 3) {c : Int32} (h1 : 0 ≤ c) (h2 : c < 256) {Q' : LPost} (hQ : Q' (some (lI (qa_ix t c))) w) : Met l yJ1_indexOf_4cfef (.code yJ1_indexOf_4cfef cJ1_indexOf_4cfef 4 (some .int) :: qa_W) (qj_rm 3) (qj_P z w v t [.ref v, .int c, .int 0, .int (qa_sl t)]) (qa_Qc z false (gN w) 0 Q') 0 0 (qa_A z) := by
  refine Met.ofW (cc := cJ1_indexOf_4cfef) (maxL := 4) (ret := some .int) (by decide) rfl ?_
  intro p e s m args below meth cc s₁ B hml hpc
  obtain ⟨rfl, hK, hSF, hR, hT⟩ := hpc
  have hts := atoms_spec (ws := .code yJ1_indexOf_4cfef cJ1_indexOf_4cfef 4 (some .int) :: qa_W) B.pre
  have hW : ∀ x ∈ qa_W, x.before _ s = true := fun x hx => hts x (List.mem_cons_of_mem _ hx)
  have hown : s.vm.findClass RJ1 = some m.cls := findClass_of_methodNamed B.named
  obtain ⟨g1, g2, g3, g4, g5⟩ := qj_S9 t ht
  rw [lg_entry_eq]
  have hl := lv_entry ([.ref v, .int c, .int 0, .int (qa_sl t)] : List Value) (n := 4) (Nat.le_of_ble_eq_true rfl)
  have hfix : CallFix p m cc cJ1_indexOf_4cfef 4 s (([.ref v, .int c, .int 0, .int (qa_sl t)] : List Value).toArray) qa_W RJ1 := ⟨B.exec, B.bytes, hml, hown, hW⟩
  refine lv_iload_n B.exec B.bytes dJ1_indexOf_4cfef_0 rfl (lv_at hl 1 rfl) ?_
  have hc1 := qj_runS (R := qj_rm 3) (l := l) (e := e) (below := below) (meth := meth) (H := s.heap) (locs := []) (As := [.int c]) (rest := []) (pc := 1) hfix (qj_canEncode (l := l) (Q' := fun r w' => r = some (lI 1) ∧ w' = w) h1 h2 ⟨rfl, rfl⟩) qj_cd_canEncode qj_i1 qj_s2 (by decide) rfl (⟨qa_Pc_blind, qj_pre (As := [lI c]) hK hSF hR va_S.rf⟩ : PreS s s.heap (qa_Pc z false [lI c] w) [.int c]) (by decide) (by decide) rfl hl.1 (by decide) dJ1_indexOf_4cfef_1 (Nat.le_refl 0) (Nat.le_refl 0)
  refine qa_callW (Q' := fun r w' => r = some (lI 1) ∧ w' = w) hc1 va_S.rf (fun r w' H1 locs1 hq hR1 k1 k2 k3 hS1 => ?_)
  obtain ⟨rfl, rfl⟩ := hq
  refine lv_if_ne B.exec B.bytes dJ1_indexOf_4cfef_4 (tgt := 9) rfl (fun _ => ?_) (fun h => absurd h (by decide))
  refine lv_iload_n B.exec B.bytes dJ1_indexOf_4cfef_9 rfl (lv_at hl 2 rfl) ?_
  refine lv_iconst B.exec B.bytes dJ1_indexOf_4cfef_10 (v := 0) rfl ?_
  refine va_mmax B.exec B.bytes (by rw [hml]; exact hl.1.symm) hown (hW _ qj_m1.1) (hW _ qj_m1.2.1) (hW _ qj_m1.2.2.1) (hW _ qj_m1.2.2.2) (by decide) (by decide) (Nat.le_refl 0) (Nat.le_refl 0) dJ1_indexOf_4cfef_11 ?_
  rw [show (if (0 : Int32) < 0 then (0 : Int32) else 0) = 0 from rfl]
  refine lv_istore_n B.exec B.bytes dJ1_indexOf_4cfef_14 rfl hl (by decide) rfl (fun ls1 hl1 => ?_)
  refine lv_iload_n B.exec B.bytes dJ1_indexOf_4cfef_15 rfl (lv_at hl1 3 rfl) ?_
  refine lv_aload_n B.exec B.bytes dJ1_indexOf_4cfef_16 rfl (lv_at hl1 1 rfl) ?_
  refine va_tlen B.exec B.bytes hT hS1 (v := qa_sl t) (by rw [g1]; exact g5) dJ1_indexOf_4cfef_17 ?_
  refine va_mmin B.exec B.bytes (by rw [hml]; exact hl1.1.symm) hown (hW _ qj_m2.1) (hW _ qj_m2.2.1) (hW _ qj_m1.2.2.1) (hW _ qj_m2.2.2) (by decide) (by decide) (Nat.le_refl 0) (Nat.le_refl 0) dJ1_indexOf_4cfef_18 ?_
  rw [show (if qa_sl t < qa_sl t then qa_sl t else qa_sl t) = qa_sl t by split <;> rfl]
  refine lv_istore_n B.exec B.bytes dJ1_indexOf_4cfef_21 rfl hl1 (by decide) rfl (fun ls2 hl2 => ?_)
  refine lv_iload_n B.exec B.bytes dJ1_indexOf_4cfef_22 rfl (lv_at hl2 1 rfl) ?_
  refine lv_iload_n B.exec B.bytes dJ1_indexOf_4cfef_23 rfl (lv_at hl2 0 rfl) ?_
  refine lv_icmp_lt B.exec B.bytes dJ1_indexOf_4cfef_24 (tgt := 29) rfl (fun _ => ?_) (fun h => ?_)
  · refine lv_aload_n B.exec B.bytes dJ1_indexOf_4cfef_29 rfl (lv_at hl2 2 rfl) ?_
    refine lv_iload_n B.exec B.bytes dJ1_indexOf_4cfef_30 rfl (lv_at hl2 3 rfl) ?_
    refine lv_iload_n B.exec B.bytes dJ1_indexOf_4cfef_31 rfl (lv_at hl2 1 rfl) ?_
    refine lv_iload_n B.exec B.bytes dJ1_indexOf_4cfef_32 rfl (lv_at hl2 0 rfl) ?_
    have hc2 := qj_runS (R := qj_rm 3) (l := l) (e := e) (below := below) (meth := meth) (H := H1) (locs := locs1) (As := [.ref v, .int c, .int 0, .int (qa_sl t)]) (rest := []) (pc := 33) hfix (qj_indexOfChar (l := l) (v := v) (Q' := fun r w9 => r = some (lI (qa_ix t c)) ∧ w9 = w') ht h1 h2 ⟨rfl, rfl⟩) qj_cd_indexOfChar qj_i1 qj_s3 (by decide) rfl (⟨qj_blind, qj_preT hK hSF hR1 hS1 hT⟩ : PreS s H1 (qj_P z w' v t [.ref v, .int c, .int 0, .int (qa_sl t)]) [.ref v, .int c, .int 0, .int (qa_sl t)]) (by decide) (by decide) rfl hl2.1 (by decide) dJ1_indexOf_4cfef_33 (Nat.le_refl 0) (Nat.le_refl 0)
    refine qa_callW (Q' := fun r w9 => r = some (lI (qa_ix t c)) ∧ w9 = w') hc2 hS1 (fun r w9 H2 locs2 hq hR2 k4 k5 k6 hS2 => ?_)
    obtain ⟨rfl, rfl⟩ := hq
    exact W.iret B.exec B.bytes B.returns (fun t' ht' _ => ⟨⟨some (lI (qa_ix t c)), w9, hQ, rfl, by rw [ht']; exact hR2, Nat.le_refl _, fun q => (by cases q), fun v hv => by cases hv; trivial⟩, hS2.F ht'⟩) hS2.2.2 dJ1_indexOf_4cfef_36 B.notSynchronized
  · exfalso
    refine h ?_
    rw [← g5]
    rw [Int32.lt_iff_toInt_lt, Int32.toInt_ofNat_of_lt (by omega)]
    simpa using g4
theorem qj_indexOf2 {l : Launch} {z : qa_S} {w : LMem} {t : Nat} (ht : t < 3) {c : Int32} (h1 : 0 ≤ c) (h2 : c < 256) {Q' : LPost} (hQ : Q' (some (lI (qa_ix t c))) w) : Met l yJ0_indexOf_7cf53 (.code yJ0_indexOf_7cf53 cJ0_indexOf_7cf53 3 (some .int) :: qa_W) (qj_rm 5) (qa_Pc z false [lR 64 (some t), lI c, lI 0] w) (qa_Qc z false (gN w) 0 Q') 0 0 (qa_A z) := by
  refine Met.ofW (cc := cJ0_indexOf_7cf53) (maxL := 3) (ret := some .int) (by decide) rfl ?_
  intro p e s m args below meth cc s₁ B hml hpc
  obtain ⟨rfl, hK, hSF, hR⟩ := hpc
  have hts := atoms_spec (ws := .code yJ0_indexOf_7cf53 cJ0_indexOf_7cf53 3 (some .int) :: qa_W) B.pre
  have hW : ∀ x ∈ qa_W, x.before _ s = true := fun x hx => hts x (List.mem_cons_of_mem _ hx)
  have hown : s.vm.findClass RJ0 = some m.cls := findClass_of_methodNamed B.named
  obtain ⟨adV, hSt⟩ := hSF.2.2.2.2.1
  obtain ⟨-, hco, hva, hby⟩ := hSt.1 t ht
  rw [lg_entry_eq]
  have hl := lv_entry ([lR 64 (some t), lI c, lI 0].map (qa_val z)) (n := 3) (Nat.le_of_ble_eq_true rfl)
  have hfix : CallFix p m cc cJ0_indexOf_7cf53 3 s (([lR 64 (some t), lI c, lI 0].map (qa_val z)).toArray) qa_W RJ0 := ⟨B.exec, B.bytes, hml, hown, hW⟩
  refine lv_aload_n B.exec B.bytes dJ0_indexOf_7cf53_0 rfl (lv_at hl 0 rfl) ?_
  have hc1 := qj_runV (R := qj_rm 5) (l := l) (e := e) (below := below) (meth := meth) (H := s.heap) (locs := []) (As := []) (rest := []) (pc := 1) hfix (qj_isLatin1 (l := l) (Q' := fun r w' => r = some (lI 1) ∧ w' = w) ht ⟨rfl, rfl⟩) qj_cd_isLatin1 qj_i0 qj_v2 (by decide) rfl (⟨qa_Pc_blind, vk_recv hSt ht va_S.rf, qj_pre (As := [lR 64 (some t)]) hK hSF hR va_S.rf⟩ : PreV s s.heap RJ0 (z.2.2.2.1 64 t) (qa_Pc z false [lR 64 (some t)] w) []) (by decide) (by decide) rfl hl.1 (by decide) dJ0_indexOf_7cf53_1 (Nat.le_refl 0) (Nat.le_refl 0)
  refine qa_callW (Q' := fun r w' => r = some (lI 1) ∧ w' = w) hc1 va_S.rf (fun r w' H1 locs1 hq hR1 k1 k2 k3 hS1 => ?_)
  obtain ⟨rfl, rfl⟩ := hq
  refine lv_if_eq B.exec B.bytes dJ0_indexOf_7cf53_4 (tgt := 23) rfl (fun h => absurd h (by decide)) (fun _ => ?_)
  refine lv_aload_n B.exec B.bytes dJ0_indexOf_7cf53_7 rfl (lv_at hl 0 rfl) ?_
  refine vk_getf B.exec B.bytes hva hS1 hown (hW _ qj_w3) (fun _ h => h) dJ0_indexOf_7cf53_8 ?_
  refine lv_iload_n B.exec B.bytes dJ0_indexOf_7cf53_11 rfl (lv_at hl 1 rfl) ?_
  refine lv_iload_n B.exec B.bytes dJ0_indexOf_7cf53_12 rfl (lv_at hl 2 rfl) ?_
  refine lv_aload_n B.exec B.bytes dJ0_indexOf_7cf53_13 rfl (lv_at hl 0 rfl) ?_
  have hc2 := qj_runV (R := qj_rm 5) (l := l) (e := e) (below := below) (meth := meth) (H := H1) (locs := locs1) (As := []) (rest := [.int 0, .int c, .ref (adV t)]) (pc := 14) hfix (qj_length (l := l) (Q' := fun r w9 => r = some (lI (qa_sl t)) ∧ w9 = w') ht ⟨rfl, rfl⟩) qj_cd_length qj_i0 qj_v3 (by decide) rfl (⟨qa_Pc_blind, vk_recv hSt ht hS1, qj_pre (As := [lR 64 (some t)]) hK hSF hR1 hS1⟩ : PreV s H1 RJ0 (z.2.2.2.1 64 t) (qa_Pc z false [lR 64 (some t)] w') []) (by decide) (by decide) rfl hl.1 (by show 1 + (1 + (1 + 0)) ≤ 8; omega) dJ0_indexOf_7cf53_14 (Nat.le_refl 0) (Nat.le_refl 0)
  refine qa_callW (Q' := fun r w9 => r = some (lI (qa_sl t)) ∧ w9 = w') hc2 hS1 (fun r w9 H2 locs2 hq hR2 k4 k5 k6 hS2 => ?_)
  obtain ⟨rfl, rfl⟩ := hq
  have hc3 := qj_runS (R := qj_rm 5) (l := l) (e := e) (below := below) (meth := meth) (H := H2) (locs := locs2) (As := [.ref (adV t), .int c, .int 0, .int (qa_sl t)]) (rest := []) (pc := 17) hfix (qj_indexOfL (l := l) (v := adV t) (Q' := fun r w8 => r = some (lI (qa_ix t c)) ∧ w8 = w9) ht h1 h2 ⟨rfl, rfl⟩) qj_cd_indexOfL qj_i1 qj_s1 (by decide) rfl (⟨qj_blind, qj_preT hK hSF hR2 hS2 hby⟩ : PreS s H2 (qj_P z w9 (adV t) t [.ref (adV t), .int c, .int 0, .int (qa_sl t)]) [.ref (adV t), .int c, .int 0, .int (qa_sl t)]) (by decide) (by decide) rfl hl.1 (by decide) dJ0_indexOf_7cf53_17 (Nat.le_refl 0) (Nat.le_refl 0)
  refine qa_callW (Q' := fun r w8 => r = some (lI (qa_ix t c)) ∧ w8 = w9) hc3 hS2 (fun r w8 H3 locs3 hq hR3 k7 k8 k9 hS3 => ?_)
  obtain ⟨rfl, rfl⟩ := hq
  refine lv_goto B.exec B.bytes dJ0_indexOf_7cf53_20 (tgt := 36) rfl ?_
  exact W.iret B.exec B.bytes B.returns (fun t' ht' _ => ⟨⟨some (lI (qa_ix t c)), w8, hQ, rfl, by rw [ht']; exact hR3, Nat.le_refl _, fun q => (by cases q), fun v hv => by cases hv; trivial⟩, hS3.F ht'⟩) hS3.2.2 dJ0_indexOf_7cf53_36 B.notSynchronized
theorem qj_indexOf1 {l : Launch} {z : qa_S} {w : LMem} {t : Nat} (ht : t < 3) {c : Int32} (h1 : 0 ≤ c) (h2 : c < 256) {Q' : LPost} (hQ : Q' (some (lI (qa_ix t c))) w) : Met l yJ0_indexOf_0f7a4 (.code yJ0_indexOf_0f7a4 cJ0_indexOf_0f7a4 2 (some .int) :: qa_W) (qj_rm 7) (qa_Pc z false [lR 64 (some t), lI c] w) (qa_Qc z false (gN w) 0 Q') 0 0 (qa_A z) := by
  refine Met.ofW (cc := cJ0_indexOf_0f7a4) (maxL := 2) (ret := some .int) (by decide) rfl ?_
  intro p e s m args below meth cc s₁ B hml hpc
  obtain ⟨rfl, hK, hSF, hR⟩ := hpc
  have hts := atoms_spec (ws := .code yJ0_indexOf_0f7a4 cJ0_indexOf_0f7a4 2 (some .int) :: qa_W) B.pre
  have hW : ∀ x ∈ qa_W, x.before _ s = true := fun x hx => hts x (List.mem_cons_of_mem _ hx)
  have hown : s.vm.findClass RJ0 = some m.cls := findClass_of_methodNamed B.named
  obtain ⟨adV, hSt⟩ := hSF.2.2.2.2.1
  rw [lg_entry_eq]
  have hl := lv_entry ([lR 64 (some t), lI c].map (qa_val z)) (n := 2) (Nat.le_of_ble_eq_true rfl)
  have hfix : CallFix p m cc cJ0_indexOf_0f7a4 2 s (([lR 64 (some t), lI c].map (qa_val z)).toArray) qa_W RJ0 := ⟨B.exec, B.bytes, hml, hown, hW⟩
  refine lv_aload_n B.exec B.bytes dJ0_indexOf_0f7a4_0 rfl (lv_at hl 0 rfl) ?_
  refine lv_iload_n B.exec B.bytes dJ0_indexOf_0f7a4_1 rfl (lv_at hl 1 rfl) ?_
  refine lv_iconst B.exec B.bytes dJ0_indexOf_0f7a4_2 (v := 0) rfl ?_
  have hc1 := qj_runV (R := qj_rm 7) (l := l) (e := e) (below := below) (meth := meth) (H := s.heap) (locs := []) (As := [.int c, .int 0]) (rest := []) (pc := 3) hfix (qj_indexOf2 (l := l) (Q' := fun r w' => r = some (lI (qa_ix t c)) ∧ w' = w) ht h1 h2 ⟨rfl, rfl⟩) qj_cd_indexOf2 qj_i0 qj_v4 (by decide) rfl (⟨qa_Pc_blind, vk_recv hSt ht va_S.rf, qj_pre (As := [lR 64 (some t), lI c, lI 0]) hK hSF hR va_S.rf⟩ : PreV s s.heap RJ0 (z.2.2.2.1 64 t) (qa_Pc z false [lR 64 (some t), lI c, lI 0] w) [.int c, .int 0]) (by decide) (by decide) rfl hl.1 (by decide) dJ0_indexOf_0f7a4_3 (Nat.le_refl 0) (Nat.le_refl 0)
  refine qa_callW (Q' := fun r w' => r = some (lI (qa_ix t c)) ∧ w' = w) hc1 va_S.rf (fun r w' H1 locs1 hq hR1 k1 k2 k3 hS1 => ?_)
  obtain ⟨rfl, rfl⟩ := hq
  exact W.iret B.exec B.bytes B.returns (fun t' ht' _ => ⟨⟨some (lI (qa_ix t c)), w', hQ, rfl, by rw [ht']; exact hR1, Nat.le_refl _, fun q => (by cases q), fun v hv => by cases hv; trivial⟩, hS1.F ht'⟩) hS1.2.2 dJ0_indexOf_0f7a4_6 B.notSynchronized
