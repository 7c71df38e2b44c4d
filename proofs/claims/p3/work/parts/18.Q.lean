/-- java/lang/String.length -/
def mQ_length (R : Room) : xw_M := (⟨"java/lang/String", "length", "()I"⟩, prog_24_method_54_code, 1, (some (.int)), R, [])
theorem dQ_length_0 : xw_D prog_24_method_54_code 0 (.aload_n 0) 1 1 := ⟨by decide +kernel, rfl⟩
theorem dQ_length_1 : xw_D prog_24_method_54_code 1 (.getfield 9) 3 4 := ⟨by decide +kernel, rfl⟩
theorem dQ_length_4 : xw_D prog_24_method_54_code 4 (.arraylength) 1 5 := ⟨by decide +kernel, rfl⟩
theorem dQ_length_5 : xw_D prog_24_method_54_code 5 (.aload_n 0) 1 6 := ⟨by decide +kernel, rfl⟩
theorem dQ_length_6 : xw_D prog_24_method_54_code 6 (.invokevirtual 335) 3 9 := ⟨by decide +kernel, rfl⟩
theorem dQ_length_9 : xw_D prog_24_method_54_code 9 (.ishr) 1 10 := ⟨by decide +kernel, rfl⟩
theorem dQ_length_10 : xw_D prog_24_method_54_code 10 (.ireturn) 1 11 := ⟨by decide +kernel, rfl⟩
/-- java/lang/String.coder -/
def mQ_coder (R : Room) : xw_M := (⟨"java/lang/String", "coder", "()B"⟩, prog_24_method_152_code, 1, (some (.byte)), R, [])
theorem dQ_coder_0 : xw_D prog_24_method_152_code 0 (.getstatic 38) 3 3 := ⟨by decide +kernel, rfl⟩
theorem dQ_coder_3 : xw_D prog_24_method_152_code 3 (.ifCond .eq 10) 3 6 := ⟨by decide +kernel, rfl⟩
theorem dQ_coder_6 : xw_D prog_24_method_152_code 6 (.aload_n 0) 1 7 := ⟨by decide +kernel, rfl⟩
theorem dQ_coder_7 : xw_D prog_24_method_152_code 7 (.getfield 15) 3 10 := ⟨by decide +kernel, rfl⟩
theorem dQ_coder_10 : xw_D prog_24_method_152_code 10 (.goto 4) 3 13 := ⟨by decide +kernel, rfl⟩
theorem dQ_coder_13 : xw_D prog_24_method_152_code 13 (.iconst 1) 1 14 := ⟨by decide +kernel, rfl⟩
theorem dQ_coder_14 : xw_D prog_24_method_152_code 14 (.ireturn) 1 15 := ⟨by decide +kernel, rfl⟩
/-- java/lang/String.charAt -/
def mQ_charAt (R : Room) : xw_M := (⟨"java/lang/String", "charAt", "(I)C"⟩, prog_24_method_56_code, 2, (some (.char)), R, [])
theorem dQ_charAt_0 : xw_D prog_24_method_56_code 0 (.aload_n 0) 1 1 := ⟨by decide +kernel, rfl⟩
theorem dQ_charAt_1 : xw_D prog_24_method_56_code 1 (.invokevirtual 492) 3 4 := ⟨by decide +kernel, rfl⟩
theorem dQ_charAt_4 : xw_D prog_24_method_56_code 4 (.ifCond .eq 12) 3 7 := ⟨by decide +kernel, rfl⟩
theorem dQ_charAt_7 : xw_D prog_24_method_56_code 7 (.aload_n 0) 1 8 := ⟨by decide +kernel, rfl⟩
theorem dQ_charAt_8 : xw_D prog_24_method_56_code 8 (.getfield 9) 3 11 := ⟨by decide +kernel, rfl⟩
theorem dQ_charAt_11 : xw_D prog_24_method_56_code 11 (.iload_n 1) 1 12 := ⟨by decide +kernel, rfl⟩
theorem dQ_charAt_12 : xw_D prog_24_method_56_code 12 (.invokestatic 495) 3 15 := ⟨by decide +kernel, rfl⟩
theorem dQ_charAt_15 : xw_D prog_24_method_56_code 15 (.ireturn) 1 16 := ⟨by decide +kernel, rfl⟩
theorem dQ_charAt_16 : xw_D prog_24_method_56_code 16 (.aload_n 0) 1 17 := ⟨by decide +kernel, rfl⟩
theorem dQ_charAt_17 : xw_D prog_24_method_56_code 17 (.getfield 9) 3 20 := ⟨by decide +kernel, rfl⟩
theorem dQ_charAt_20 : xw_D prog_24_method_56_code 20 (.iload_n 1) 1 21 := ⟨by decide +kernel, rfl⟩
theorem dQ_charAt_21 : xw_D prog_24_method_56_code 21 (.invokestatic 498) 3 24 := ⟨by decide +kernel, rfl⟩
theorem dQ_charAt_24 : xw_D prog_24_method_56_code 24 (.ireturn) 1 25 := ⟨by decide +kernel, rfl⟩
/-- java/lang/String.isLatin1 -/
def mQ_isLatin1 (R : Room) : xw_M := (⟨"java/lang/String", "isLatin1", "()Z"⟩, prog_24_method_154_code, 1, (some (.boolean)), R, [])
theorem dQ_isLatin1_0 : xw_D prog_24_method_154_code 0 (.getstatic 38) 3 3 := ⟨by decide +kernel, rfl⟩
theorem dQ_isLatin1_3 : xw_D prog_24_method_154_code 3 (.ifCond .eq 14) 3 6 := ⟨by decide +kernel, rfl⟩
theorem dQ_isLatin1_6 : xw_D prog_24_method_154_code 6 (.aload_n 0) 1 7 := ⟨by decide +kernel, rfl⟩
theorem dQ_isLatin1_7 : xw_D prog_24_method_154_code 7 (.getfield 15) 3 10 := ⟨by decide +kernel, rfl⟩
theorem dQ_isLatin1_10 : xw_D prog_24_method_154_code 10 (.ifCond .ne 7) 3 13 := ⟨by decide +kernel, rfl⟩
theorem dQ_isLatin1_13 : xw_D prog_24_method_154_code 13 (.iconst 1) 1 14 := ⟨by decide +kernel, rfl⟩
theorem dQ_isLatin1_14 : xw_D prog_24_method_154_code 14 (.goto 4) 3 17 := ⟨by decide +kernel, rfl⟩
theorem dQ_isLatin1_17 : xw_D prog_24_method_154_code 17 (.iconst 0) 1 18 := ⟨by decide +kernel, rfl⟩
theorem dQ_isLatin1_18 : xw_D prog_24_method_154_code 18 (.ireturn) 1 19 := ⟨by decide +kernel, rfl⟩
/-- java/lang/StringLatin1.charAt -/
def mZ_charAt (R : Room) : xw_M := (⟨"java/lang/StringLatin1", "charAt", "([BI)C"⟩, prog_25_method_2_code, 2, (some (.char)), R, [])
theorem dZ_charAt_0 : xw_D prog_25_method_2_code 0 (.iload_n 1) 1 1 := ⟨by decide +kernel, rfl⟩
theorem dZ_charAt_1 : xw_D prog_25_method_2_code 1 (.aload_n 0) 1 2 := ⟨by decide +kernel, rfl⟩
theorem dZ_charAt_2 : xw_D prog_25_method_2_code 2 (.arraylength) 1 3 := ⟨by decide +kernel, rfl⟩
theorem dZ_charAt_3 : xw_D prog_25_method_2_code 3 (.invokestatic 9) 3 6 := ⟨by decide +kernel, rfl⟩
theorem dZ_charAt_6 : xw_D prog_25_method_2_code 6 (.aload_n 0) 1 7 := ⟨by decide +kernel, rfl⟩
theorem dZ_charAt_7 : xw_D prog_25_method_2_code 7 (.iload_n 1) 1 8 := ⟨by decide +kernel, rfl⟩
theorem dZ_charAt_8 : xw_D prog_25_method_2_code 8 (.baload) 1 9 := ⟨by decide +kernel, rfl⟩
theorem dZ_charAt_9 : xw_D prog_25_method_2_code 9 (.sipush 255) 3 12 := ⟨by decide +kernel, rfl⟩
theorem dZ_charAt_12 : xw_D prog_25_method_2_code 12 (.iand) 1 13 := ⟨by decide +kernel, rfl⟩
theorem dZ_charAt_13 : xw_D prog_25_method_2_code 13 (.i2c) 1 14 := ⟨by decide +kernel, rfl⟩
theorem dZ_charAt_14 : xw_D prog_25_method_2_code 14 (.ireturn) 1 15 := ⟨by decide +kernel, rfl⟩
/-- java/lang/String.checkIndex -/
def mQ_checkIndex (R : Room) : xw_M := (⟨"java/lang/String", "checkIndex", "(II)V"⟩, prog_24_method_155_code, 2, none, R, [])
theorem dQ_checkIndex_0 : xw_D prog_24_method_155_code 0 (.iload_n 0) 1 1 := ⟨by decide +kernel, rfl⟩
theorem dQ_checkIndex_1 : xw_D prog_24_method_155_code 1 (.iload_n 1) 1 2 := ⟨by decide +kernel, rfl⟩
theorem dQ_checkIndex_2 : xw_D prog_24_method_155_code 2 (.getstatic 1053) 3 5 := ⟨by decide +kernel, rfl⟩
theorem dQ_checkIndex_5 : xw_D prog_24_method_155_code 5 (.invokestatic 1059) 3 8 := ⟨by decide +kernel, rfl⟩
theorem dQ_checkIndex_8 : xw_D prog_24_method_155_code 8 (.pop) 1 9 := ⟨by decide +kernel, rfl⟩
theorem dQ_checkIndex_9 : xw_D prog_24_method_155_code 9 (.return_) 1 10 := ⟨by decide +kernel, rfl⟩
/-- jdk/internal/util/Preconditions.checkIndex -/
def mK_checkIndex (R : Room) : xw_M := (⟨"jdk/internal/util/Preconditions", "checkIndex", "(IILjava/util/function/BiFunction;)I"⟩, prog_30_method_11_code, 3, (some (.int)), R, [])
theorem dK_checkIndex_0 : xw_D prog_30_method_11_code 0 (.iload_n 0) 1 1 := ⟨by decide +kernel, rfl⟩
theorem dK_checkIndex_1 : xw_D prog_30_method_11_code 1 (.ifCond .lt 8) 3 4 := ⟨by decide +kernel, rfl⟩
theorem dK_checkIndex_4 : xw_D prog_30_method_11_code 4 (.iload_n 0) 1 5 := ⟨by decide +kernel, rfl⟩
theorem dK_checkIndex_5 : xw_D prog_30_method_11_code 5 (.iload_n 1) 1 6 := ⟨by decide +kernel, rfl⟩
theorem dK_checkIndex_6 : xw_D prog_30_method_11_code 6 (.if_icmp .lt 10) 3 9 := ⟨by decide +kernel, rfl⟩
theorem dK_checkIndex_9 : xw_D prog_30_method_11_code 9 (.aload_n 2) 1 10 := ⟨by decide +kernel, rfl⟩
theorem dK_checkIndex_10 : xw_D prog_30_method_11_code 10 (.iload_n 0) 1 11 := ⟨by decide +kernel, rfl⟩
theorem dK_checkIndex_11 : xw_D prog_30_method_11_code 11 (.iload_n 1) 1 12 := ⟨by decide +kernel, rfl⟩
theorem dK_checkIndex_12 : xw_D prog_30_method_11_code 12 (.invokestatic 95) 3 15 := ⟨by decide +kernel, rfl⟩
theorem dK_checkIndex_15 : xw_D prog_30_method_11_code 15 (.athrow) 1 16 := ⟨by decide +kernel, rfl⟩
theorem dK_checkIndex_16 : xw_D prog_30_method_11_code 16 (.iload_n 0) 1 17 := ⟨by decide +kernel, rfl⟩
theorem dK_checkIndex_17 : xw_D prog_30_method_11_code 17 (.ireturn) 1 18 := ⟨by decide +kernel, rfl⟩
theorem kQ_335 (R : Room) : xw_KV "java/lang/String" 335 (mQ_coder R) 0 := ⟨⟨rfl, tw_330, tw_6, tw_333, (show (("java/lang/String" : String) ≠ "java/lang/invoke/MethodHandle" ∧ ("java/lang/String" : String) ≠ "java/lang/invoke/VarHandle") by decide), (show (parseMethodDescriptor "()B").map (fun d => d.parameters.length) = some 0 by decide +kernel)⟩, tw_331, tw_332⟩
theorem kQ_492 (R : Room) : xw_KV "java/lang/String" 492 (mQ_isLatin1 R) 0 := ⟨⟨rfl, tw_340, tw_6, tw_343, (show (("java/lang/String" : String) ≠ "java/lang/invoke/MethodHandle" ∧ ("java/lang/String" : String) ≠ "java/lang/invoke/VarHandle") by decide), (show (parseMethodDescriptor "()Z").map (fun d => d.parameters.length) = some 0 by decide +kernel)⟩, tw_341, tw_342⟩
theorem kQ_495 (R : Room) : xw_KS "java/lang/String" 495 (mZ_charAt R) 2 := ⟨⟨rfl, tw_344, tw_7, tw_346, (show (("java/lang/StringLatin1" : String) ≠ "java/lang/invoke/MethodHandle" ∧ ("java/lang/StringLatin1" : String) ≠ "java/lang/invoke/VarHandle") by decide), (show (parseMethodDescriptor "([BI)C").map (fun d => d.parameters.length) = some 2 by decide +kernel)⟩, tw_345⟩
theorem kZ_9 (R : Room) : xw_KS "java/lang/StringLatin1" 9 (mQ_checkIndex R) 2 := ⟨⟨rfl, tw_347, tw_6, tw_349, (show (("java/lang/String" : String) ≠ "java/lang/invoke/MethodHandle" ∧ ("java/lang/String" : String) ≠ "java/lang/invoke/VarHandle") by decide), (show (parseMethodDescriptor "(II)V").map (fun d => d.parameters.length) = some 2 by decide +kernel)⟩, tw_348⟩
theorem kQ_1059 (R : Room) : xw_KS "java/lang/String" 1059 (mK_checkIndex R) 3 := ⟨⟨rfl, tw_352, tw_8, tw_354, (show (("jdk/internal/util/Preconditions" : String) ≠ "java/lang/invoke/MethodHandle" ∧ ("jdk/internal/util/Preconditions" : String) ≠ "java/lang/invoke/VarHandle") by decide), (show (parseMethodDescriptor "(IILjava/util/function/BiFunction;)I").map (fun d => d.parameters.length) = some 3 by decide +kernel)⟩, tw_353⟩
