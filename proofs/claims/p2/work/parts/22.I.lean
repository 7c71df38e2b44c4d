/-- java/lang/String.indexOf -/
def mQ_indexOf_II (R : Room) : xw_M := (⟨"java/lang/String", "indexOf", "(I)I"⟩, prog_24_method_79_code, 2, (some (.int)), R, [])
theorem dQ_indexOf_II_0 : xw_D prog_24_method_79_code 0 (.aload_n 0) 1 1 := ⟨by decide +kernel, rfl⟩
theorem dQ_indexOf_II_1 : xw_D prog_24_method_79_code 1 (.iload_n 1) 1 2 := ⟨by decide +kernel, rfl⟩
theorem dQ_indexOf_II_2 : xw_D prog_24_method_79_code 2 (.iconst 0) 1 3 := ⟨by decide +kernel, rfl⟩
theorem dQ_indexOf_II_3 : xw_D prog_24_method_79_code 3 (.invokevirtual 633) 3 6 := ⟨by decide +kernel, rfl⟩
theorem dQ_indexOf_II_6 : xw_D prog_24_method_79_code 6 (.ireturn) 1 7 := ⟨by decide +kernel, rfl⟩
/-- java/lang/String.indexOf -/
def mQ_indexOf_III (R : Room) : xw_M := (⟨"java/lang/String", "indexOf", "(II)I"⟩, prog_24_method_80_code, 3, (some (.int)), R, [])
theorem dQ_indexOf_III_0 : xw_D prog_24_method_80_code 0 (.aload_n 0) 1 1 := ⟨by decide +kernel, rfl⟩
theorem dQ_indexOf_III_1 : xw_D prog_24_method_80_code 1 (.invokevirtual 492) 3 4 := ⟨by decide +kernel, rfl⟩
theorem dQ_indexOf_III_4 : xw_D prog_24_method_80_code 4 (.ifCond .eq 19) 3 7 := ⟨by decide +kernel, rfl⟩
theorem dQ_indexOf_III_7 : xw_D prog_24_method_80_code 7 (.aload_n 0) 1 8 := ⟨by decide +kernel, rfl⟩
theorem dQ_indexOf_III_8 : xw_D prog_24_method_80_code 8 (.getfield 9) 3 11 := ⟨by decide +kernel, rfl⟩
theorem dQ_indexOf_III_11 : xw_D prog_24_method_80_code 11 (.iload_n 1) 1 12 := ⟨by decide +kernel, rfl⟩
theorem dQ_indexOf_III_12 : xw_D prog_24_method_80_code 12 (.iload_n 2) 1 13 := ⟨by decide +kernel, rfl⟩
theorem dQ_indexOf_III_13 : xw_D prog_24_method_80_code 13 (.aload_n 0) 1 14 := ⟨by decide +kernel, rfl⟩
theorem dQ_indexOf_III_14 : xw_D prog_24_method_80_code 14 (.invokevirtual 505) 3 17 := ⟨by decide +kernel, rfl⟩
theorem dQ_indexOf_III_17 : xw_D prog_24_method_80_code 17 (.invokestatic 637) 3 20 := ⟨by decide +kernel, rfl⟩
theorem dQ_indexOf_III_20 : xw_D prog_24_method_80_code 20 (.goto 16) 3 23 := ⟨by decide +kernel, rfl⟩
theorem dQ_indexOf_III_23 : xw_D prog_24_method_80_code 23 (.aload_n 0) 1 24 := ⟨by decide +kernel, rfl⟩
theorem dQ_indexOf_III_24 : xw_D prog_24_method_80_code 24 (.getfield 9) 3 27 := ⟨by decide +kernel, rfl⟩
theorem dQ_indexOf_III_27 : xw_D prog_24_method_80_code 27 (.iload_n 1) 1 28 := ⟨by decide +kernel, rfl⟩
theorem dQ_indexOf_III_28 : xw_D prog_24_method_80_code 28 (.iload_n 2) 1 29 := ⟨by decide +kernel, rfl⟩
theorem dQ_indexOf_III_29 : xw_D prog_24_method_80_code 29 (.aload_n 0) 1 30 := ⟨by decide +kernel, rfl⟩
theorem dQ_indexOf_III_30 : xw_D prog_24_method_80_code 30 (.invokevirtual 505) 3 33 := ⟨by decide +kernel, rfl⟩
theorem dQ_indexOf_III_33 : xw_D prog_24_method_80_code 33 (.invokestatic 640) 3 36 := ⟨by decide +kernel, rfl⟩
theorem dQ_indexOf_III_36 : xw_D prog_24_method_80_code 36 (.ireturn) 1 37 := ⟨by decide +kernel, rfl⟩
/-- java/lang/StringLatin1.indexOf -/
def mZ_indexOf (R : Room) : xw_M := (⟨"java/lang/StringLatin1", "indexOf", "([BIII)I"⟩, prog_25_method_22_code, 4, (some (.int)), R, [])
theorem dZ_indexOf_0 : xw_D prog_25_method_22_code 0 (.iload_n 1) 1 1 := ⟨by decide +kernel, rfl⟩
theorem dZ_indexOf_1 : xw_D prog_25_method_22_code 1 (.invokestatic 88) 3 4 := ⟨by decide +kernel, rfl⟩
theorem dZ_indexOf_4 : xw_D prog_25_method_22_code 4 (.ifCond .ne 5) 3 7 := ⟨by decide +kernel, rfl⟩
theorem dZ_indexOf_7 : xw_D prog_25_method_22_code 7 (.iconst (-1)) 1 8 := ⟨by decide +kernel, rfl⟩
theorem dZ_indexOf_8 : xw_D prog_25_method_22_code 8 (.ireturn) 1 9 := ⟨by decide +kernel, rfl⟩
theorem dZ_indexOf_9 : xw_D prog_25_method_22_code 9 (.iload_n 2) 1 10 := ⟨by decide +kernel, rfl⟩
theorem dZ_indexOf_10 : xw_D prog_25_method_22_code 10 (.iconst 0) 1 11 := ⟨by decide +kernel, rfl⟩
theorem dZ_indexOf_11 : xw_D prog_25_method_22_code 11 (.invokestatic 92) 3 14 := ⟨by decide +kernel, rfl⟩
theorem dZ_indexOf_14 : xw_D prog_25_method_22_code 14 (.istore_n 2) 1 15 := ⟨by decide +kernel, rfl⟩
theorem dZ_indexOf_15 : xw_D prog_25_method_22_code 15 (.iload_n 3) 1 16 := ⟨by decide +kernel, rfl⟩
theorem dZ_indexOf_16 : xw_D prog_25_method_22_code 16 (.aload_n 0) 1 17 := ⟨by decide +kernel, rfl⟩
theorem dZ_indexOf_17 : xw_D prog_25_method_22_code 17 (.arraylength) 1 18 := ⟨by decide +kernel, rfl⟩
theorem dZ_indexOf_18 : xw_D prog_25_method_22_code 18 (.invokestatic 38) 3 21 := ⟨by decide +kernel, rfl⟩
theorem dZ_indexOf_21 : xw_D prog_25_method_22_code 21 (.istore_n 3) 1 22 := ⟨by decide +kernel, rfl⟩
theorem dZ_indexOf_22 : xw_D prog_25_method_22_code 22 (.iload_n 2) 1 23 := ⟨by decide +kernel, rfl⟩
theorem dZ_indexOf_23 : xw_D prog_25_method_22_code 23 (.iload_n 3) 1 24 := ⟨by decide +kernel, rfl⟩
theorem dZ_indexOf_24 : xw_D prog_25_method_22_code 24 (.if_icmp .lt 5) 3 27 := ⟨by decide +kernel, rfl⟩
theorem dZ_indexOf_27 : xw_D prog_25_method_22_code 27 (.iconst (-1)) 1 28 := ⟨by decide +kernel, rfl⟩
theorem dZ_indexOf_28 : xw_D prog_25_method_22_code 28 (.ireturn) 1 29 := ⟨by decide +kernel, rfl⟩
theorem dZ_indexOf_29 : xw_D prog_25_method_22_code 29 (.aload_n 0) 1 30 := ⟨by decide +kernel, rfl⟩
theorem dZ_indexOf_30 : xw_D prog_25_method_22_code 30 (.iload_n 1) 1 31 := ⟨by decide +kernel, rfl⟩
theorem dZ_indexOf_31 : xw_D prog_25_method_22_code 31 (.iload_n 2) 1 32 := ⟨by decide +kernel, rfl⟩
theorem dZ_indexOf_32 : xw_D prog_25_method_22_code 32 (.iload_n 3) 1 33 := ⟨by decide +kernel, rfl⟩
theorem dZ_indexOf_33 : xw_D prog_25_method_22_code 33 (.invokestatic 95) 3 36 := ⟨by decide +kernel, rfl⟩
theorem dZ_indexOf_36 : xw_D prog_25_method_22_code 36 (.ireturn) 1 37 := ⟨by decide +kernel, rfl⟩
/-- java/lang/StringLatin1.indexOfChar -/
def mZ_indexOfChar (R : Room) : xw_M := (⟨"java/lang/StringLatin1", "indexOfChar", "([BIII)I"⟩, prog_25_method_23_code, 6, (some (.int)), R, [])
theorem dZ_indexOfChar_0 : xw_D prog_25_method_23_code 0 (.iload_n 1) 1 1 := ⟨by decide +kernel, rfl⟩
theorem dZ_indexOfChar_1 : xw_D prog_25_method_23_code 1 (.i2b) 1 2 := ⟨by decide +kernel, rfl⟩
theorem dZ_indexOfChar_2 : xw_D prog_25_method_23_code 2 (.istore 4) 2 4 := ⟨by decide +kernel, rfl⟩
theorem dZ_indexOfChar_4 : xw_D prog_25_method_23_code 4 (.iload_n 2) 1 5 := ⟨by decide +kernel, rfl⟩
theorem dZ_indexOfChar_5 : xw_D prog_25_method_23_code 5 (.istore 5) 2 7 := ⟨by decide +kernel, rfl⟩
theorem dZ_indexOfChar_7 : xw_D prog_25_method_23_code 7 (.iload 5) 2 9 := ⟨by decide +kernel, rfl⟩
theorem dZ_indexOfChar_9 : xw_D prog_25_method_23_code 9 (.iload_n 3) 1 10 := ⟨by decide +kernel, rfl⟩
theorem dZ_indexOfChar_10 : xw_D prog_25_method_23_code 10 (.if_icmp .ge 21) 3 13 := ⟨by decide +kernel, rfl⟩
theorem dZ_indexOfChar_13 : xw_D prog_25_method_23_code 13 (.aload_n 0) 1 14 := ⟨by decide +kernel, rfl⟩
theorem dZ_indexOfChar_14 : xw_D prog_25_method_23_code 14 (.iload 5) 2 16 := ⟨by decide +kernel, rfl⟩
theorem dZ_indexOfChar_16 : xw_D prog_25_method_23_code 16 (.baload) 1 17 := ⟨by decide +kernel, rfl⟩
theorem dZ_indexOfChar_17 : xw_D prog_25_method_23_code 17 (.iload 4) 2 19 := ⟨by decide +kernel, rfl⟩
theorem dZ_indexOfChar_19 : xw_D prog_25_method_23_code 19 (.if_icmp .ne 6) 3 22 := ⟨by decide +kernel, rfl⟩
theorem dZ_indexOfChar_22 : xw_D prog_25_method_23_code 22 (.iload 5) 2 24 := ⟨by decide +kernel, rfl⟩
theorem dZ_indexOfChar_24 : xw_D prog_25_method_23_code 24 (.ireturn) 1 25 := ⟨by decide +kernel, rfl⟩
theorem dZ_indexOfChar_25 : xw_D prog_25_method_23_code 25 (.iinc 5 1) 3 28 := ⟨by decide +kernel, rfl⟩
theorem dZ_indexOfChar_28 : xw_D prog_25_method_23_code 28 (.goto (-21)) 3 31 := ⟨by decide +kernel, rfl⟩
theorem dZ_indexOfChar_31 : xw_D prog_25_method_23_code 31 (.iconst (-1)) 1 32 := ⟨by decide +kernel, rfl⟩
theorem dZ_indexOfChar_32 : xw_D prog_25_method_23_code 32 (.ireturn) 1 33 := ⟨by decide +kernel, rfl⟩
theorem kQ_633 (R : Room) : xw_KV "java/lang/String" 633 (mQ_indexOf_III R) 2 := ⟨⟨rfl, tw_476, tw_6, tw_479, (show (("java/lang/String" : String) ≠ "java/lang/invoke/MethodHandle" ∧ ("java/lang/String" : String) ≠ "java/lang/invoke/VarHandle") by decide), (show (parseMethodDescriptor "(II)I").map (fun d => d.parameters.length) = some 2 by decide +kernel)⟩, tw_477, tw_478⟩
theorem kQ_505 (R : Room) : xw_KV "java/lang/String" 505 (mQ_length R) 0 := ⟨⟨rfl, tw_480, tw_6, tw_329, (show (("java/lang/String" : String) ≠ "java/lang/invoke/MethodHandle" ∧ ("java/lang/String" : String) ≠ "java/lang/invoke/VarHandle") by decide), (show (parseMethodDescriptor "()I").map (fun d => d.parameters.length) = some 0 by decide +kernel)⟩, tw_327, tw_328⟩
theorem kQ_637 (R : Room) : xw_KS "java/lang/String" 637 (mZ_indexOf R) 4 := ⟨⟨rfl, tw_481, tw_7, tw_483, (show (("java/lang/StringLatin1" : String) ≠ "java/lang/invoke/MethodHandle" ∧ ("java/lang/StringLatin1" : String) ≠ "java/lang/invoke/VarHandle") by decide), (show (parseMethodDescriptor "([BIII)I").map (fun d => d.parameters.length) = some 4 by decide +kernel)⟩, tw_482⟩
theorem kZ_88 (R : Room) : xw_KS "java/lang/StringLatin1" 88 (mZ_canEncode R) 1 := ⟨⟨rfl, tw_484, tw_7, tw_486, (show (("java/lang/StringLatin1" : String) ≠ "java/lang/invoke/MethodHandle" ∧ ("java/lang/StringLatin1" : String) ≠ "java/lang/invoke/VarHandle") by decide), (show (parseMethodDescriptor "(I)Z").map (fun d => d.parameters.length) = some 1 by decide +kernel)⟩, tw_485⟩
theorem kZ_95 (R : Room) : xw_KS "java/lang/StringLatin1" 95 (mZ_indexOfChar R) 4 := ⟨⟨rfl, tw_493, tw_7, tw_495, (show (("java/lang/StringLatin1" : String) ≠ "java/lang/invoke/MethodHandle" ∧ ("java/lang/StringLatin1" : String) ≠ "java/lang/invoke/VarHandle") by decide), (show (parseMethodDescriptor "([BIII)I").map (fun d => d.parameters.length) = some 4 by decide +kernel)⟩, tw_494⟩
