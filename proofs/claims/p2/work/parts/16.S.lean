/-- FormulaShaper.<init> -/
def mS_init (R : Room) : xw_M := (⟨"FormulaShaper", "<init>", "()V"⟩, prog_1_method_1_code, 1, none, R, [])
theorem dS_init_0 : xw_D prog_1_method_1_code 0 (.aload_n 0) 1 1 := ⟨by decide +kernel, rfl⟩
theorem dS_init_1 : xw_D prog_1_method_1_code 1 (.invokespecial 1) 3 4 := ⟨by decide +kernel, rfl⟩
theorem dS_init_4 : xw_D prog_1_method_1_code 4 (.aload_n 0) 1 5 := ⟨by decide +kernel, rfl⟩
theorem dS_init_5 : xw_D prog_1_method_1_code 5 (.new 7) 3 8 := ⟨by decide +kernel, rfl⟩
theorem dS_init_8 : xw_D prog_1_method_1_code 8 (.dup) 1 9 := ⟨by decide +kernel, rfl⟩
theorem dS_init_9 : xw_D prog_1_method_1_code 9 (.invokespecial 9) 3 12 := ⟨by decide +kernel, rfl⟩
theorem dS_init_12 : xw_D prog_1_method_1_code 12 (.putfield 10) 3 15 := ⟨by decide +kernel, rfl⟩
theorem dS_init_15 : xw_D prog_1_method_1_code 15 (.aload_n 0) 1 16 := ⟨by decide +kernel, rfl⟩
theorem dS_init_16 : xw_D prog_1_method_1_code 16 (.new 7) 3 19 := ⟨by decide +kernel, rfl⟩
theorem dS_init_19 : xw_D prog_1_method_1_code 19 (.dup) 1 20 := ⟨by decide +kernel, rfl⟩
theorem dS_init_20 : xw_D prog_1_method_1_code 20 (.invokespecial 9) 3 23 := ⟨by decide +kernel, rfl⟩
theorem dS_init_23 : xw_D prog_1_method_1_code 23 (.putfield 16) 3 26 := ⟨by decide +kernel, rfl⟩
theorem dS_init_26 : xw_D prog_1_method_1_code 26 (.aload_n 0) 1 27 := ⟨by decide +kernel, rfl⟩
theorem dS_init_27 : xw_D prog_1_method_1_code 27 (.new 19) 3 30 := ⟨by decide +kernel, rfl⟩
theorem dS_init_30 : xw_D prog_1_method_1_code 30 (.dup) 1 31 := ⟨by decide +kernel, rfl⟩
theorem dS_init_31 : xw_D prog_1_method_1_code 31 (.invokespecial 21) 3 34 := ⟨by decide +kernel, rfl⟩
theorem dS_init_34 : xw_D prog_1_method_1_code 34 (.putfield 22) 3 37 := ⟨by decide +kernel, rfl⟩
theorem dS_init_37 : xw_D prog_1_method_1_code 37 (.aload_n 0) 1 38 := ⟨by decide +kernel, rfl⟩
theorem dS_init_38 : xw_D prog_1_method_1_code 38 (.new 26) 3 41 := ⟨by decide +kernel, rfl⟩
theorem dS_init_41 : xw_D prog_1_method_1_code 41 (.dup) 1 42 := ⟨by decide +kernel, rfl⟩
theorem dS_init_42 : xw_D prog_1_method_1_code 42 (.invokespecial 28) 3 45 := ⟨by decide +kernel, rfl⟩
theorem dS_init_45 : xw_D prog_1_method_1_code 45 (.putfield 29) 3 48 := ⟨by decide +kernel, rfl⟩
theorem dS_init_48 : xw_D prog_1_method_1_code 48 (.aload_n 0) 1 49 := ⟨by decide +kernel, rfl⟩
theorem dS_init_49 : xw_D prog_1_method_1_code 49 (.new 26) 3 52 := ⟨by decide +kernel, rfl⟩
theorem dS_init_52 : xw_D prog_1_method_1_code 52 (.dup) 1 53 := ⟨by decide +kernel, rfl⟩
theorem dS_init_53 : xw_D prog_1_method_1_code 53 (.invokespecial 28) 3 56 := ⟨by decide +kernel, rfl⟩
theorem dS_init_56 : xw_D prog_1_method_1_code 56 (.putfield 33) 3 59 := ⟨by decide +kernel, rfl⟩
theorem dS_init_59 : xw_D prog_1_method_1_code 59 (.aload_n 0) 1 60 := ⟨by decide +kernel, rfl⟩
theorem dS_init_60 : xw_D prog_1_method_1_code 60 (.iconst 0) 1 61 := ⟨by decide +kernel, rfl⟩
theorem dS_init_61 : xw_D prog_1_method_1_code 61 (.putfield 36) 3 64 := ⟨by decide +kernel, rfl⟩
theorem dS_init_64 : xw_D prog_1_method_1_code 64 (.aload_n 0) 1 65 := ⟨by decide +kernel, rfl⟩
theorem dS_init_65 : xw_D prog_1_method_1_code 65 (.iconst (-1)) 1 66 := ⟨by decide +kernel, rfl⟩
theorem dS_init_66 : xw_D prog_1_method_1_code 66 (.putfield 40) 3 69 := ⟨by decide +kernel, rfl⟩
theorem dS_init_69 : xw_D prog_1_method_1_code 69 (.return_) 1 70 := ⟨by decide +kernel, rfl⟩
/-- FormulaShaper.feed -/
def mS_feed (R : Room) : xw_M := (⟨"FormulaShaper", "feed", "(IIIII)I"⟩, prog_1_method_2_code, 6, (some (.int)), R, [])
theorem dS_feed_0 : xw_D prog_1_method_2_code 0 (.aload_n 0) 1 1 := ⟨by decide +kernel, rfl⟩
theorem dS_feed_1 : xw_D prog_1_method_2_code 1 (.getfield 10) 3 4 := ⟨by decide +kernel, rfl⟩
theorem dS_feed_4 : xw_D prog_1_method_2_code 4 (.invokevirtual 44) 3 7 := ⟨by decide +kernel, rfl⟩
theorem dS_feed_7 : xw_D prog_1_method_2_code 7 (.bipush 20) 2 9 := ⟨by decide +kernel, rfl⟩
theorem dS_feed_9 : xw_D prog_1_method_2_code 9 (.iadd) 1 10 := ⟨by decide +kernel, rfl⟩
theorem dS_feed_10 : xw_D prog_1_method_2_code 10 (.sipush 2000) 3 13 := ⟨by decide +kernel, rfl⟩
theorem dS_feed_13 : xw_D prog_1_method_2_code 13 (.if_icmp .le 11) 3 16 := ⟨by decide +kernel, rfl⟩
theorem dS_feed_16 : xw_D prog_1_method_2_code 16 (.new 48) 3 19 := ⟨by decide +kernel, rfl⟩
theorem dS_feed_19 : xw_D prog_1_method_2_code 19 (.dup) 1 20 := ⟨by decide +kernel, rfl⟩
theorem dS_feed_20 : xw_D prog_1_method_2_code 20 (.invokespecial 50) 3 23 := ⟨by decide +kernel, rfl⟩
theorem dS_feed_23 : xw_D prog_1_method_2_code 23 (.athrow) 1 24 := ⟨by decide +kernel, rfl⟩
theorem dS_feed_24 : xw_D prog_1_method_2_code 24 (.aload_n 0) 1 25 := ⟨by decide +kernel, rfl⟩
theorem dS_feed_25 : xw_D prog_1_method_2_code 25 (.getfield 10) 3 28 := ⟨by decide +kernel, rfl⟩
theorem dS_feed_28 : xw_D prog_1_method_2_code 28 (.iload_n 1) 1 29 := ⟨by decide +kernel, rfl⟩
theorem dS_feed_29 : xw_D prog_1_method_2_code 29 (.invokevirtual 51) 3 32 := ⟨by decide +kernel, rfl⟩
theorem dS_feed_32 : xw_D prog_1_method_2_code 32 (.aload_n 0) 1 33 := ⟨by decide +kernel, rfl⟩
theorem dS_feed_33 : xw_D prog_1_method_2_code 33 (.getfield 10) 3 36 := ⟨by decide +kernel, rfl⟩
theorem dS_feed_36 : xw_D prog_1_method_2_code 36 (.iload_n 2) 1 37 := ⟨by decide +kernel, rfl⟩
theorem dS_feed_37 : xw_D prog_1_method_2_code 37 (.invokevirtual 51) 3 40 := ⟨by decide +kernel, rfl⟩
theorem dS_feed_40 : xw_D prog_1_method_2_code 40 (.aload_n 0) 1 41 := ⟨by decide +kernel, rfl⟩
theorem dS_feed_41 : xw_D prog_1_method_2_code 41 (.getfield 10) 3 44 := ⟨by decide +kernel, rfl⟩
theorem dS_feed_44 : xw_D prog_1_method_2_code 44 (.iload_n 3) 1 45 := ⟨by decide +kernel, rfl⟩
theorem dS_feed_45 : xw_D prog_1_method_2_code 45 (.invokevirtual 51) 3 48 := ⟨by decide +kernel, rfl⟩
theorem dS_feed_48 : xw_D prog_1_method_2_code 48 (.aload_n 0) 1 49 := ⟨by decide +kernel, rfl⟩
theorem dS_feed_49 : xw_D prog_1_method_2_code 49 (.getfield 10) 3 52 := ⟨by decide +kernel, rfl⟩
theorem dS_feed_52 : xw_D prog_1_method_2_code 52 (.iload 4) 2 54 := ⟨by decide +kernel, rfl⟩
theorem dS_feed_54 : xw_D prog_1_method_2_code 54 (.invokevirtual 51) 3 57 := ⟨by decide +kernel, rfl⟩
theorem dS_feed_57 : xw_D prog_1_method_2_code 57 (.aload_n 0) 1 58 := ⟨by decide +kernel, rfl⟩
theorem dS_feed_58 : xw_D prog_1_method_2_code 58 (.getfield 10) 3 61 := ⟨by decide +kernel, rfl⟩
theorem dS_feed_61 : xw_D prog_1_method_2_code 61 (.iload 5) 2 63 := ⟨by decide +kernel, rfl⟩
theorem dS_feed_63 : xw_D prog_1_method_2_code 63 (.invokevirtual 51) 3 66 := ⟨by decide +kernel, rfl⟩
theorem dS_feed_66 : xw_D prog_1_method_2_code 66 (.aload_n 0) 1 67 := ⟨by decide +kernel, rfl⟩
theorem dS_feed_67 : xw_D prog_1_method_2_code 67 (.getfield 10) 3 70 := ⟨by decide +kernel, rfl⟩
theorem dS_feed_70 : xw_D prog_1_method_2_code 70 (.invokevirtual 44) 3 73 := ⟨by decide +kernel, rfl⟩
theorem dS_feed_73 : xw_D prog_1_method_2_code 73 (.ireturn) 1 74 := ⟨by decide +kernel, rfl⟩
/-- FormulaShaper.end -/
def mS_end (R : Room) : xw_M := (⟨"FormulaShaper", "end", "(I)I"⟩, prog_1_method_3_code, 2, (some (.int)), R, [])
theorem dS_end_0 : xw_D prog_1_method_3_code 0 (.iload_n 1) 1 1 := ⟨by decide +kernel, rfl⟩
theorem dS_end_1 : xw_D prog_1_method_3_code 1 (.ifCond .lt 14) 3 4 := ⟨by decide +kernel, rfl⟩
theorem dS_end_4 : xw_D prog_1_method_3_code 4 (.iload_n 1) 1 5 := ⟨by decide +kernel, rfl⟩
theorem dS_end_5 : xw_D prog_1_method_3_code 5 (.aload_n 0) 1 6 := ⟨by decide +kernel, rfl⟩
theorem dS_end_6 : xw_D prog_1_method_3_code 6 (.getfield 10) 3 9 := ⟨by decide +kernel, rfl⟩
theorem dS_end_9 : xw_D prog_1_method_3_code 9 (.invokevirtual 44) 3 12 := ⟨by decide +kernel, rfl⟩
theorem dS_end_12 : xw_D prog_1_method_3_code 12 (.if_icmp .le 11) 3 15 := ⟨by decide +kernel, rfl⟩
theorem dS_end_15 : xw_D prog_1_method_3_code 15 (.new 55) 3 18 := ⟨by decide +kernel, rfl⟩
theorem dS_end_18 : xw_D prog_1_method_3_code 18 (.dup) 1 19 := ⟨by decide +kernel, rfl⟩
theorem dS_end_19 : xw_D prog_1_method_3_code 19 (.invokespecial 57) 3 22 := ⟨by decide +kernel, rfl⟩
theorem dS_end_22 : xw_D prog_1_method_3_code 22 (.athrow) 1 23 := ⟨by decide +kernel, rfl⟩
theorem dS_end_23 : xw_D prog_1_method_3_code 23 (.aload_n 0) 1 24 := ⟨by decide +kernel, rfl⟩
theorem dS_end_24 : xw_D prog_1_method_3_code 24 (.getfield 10) 3 27 := ⟨by decide +kernel, rfl⟩
theorem dS_end_27 : xw_D prog_1_method_3_code 27 (.iload_n 1) 1 28 := ⟨by decide +kernel, rfl⟩
theorem dS_end_28 : xw_D prog_1_method_3_code 28 (.invokevirtual 58) 3 31 := ⟨by decide +kernel, rfl⟩
theorem dS_end_31 : xw_D prog_1_method_3_code 31 (.iload_n 1) 1 32 := ⟨by decide +kernel, rfl⟩
theorem dS_end_32 : xw_D prog_1_method_3_code 32 (.ireturn) 1 33 := ⟨by decide +kernel, rfl⟩
/-- FormulaShaper.needFormula -/
def mS_needFormula (R : Room) : xw_M := (⟨"FormulaShaper", "needFormula", "()V"⟩, prog_1_method_14_code, 1, none, R, [])
theorem dS_needFormula_0 : xw_D prog_1_method_14_code 0 (.aload_n 0) 1 1 := ⟨by decide +kernel, rfl⟩
theorem dS_needFormula_1 : xw_D prog_1_method_14_code 1 (.getfield 36) 3 4 := ⟨by decide +kernel, rfl⟩
theorem dS_needFormula_4 : xw_D prog_1_method_14_code 4 (.ifCond .ne 11) 3 7 := ⟨by decide +kernel, rfl⟩
theorem dS_needFormula_7 : xw_D prog_1_method_14_code 7 (.new 151) 3 10 := ⟨by decide +kernel, rfl⟩
theorem dS_needFormula_10 : xw_D prog_1_method_14_code 10 (.dup) 1 11 := ⟨by decide +kernel, rfl⟩
theorem dS_needFormula_11 : xw_D prog_1_method_14_code 11 (.invokespecial 153) 3 14 := ⟨by decide +kernel, rfl⟩
theorem dS_needFormula_14 : xw_D prog_1_method_14_code 14 (.athrow) 1 15 := ⟨by decide +kernel, rfl⟩
theorem dS_needFormula_15 : xw_D prog_1_method_14_code 15 (.return_) 1 16 := ⟨by decide +kernel, rfl⟩
/-- FormulaShaper.count -/
def mS_count (R : Room) : xw_M := (⟨"FormulaShaper", "count", "(I)I"⟩, prog_1_method_11_code, 2, (some (.int)), R, [])
theorem dS_count_0 : xw_D prog_1_method_11_code 0 (.iload_n 1) 1 1 := ⟨by decide +kernel, rfl⟩
theorem dS_count_1 : xw_D prog_1_method_11_code 1 (.tableswitch 71 0 3 #[31, 39, 47, 52]) 31 32 := ⟨by decide +kernel, rfl⟩
theorem dS_count_32 : xw_D prog_1_method_11_code 32 (.aload_n 0) 1 33 := ⟨by decide +kernel, rfl⟩
theorem dS_count_33 : xw_D prog_1_method_11_code 33 (.getfield 10) 3 36 := ⟨by decide +kernel, rfl⟩
theorem dS_count_36 : xw_D prog_1_method_11_code 36 (.invokevirtual 44) 3 39 := ⟨by decide +kernel, rfl⟩
theorem dS_count_39 : xw_D prog_1_method_11_code 39 (.ireturn) 1 40 := ⟨by decide +kernel, rfl⟩
theorem dS_count_40 : xw_D prog_1_method_11_code 40 (.aload_n 0) 1 41 := ⟨by decide +kernel, rfl⟩
theorem dS_count_41 : xw_D prog_1_method_11_code 41 (.getfield 16) 3 44 := ⟨by decide +kernel, rfl⟩
theorem dS_count_44 : xw_D prog_1_method_11_code 44 (.invokevirtual 44) 3 47 := ⟨by decide +kernel, rfl⟩
theorem dS_count_47 : xw_D prog_1_method_11_code 47 (.ireturn) 1 48 := ⟨by decide +kernel, rfl⟩
theorem dS_count_48 : xw_D prog_1_method_11_code 48 (.aload_n 0) 1 49 := ⟨by decide +kernel, rfl⟩
theorem dS_count_49 : xw_D prog_1_method_11_code 49 (.getfield 40) 3 52 := ⟨by decide +kernel, rfl⟩
theorem dS_count_52 : xw_D prog_1_method_11_code 52 (.ireturn) 1 53 := ⟨by decide +kernel, rfl⟩
theorem dS_count_53 : xw_D prog_1_method_11_code 53 (.aload_n 0) 1 54 := ⟨by decide +kernel, rfl⟩
theorem dS_count_54 : xw_D prog_1_method_11_code 54 (.getfield 36) 3 57 := ⟨by decide +kernel, rfl⟩
theorem dS_count_57 : xw_D prog_1_method_11_code 57 (.ifCond .eq 13) 3 60 := ⟨by decide +kernel, rfl⟩
theorem dS_count_60 : xw_D prog_1_method_11_code 60 (.aload_n 0) 1 61 := ⟨by decide +kernel, rfl⟩
theorem dS_count_61 : xw_D prog_1_method_11_code 61 (.getfield 29) 3 64 := ⟨by decide +kernel, rfl⟩
theorem dS_count_64 : xw_D prog_1_method_11_code 64 (.invokevirtual 148) 3 67 := ⟨by decide +kernel, rfl⟩
theorem dS_count_67 : xw_D prog_1_method_11_code 67 (.goto 4) 3 70 := ⟨by decide +kernel, rfl⟩
theorem dS_count_70 : xw_D prog_1_method_11_code 70 (.iconst 0) 1 71 := ⟨by decide +kernel, rfl⟩
theorem dS_count_71 : xw_D prog_1_method_11_code 71 (.ireturn) 1 72 := ⟨by decide +kernel, rfl⟩
theorem dS_count_72 : xw_D prog_1_method_11_code 72 (.new 55) 3 75 := ⟨by decide +kernel, rfl⟩
theorem dS_count_75 : xw_D prog_1_method_11_code 75 (.dup) 1 76 := ⟨by decide +kernel, rfl⟩
theorem dS_count_76 : xw_D prog_1_method_11_code 76 (.invokespecial 57) 3 79 := ⟨by decide +kernel, rfl⟩
theorem dS_count_79 : xw_D prog_1_method_11_code 79 (.athrow) 1 80 := ⟨by decide +kernel, rfl⟩
theorem oS_1 : xw_OI "FormulaShaper" 1 := tw_35
theorem nS_7 : xw_N "FormulaShaper" 7 1 2 [.null, .int 0] := ⟨"FormulaShaper$Bytes", xT1, xY1, rfl, xi1, xy1, by decide +kernel, fun _ => rfl, ⟨trivial, trivial, trivial⟩, tw_38, tw_39, tw_2⟩
theorem kS_9 (R : Room) : xw_KI "FormulaShaper" 9 (mB_init R) 0 := ⟨⟨rfl, tw_40, tw_2, tw_42, (show (("FormulaShaper$Bytes" : String) ≠ "java/lang/invoke/MethodHandle" ∧ ("FormulaShaper$Bytes" : String) ≠ "java/lang/invoke/VarHandle") by decide), (show (parseMethodDescriptor "()V").map (fun d => d.parameters.length) = some 0 by decide +kernel)⟩, tw_41, rfl, rfl⟩
theorem fS_10 : xw_F "FormulaShaper" 10 0 0 (.object "FormulaShaper$Bytes") true false := ⟨"FormulaShaper", xT0, 7, xY0, "", rfl, by decide, xi0, xy0, xn0, rfl, rfl, rfl, fun h => (by cases h), fun h => tw_89⟩
theorem fS_16 : xw_F "FormulaShaper" 16 0 1 (.object "FormulaShaper$Bytes") true false := ⟨"FormulaShaper", xT0, 7, xY0, "", rfl, by decide, xi0, xy0, xn0, rfl, rfl, rfl, fun h => (by cases h), fun h => tw_90⟩
theorem nS_19 : xw_N "FormulaShaper" 19 2 3 [.null, .null, .int 0] := ⟨"FormulaShaper$Things", xT2, xY2, rfl, xi2, xy2, by decide +kernel, fun _ => rfl, ⟨trivial, trivial, trivial, trivial⟩, tw_52, tw_53, tw_3⟩
theorem kS_21 (R : Room) : xw_KI "FormulaShaper" 21 (mT_init R) 0 := ⟨⟨rfl, tw_54, tw_3, tw_56, (show (("FormulaShaper$Things" : String) ≠ "java/lang/invoke/MethodHandle" ∧ ("FormulaShaper$Things" : String) ≠ "java/lang/invoke/VarHandle") by decide), (show (parseMethodDescriptor "()V").map (fun d => d.parameters.length) = some 0 by decide +kernel)⟩, tw_55, rfl, rfl⟩
theorem fS_22 : xw_F "FormulaShaper" 22 0 2 (.object "FormulaShaper$Things") true false := ⟨"FormulaShaper", xT0, 7, xY0, "", rfl, by decide, xi0, xy0, xn0, rfl, rfl, rfl, fun h => (by cases h), fun h => tw_91⟩
theorem nS_26 : xw_N "FormulaShaper" 26 3 4 [.null, .int 0, .int 0, .int 0] := ⟨"FormulaShaper$Formula", xT3, xY3, rfl, xi3, xy3, by decide +kernel, fun _ => rfl, ⟨trivial, trivial, trivial, trivial, trivial⟩, tw_69, tw_70, tw_4⟩
theorem kS_28 (R : Room) : xw_KI "FormulaShaper" 28 (mF_init R) 0 := ⟨⟨rfl, tw_71, tw_4, tw_73, (show (("FormulaShaper$Formula" : String) ≠ "java/lang/invoke/MethodHandle" ∧ ("FormulaShaper$Formula" : String) ≠ "java/lang/invoke/VarHandle") by decide), (show (parseMethodDescriptor "()V").map (fun d => d.parameters.length) = some 0 by decide +kernel)⟩, tw_72, rfl, rfl⟩
theorem fS_29 : xw_F "FormulaShaper" 29 0 3 (.object "FormulaShaper$Formula") false false := ⟨"FormulaShaper", xT0, 7, xY0, "", rfl, by decide, xi0, xy0, xn0, rfl, rfl, rfl, fun h => (by cases h), fun h => tw_92⟩
theorem fS_33 : xw_F "FormulaShaper" 33 0 4 (.object "FormulaShaper$Formula") false false := ⟨"FormulaShaper", xT0, 7, xY0, "", rfl, by decide, xi0, xy0, xn0, rfl, rfl, rfl, fun h => (by cases h), fun h => tw_93⟩
theorem fS_36 : xw_F "FormulaShaper" 36 0 5 (.boolean) false false := ⟨"FormulaShaper", xT0, 7, xY0, "", rfl, by decide, xi0, xy0, xn0, rfl, rfl, rfl, fun h => (by cases h), fun h => tw_94⟩
theorem fS_40 : xw_F "FormulaShaper" 40 0 6 (.int) false false := ⟨"FormulaShaper", xT0, 7, xY0, "", rfl, by decide, xi0, xy0, xn0, rfl, rfl, rfl, fun h => (by cases h), fun h => tw_95⟩
theorem kS_44 (R : Room) : xw_KV "FormulaShaper" 44 (mB_size R) 0 := ⟨⟨rfl, tw_119, tw_2, tw_122, (show (("FormulaShaper$Bytes" : String) ≠ "java/lang/invoke/MethodHandle" ∧ ("FormulaShaper$Bytes" : String) ≠ "java/lang/invoke/VarHandle") by decide), (show (parseMethodDescriptor "()I").map (fun d => d.parameters.length) = some 0 by decide +kernel)⟩, tw_120, tw_121⟩
theorem kS_51 (R : Room) : xw_KV "FormulaShaper" 51 (mB_addInt R) 1 := ⟨⟨rfl, tw_188, tw_2, tw_191, (show (("FormulaShaper$Bytes" : String) ≠ "java/lang/invoke/MethodHandle" ∧ ("FormulaShaper$Bytes" : String) ≠ "java/lang/invoke/VarHandle") by decide), (show (parseMethodDescriptor "(I)V").map (fun d => d.parameters.length) = some 1 by decide +kernel)⟩, tw_189, tw_190⟩
theorem tS_48 : xw_TW "FormulaShaper" 48 50 "java/lang/IndexOutOfBoundsException" ["java/lang/RuntimeException", "java/lang/Exception"] := ⟨by decide +kernel, by decide +kernel, tw_123, tw_13, by decide +kernel, by decide +kernel⟩
theorem tS_55 : xw_TW "FormulaShaper" 55 57 "java/lang/IllegalArgumentException" ["java/lang/RuntimeException", "java/lang/Exception"] := ⟨by decide +kernel, by decide +kernel, tw_204, tw_14, by decide +kernel, by decide +kernel⟩
theorem kS_58 (R : Room) : xw_KV "FormulaShaper" 58 (mB_cut R) 1 := ⟨⟨rfl, tw_219, tw_2, tw_222, (show (("FormulaShaper$Bytes" : String) ≠ "java/lang/invoke/MethodHandle" ∧ ("FormulaShaper$Bytes" : String) ≠ "java/lang/invoke/VarHandle") by decide), (show (parseMethodDescriptor "(I)V").map (fun d => d.parameters.length) = some 1 by decide +kernel)⟩, tw_220, tw_221⟩
theorem tS_151 : xw_TW "FormulaShaper" 151 153 "java/lang/IllegalStateException" ["java/lang/RuntimeException", "java/lang/Exception"] := ⟨by decide +kernel, by decide +kernel, tw_715, tw_27, by decide +kernel, by decide +kernel⟩
theorem kS_148 (R : Room) : xw_KV "FormulaShaper" 148 (mF_references R) 0 := ⟨⟨rfl, tw_888, tw_4, tw_891, (show (("FormulaShaper$Formula" : String) ≠ "java/lang/invoke/MethodHandle" ∧ ("FormulaShaper$Formula" : String) ≠ "java/lang/invoke/VarHandle") by decide), (show (parseMethodDescriptor "()I").map (fun d => d.parameters.length) = some 0 by decide +kernel)⟩, tw_889, tw_890⟩
