/-- FormulaShaper$Things.clear -/
def mT_clear (R : Room) : xw_M := (⟨"FormulaShaper$Things", "clear", "()V"⟩, prog_12_method_2_code, 1, none, R, [])
theorem dT_clear_0 : xw_D prog_12_method_2_code 0 (.aload_n 0) 1 1 := ⟨by decide +kernel, rfl⟩
theorem dT_clear_1 : xw_D prog_12_method_2_code 1 (.iconst 0) 1 2 := ⟨by decide +kernel, rfl⟩
theorem dT_clear_2 : xw_D prog_12_method_2_code 2 (.putfield 18) 3 5 := ⟨by decide +kernel, rfl⟩
theorem dT_clear_5 : xw_D prog_12_method_2_code 5 (.return_) 1 6 := ⟨by decide +kernel, rfl⟩
/-- FormulaShaper$Things.<init> -/
def mT_init (R : Room) : xw_M := (⟨"FormulaShaper$Things", "<init>", "()V"⟩, prog_12_method_1_code, 1, none, R, [])
theorem dT_init_0 : xw_D prog_12_method_1_code 0 (.aload_n 0) 1 1 := ⟨by decide +kernel, rfl⟩
theorem dT_init_1 : xw_D prog_12_method_1_code 1 (.invokespecial 3) 3 4 := ⟨by decide +kernel, rfl⟩
theorem dT_init_4 : xw_D prog_12_method_1_code 4 (.aload_n 0) 1 5 := ⟨by decide +kernel, rfl⟩
theorem dT_init_5 : xw_D prog_12_method_1_code 5 (.sipush 2001) 3 8 := ⟨by decide +kernel, rfl⟩
theorem dT_init_8 : xw_D prog_12_method_1_code 8 (.newarray .int) 2 10 := ⟨by decide +kernel, rfl⟩
theorem dT_init_10 : xw_D prog_12_method_1_code 10 (.putfield 9) 3 13 := ⟨by decide +kernel, rfl⟩
theorem dT_init_13 : xw_D prog_12_method_1_code 13 (.aload_n 0) 1 14 := ⟨by decide +kernel, rfl⟩
theorem dT_init_14 : xw_D prog_12_method_1_code 14 (.sipush 2001) 3 17 := ⟨by decide +kernel, rfl⟩
theorem dT_init_17 : xw_D prog_12_method_1_code 17 (.newarray .int) 2 19 := ⟨by decide +kernel, rfl⟩
theorem dT_init_19 : xw_D prog_12_method_1_code 19 (.putfield 15) 3 22 := ⟨by decide +kernel, rfl⟩
theorem dT_init_22 : xw_D prog_12_method_1_code 22 (.aload_n 0) 1 23 := ⟨by decide +kernel, rfl⟩
theorem dT_init_23 : xw_D prog_12_method_1_code 23 (.iconst 0) 1 24 := ⟨by decide +kernel, rfl⟩
theorem dT_init_24 : xw_D prog_12_method_1_code 24 (.putfield 18) 3 27 := ⟨by decide +kernel, rfl⟩
theorem dT_init_27 : xw_D prog_12_method_1_code 27 (.return_) 1 28 := ⟨by decide +kernel, rfl⟩
/-- FormulaShaper$Things.kindAt -/
def mT_kindAt (R : Room) : xw_M := (⟨"FormulaShaper$Things", "kindAt", "(I)I"⟩, prog_12_method_4_code, 2, (some (.int)), R, [])
theorem dT_kindAt_0 : xw_D prog_12_method_4_code 0 (.iload_n 1) 1 1 := ⟨by decide +kernel, rfl⟩
theorem dT_kindAt_1 : xw_D prog_12_method_4_code 1 (.ifCond .lt 20) 3 4 := ⟨by decide +kernel, rfl⟩
theorem dT_kindAt_4 : xw_D prog_12_method_4_code 4 (.iload_n 1) 1 5 := ⟨by decide +kernel, rfl⟩
theorem dT_kindAt_5 : xw_D prog_12_method_4_code 5 (.aload_n 0) 1 6 := ⟨by decide +kernel, rfl⟩
theorem dT_kindAt_6 : xw_D prog_12_method_4_code 6 (.getfield 18) 3 9 := ⟨by decide +kernel, rfl⟩
theorem dT_kindAt_9 : xw_D prog_12_method_4_code 9 (.if_icmp .ge 12) 3 12 := ⟨by decide +kernel, rfl⟩
theorem dT_kindAt_12 : xw_D prog_12_method_4_code 12 (.aload_n 0) 1 13 := ⟨by decide +kernel, rfl⟩
theorem dT_kindAt_13 : xw_D prog_12_method_4_code 13 (.getfield 9) 3 16 := ⟨by decide +kernel, rfl⟩
theorem dT_kindAt_16 : xw_D prog_12_method_4_code 16 (.iload_n 1) 1 17 := ⟨by decide +kernel, rfl⟩
theorem dT_kindAt_17 : xw_D prog_12_method_4_code 17 (.iaload) 1 18 := ⟨by decide +kernel, rfl⟩
theorem dT_kindAt_18 : xw_D prog_12_method_4_code 18 (.goto 6) 3 21 := ⟨by decide +kernel, rfl⟩
theorem dT_kindAt_21 : xw_D prog_12_method_4_code 21 (.sipush 256) 3 24 := ⟨by decide +kernel, rfl⟩
theorem dT_kindAt_24 : xw_D prog_12_method_4_code 24 (.ireturn) 1 25 := ⟨by decide +kernel, rfl⟩
/-- FormulaShaper$Things.placeAt -/
def mT_placeAt (R : Room) : xw_M := (⟨"FormulaShaper$Things", "placeAt", "(I)I"⟩, prog_12_method_5_code, 2, (some (.int)), R, [])
theorem dT_placeAt_0 : xw_D prog_12_method_5_code 0 (.iload_n 1) 1 1 := ⟨by decide +kernel, rfl⟩
theorem dT_placeAt_1 : xw_D prog_12_method_5_code 1 (.ifCond .lt 20) 3 4 := ⟨by decide +kernel, rfl⟩
theorem dT_placeAt_4 : xw_D prog_12_method_5_code 4 (.iload_n 1) 1 5 := ⟨by decide +kernel, rfl⟩
theorem dT_placeAt_5 : xw_D prog_12_method_5_code 5 (.aload_n 0) 1 6 := ⟨by decide +kernel, rfl⟩
theorem dT_placeAt_6 : xw_D prog_12_method_5_code 6 (.getfield 18) 3 9 := ⟨by decide +kernel, rfl⟩
theorem dT_placeAt_9 : xw_D prog_12_method_5_code 9 (.if_icmp .ge 12) 3 12 := ⟨by decide +kernel, rfl⟩
theorem dT_placeAt_12 : xw_D prog_12_method_5_code 12 (.aload_n 0) 1 13 := ⟨by decide +kernel, rfl⟩
theorem dT_placeAt_13 : xw_D prog_12_method_5_code 13 (.getfield 15) 3 16 := ⟨by decide +kernel, rfl⟩
theorem dT_placeAt_16 : xw_D prog_12_method_5_code 16 (.iload_n 1) 1 17 := ⟨by decide +kernel, rfl⟩
theorem dT_placeAt_17 : xw_D prog_12_method_5_code 17 (.iaload) 1 18 := ⟨by decide +kernel, rfl⟩
theorem dT_placeAt_18 : xw_D prog_12_method_5_code 18 (.goto 4) 3 21 := ⟨by decide +kernel, rfl⟩
theorem dT_placeAt_21 : xw_D prog_12_method_5_code 21 (.iconst (-1)) 1 22 := ⟨by decide +kernel, rfl⟩
theorem dT_placeAt_22 : xw_D prog_12_method_5_code 22 (.ireturn) 1 23 := ⟨by decide +kernel, rfl⟩
/-- FormulaShaper$Things.add -/
def mT_add (R : Room) : xw_M := (⟨"FormulaShaper$Things", "add", "(II)V"⟩, prog_12_method_3_code, 3, none, R, [])
theorem dT_add_0 : xw_D prog_12_method_3_code 0 (.aload_n 0) 1 1 := ⟨by decide +kernel, rfl⟩
theorem dT_add_1 : xw_D prog_12_method_3_code 1 (.getfield 18) 3 4 := ⟨by decide +kernel, rfl⟩
theorem dT_add_4 : xw_D prog_12_method_3_code 4 (.aload_n 0) 1 5 := ⟨by decide +kernel, rfl⟩
theorem dT_add_5 : xw_D prog_12_method_3_code 5 (.getfield 9) 3 8 := ⟨by decide +kernel, rfl⟩
theorem dT_add_8 : xw_D prog_12_method_3_code 8 (.arraylength) 1 9 := ⟨by decide +kernel, rfl⟩
theorem dT_add_9 : xw_D prog_12_method_3_code 9 (.if_icmp .ge 33) 3 12 := ⟨by decide +kernel, rfl⟩
theorem dT_add_12 : xw_D prog_12_method_3_code 12 (.aload_n 0) 1 13 := ⟨by decide +kernel, rfl⟩
theorem dT_add_13 : xw_D prog_12_method_3_code 13 (.getfield 9) 3 16 := ⟨by decide +kernel, rfl⟩
theorem dT_add_16 : xw_D prog_12_method_3_code 16 (.aload_n 0) 1 17 := ⟨by decide +kernel, rfl⟩
theorem dT_add_17 : xw_D prog_12_method_3_code 17 (.getfield 18) 3 20 := ⟨by decide +kernel, rfl⟩
theorem dT_add_20 : xw_D prog_12_method_3_code 20 (.iload_n 1) 1 21 := ⟨by decide +kernel, rfl⟩
theorem dT_add_21 : xw_D prog_12_method_3_code 21 (.iastore) 1 22 := ⟨by decide +kernel, rfl⟩
theorem dT_add_22 : xw_D prog_12_method_3_code 22 (.aload_n 0) 1 23 := ⟨by decide +kernel, rfl⟩
theorem dT_add_23 : xw_D prog_12_method_3_code 23 (.getfield 15) 3 26 := ⟨by decide +kernel, rfl⟩
theorem dT_add_26 : xw_D prog_12_method_3_code 26 (.aload_n 0) 1 27 := ⟨by decide +kernel, rfl⟩
theorem dT_add_27 : xw_D prog_12_method_3_code 27 (.getfield 18) 3 30 := ⟨by decide +kernel, rfl⟩
theorem dT_add_30 : xw_D prog_12_method_3_code 30 (.iload_n 2) 1 31 := ⟨by decide +kernel, rfl⟩
theorem dT_add_31 : xw_D prog_12_method_3_code 31 (.iastore) 1 32 := ⟨by decide +kernel, rfl⟩
theorem dT_add_32 : xw_D prog_12_method_3_code 32 (.aload_n 0) 1 33 := ⟨by decide +kernel, rfl⟩
theorem dT_add_33 : xw_D prog_12_method_3_code 33 (.dup) 1 34 := ⟨by decide +kernel, rfl⟩
theorem dT_add_34 : xw_D prog_12_method_3_code 34 (.getfield 18) 3 37 := ⟨by decide +kernel, rfl⟩
theorem dT_add_37 : xw_D prog_12_method_3_code 37 (.iconst 1) 1 38 := ⟨by decide +kernel, rfl⟩
theorem dT_add_38 : xw_D prog_12_method_3_code 38 (.iadd) 1 39 := ⟨by decide +kernel, rfl⟩
theorem dT_add_39 : xw_D prog_12_method_3_code 39 (.putfield 18) 3 42 := ⟨by decide +kernel, rfl⟩
theorem dT_add_42 : xw_D prog_12_method_3_code 42 (.return_) 1 43 := ⟨by decide +kernel, rfl⟩
/-- FormulaShaper$Formula.<init> -/
def mF_init (R : Room) : xw_M := (⟨"FormulaShaper$Formula", "<init>", "()V"⟩, prog_5_method_1_code, 1, none, R, [])
theorem dF_init_0 : xw_D prog_5_method_1_code 0 (.aload_n 0) 1 1 := ⟨by decide +kernel, rfl⟩
theorem dF_init_1 : xw_D prog_5_method_1_code 1 (.invokespecial 3) 3 4 := ⟨by decide +kernel, rfl⟩
theorem dF_init_4 : xw_D prog_5_method_1_code 4 (.aload_n 0) 1 5 := ⟨by decide +kernel, rfl⟩
theorem dF_init_5 : xw_D prog_5_method_1_code 5 (.sipush 1000) 3 8 := ⟨by decide +kernel, rfl⟩
theorem dF_init_8 : xw_D prog_5_method_1_code 8 (.newarray .long) 2 10 := ⟨by decide +kernel, rfl⟩
theorem dF_init_10 : xw_D prog_5_method_1_code 10 (.putfield 9) 3 13 := ⟨by decide +kernel, rfl⟩
theorem dF_init_13 : xw_D prog_5_method_1_code 13 (.aload_n 0) 1 14 := ⟨by decide +kernel, rfl⟩
theorem dF_init_14 : xw_D prog_5_method_1_code 14 (.iconst 0) 1 15 := ⟨by decide +kernel, rfl⟩
theorem dF_init_15 : xw_D prog_5_method_1_code 15 (.putfield 15) 3 18 := ⟨by decide +kernel, rfl⟩
theorem dF_init_18 : xw_D prog_5_method_1_code 18 (.aload_n 0) 1 19 := ⟨by decide +kernel, rfl⟩
theorem dF_init_19 : xw_D prog_5_method_1_code 19 (.iconst 0) 1 20 := ⟨by decide +kernel, rfl⟩
theorem dF_init_20 : xw_D prog_5_method_1_code 20 (.putfield 19) 3 23 := ⟨by decide +kernel, rfl⟩
theorem dF_init_23 : xw_D prog_5_method_1_code 23 (.aload_n 0) 1 24 := ⟨by decide +kernel, rfl⟩
theorem dF_init_24 : xw_D prog_5_method_1_code 24 (.iconst 0) 1 25 := ⟨by decide +kernel, rfl⟩
theorem dF_init_25 : xw_D prog_5_method_1_code 25 (.putfield 22) 3 28 := ⟨by decide +kernel, rfl⟩
theorem dF_init_28 : xw_D prog_5_method_1_code 28 (.return_) 1 29 := ⟨by decide +kernel, rfl⟩
/-- FormulaShaper$Formula.clear -/
def mF_clear (R : Room) : xw_M := (⟨"FormulaShaper$Formula", "clear", "()V"⟩, prog_5_method_2_code, 1, none, R, [])
theorem dF_clear_0 : xw_D prog_5_method_2_code 0 (.aload_n 0) 1 1 := ⟨by decide +kernel, rfl⟩
theorem dF_clear_1 : xw_D prog_5_method_2_code 1 (.iconst 0) 1 2 := ⟨by decide +kernel, rfl⟩
theorem dF_clear_2 : xw_D prog_5_method_2_code 2 (.putfield 15) 3 5 := ⟨by decide +kernel, rfl⟩
theorem dF_clear_5 : xw_D prog_5_method_2_code 5 (.aload_n 0) 1 6 := ⟨by decide +kernel, rfl⟩
theorem dF_clear_6 : xw_D prog_5_method_2_code 6 (.iconst 0) 1 7 := ⟨by decide +kernel, rfl⟩
theorem dF_clear_7 : xw_D prog_5_method_2_code 7 (.putfield 19) 3 10 := ⟨by decide +kernel, rfl⟩
theorem dF_clear_10 : xw_D prog_5_method_2_code 10 (.aload_n 0) 1 11 := ⟨by decide +kernel, rfl⟩
theorem dF_clear_11 : xw_D prog_5_method_2_code 11 (.iconst 0) 1 12 := ⟨by decide +kernel, rfl⟩
theorem dF_clear_12 : xw_D prog_5_method_2_code 12 (.putfield 22) 3 15 := ⟨by decide +kernel, rfl⟩
theorem dF_clear_15 : xw_D prog_5_method_2_code 15 (.return_) 1 16 := ⟨by decide +kernel, rfl⟩
/-- FormulaShaper$Formula.width -/
def mF_width (R : Room) : xw_M := (⟨"FormulaShaper$Formula", "width", "()I"⟩, prog_5_method_3_code, 1, (some (.int)), R, [])
theorem dF_width_0 : xw_D prog_5_method_3_code 0 (.aload_n 0) 1 1 := ⟨by decide +kernel, rfl⟩
theorem dF_width_1 : xw_D prog_5_method_3_code 1 (.getfield 19) 3 4 := ⟨by decide +kernel, rfl⟩
theorem dF_width_4 : xw_D prog_5_method_3_code 4 (.ireturn) 1 5 := ⟨by decide +kernel, rfl⟩
/-- FormulaShaper$Formula.references -/
def mF_references (R : Room) : xw_M := (⟨"FormulaShaper$Formula", "references", "()I"⟩, prog_5_method_4_code, 1, (some (.int)), R, [])
theorem dF_references_0 : xw_D prog_5_method_4_code 0 (.aload_n 0) 1 1 := ⟨by decide +kernel, rfl⟩
theorem dF_references_1 : xw_D prog_5_method_4_code 1 (.getfield 22) 3 4 := ⟨by decide +kernel, rfl⟩
theorem dF_references_4 : xw_D prog_5_method_4_code 4 (.ireturn) 1 5 := ⟨by decide +kernel, rfl⟩
theorem kB_19 (R : Room) : xw_KV "FormulaShaper$Bytes" 19 (mB_add R) 1 := ⟨⟨rfl, tw_192, tw_2, tw_195, (show (("FormulaShaper$Bytes" : String) ≠ "java/lang/invoke/MethodHandle" ∧ ("FormulaShaper$Bytes" : String) ≠ "java/lang/invoke/VarHandle") by decide), (show (parseMethodDescriptor "(I)V").map (fun d => d.parameters.length) = some 1 by decide +kernel)⟩, tw_193, tw_194⟩
theorem fT_18 : xw_F "FormulaShaper$Things" 18 2 2 (.int) false false := ⟨"FormulaShaper$Things", xT2, 3, xY2, "", rfl, by decide, xi2, xy2, xn2, rfl, rfl, rfl, fun h => (by cases h), fun h => tw_60⟩
theorem oT_3 : xw_OI "FormulaShaper$Things" 3 := tw_57
theorem fT_9 : xw_F "FormulaShaper$Things" 9 2 0 (.array (.int)) true false := ⟨"FormulaShaper$Things", xT2, 3, xY2, "", rfl, by decide, xi2, xy2, xn2, rfl, rfl, rfl, fun h => (by cases h), fun h => tw_58⟩
theorem fT_15 : xw_F "FormulaShaper$Things" 15 2 1 (.array (.int)) true false := ⟨"FormulaShaper$Things", xT2, 3, xY2, "", rfl, by decide, xi2, xy2, xn2, rfl, rfl, rfl, fun h => (by cases h), fun h => tw_59⟩
theorem oF_3 : xw_OI "FormulaShaper$Formula" 3 := tw_74
theorem fF_9 : xw_F "FormulaShaper$Formula" 9 3 0 (.array (.long)) true false := ⟨"FormulaShaper$Formula", xT3, 4, xY3, "", rfl, by decide, xi3, xy3, xn3, rfl, rfl, rfl, fun h => (by cases h), fun h => tw_75⟩
theorem fF_15 : xw_F "FormulaShaper$Formula" 15 3 1 (.int) false false := ⟨"FormulaShaper$Formula", xT3, 4, xY3, "", rfl, by decide, xi3, xy3, xn3, rfl, rfl, rfl, fun h => (by cases h), fun h => tw_76⟩
theorem fF_19 : xw_F "FormulaShaper$Formula" 19 3 2 (.int) false false := ⟨"FormulaShaper$Formula", xT3, 4, xY3, "", rfl, by decide, xi3, xy3, xn3, rfl, rfl, rfl, fun h => (by cases h), fun h => tw_77⟩
theorem fF_22 : xw_F "FormulaShaper$Formula" 22 3 3 (.int) false false := ⟨"FormulaShaper$Formula", xT3, 4, xY3, "", rfl, by decide, xi3, xy3, xn3, rfl, rfl, rfl, fun h => (by cases h), fun h => tw_78⟩
