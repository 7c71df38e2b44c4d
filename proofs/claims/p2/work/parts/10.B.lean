/-- FormulaShaper$Bytes.<init> -/
def mB_init (R : Room) : xw_M := (⟨"FormulaShaper$Bytes", "<init>", "()V"⟩, prog_3_method_1_code, 1, none, R, [])
theorem dB_init_0 : xw_D prog_3_method_1_code 0 (.aload_n 0) 1 1 := ⟨by decide +kernel, rfl⟩
theorem dB_init_1 : xw_D prog_3_method_1_code 1 (.invokespecial 3) 3 4 := ⟨by decide +kernel, rfl⟩
theorem dB_init_4 : xw_D prog_3_method_1_code 4 (.aload_n 0) 1 5 := ⟨by decide +kernel, rfl⟩
theorem dB_init_5 : xw_D prog_3_method_1_code 5 (.sipush 2000) 3 8 := ⟨by decide +kernel, rfl⟩
theorem dB_init_8 : xw_D prog_3_method_1_code 8 (.newarray .byte) 2 10 := ⟨by decide +kernel, rfl⟩
theorem dB_init_10 : xw_D prog_3_method_1_code 10 (.putfield 9) 3 13 := ⟨by decide +kernel, rfl⟩
theorem dB_init_13 : xw_D prog_3_method_1_code 13 (.aload_n 0) 1 14 := ⟨by decide +kernel, rfl⟩
theorem dB_init_14 : xw_D prog_3_method_1_code 14 (.iconst 0) 1 15 := ⟨by decide +kernel, rfl⟩
theorem dB_init_15 : xw_D prog_3_method_1_code 15 (.putfield 15) 3 18 := ⟨by decide +kernel, rfl⟩
theorem dB_init_18 : xw_D prog_3_method_1_code 18 (.return_) 1 19 := ⟨by decide +kernel, rfl⟩
/-- FormulaShaper$Bytes.size -/
def mB_size (R : Room) : xw_M := (⟨"FormulaShaper$Bytes", "size", "()I"⟩, prog_3_method_2_code, 1, (some (.int)), R, [])
theorem dB_size_0 : xw_D prog_3_method_2_code 0 (.aload_n 0) 1 1 := ⟨by decide +kernel, rfl⟩
theorem dB_size_1 : xw_D prog_3_method_2_code 1 (.getfield 15) 3 4 := ⟨by decide +kernel, rfl⟩
theorem dB_size_4 : xw_D prog_3_method_2_code 4 (.ireturn) 1 5 := ⟨by decide +kernel, rfl⟩
/-- FormulaShaper$Bytes.at -/
def mB_at (R : Room) : xw_M := (⟨"FormulaShaper$Bytes", "at", "(I)I"⟩, prog_3_method_3_code, 2, (some (.int)), R, [])
theorem dB_at_0 : xw_D prog_3_method_3_code 0 (.iload_n 1) 1 1 := ⟨by decide +kernel, rfl⟩
theorem dB_at_1 : xw_D prog_3_method_3_code 1 (.ifCond .lt 24) 3 4 := ⟨by decide +kernel, rfl⟩
theorem dB_at_4 : xw_D prog_3_method_3_code 4 (.iload_n 1) 1 5 := ⟨by decide +kernel, rfl⟩
theorem dB_at_5 : xw_D prog_3_method_3_code 5 (.aload_n 0) 1 6 := ⟨by decide +kernel, rfl⟩
theorem dB_at_6 : xw_D prog_3_method_3_code 6 (.getfield 15) 3 9 := ⟨by decide +kernel, rfl⟩
theorem dB_at_9 : xw_D prog_3_method_3_code 9 (.if_icmp .ge 16) 3 12 := ⟨by decide +kernel, rfl⟩
theorem dB_at_12 : xw_D prog_3_method_3_code 12 (.aload_n 0) 1 13 := ⟨by decide +kernel, rfl⟩
theorem dB_at_13 : xw_D prog_3_method_3_code 13 (.getfield 9) 3 16 := ⟨by decide +kernel, rfl⟩
theorem dB_at_16 : xw_D prog_3_method_3_code 16 (.iload_n 1) 1 17 := ⟨by decide +kernel, rfl⟩
theorem dB_at_17 : xw_D prog_3_method_3_code 17 (.baload) 1 18 := ⟨by decide +kernel, rfl⟩
theorem dB_at_18 : xw_D prog_3_method_3_code 18 (.sipush 255) 3 21 := ⟨by decide +kernel, rfl⟩
theorem dB_at_21 : xw_D prog_3_method_3_code 21 (.iand) 1 22 := ⟨by decide +kernel, rfl⟩
theorem dB_at_22 : xw_D prog_3_method_3_code 22 (.goto 4) 3 25 := ⟨by decide +kernel, rfl⟩
theorem dB_at_25 : xw_D prog_3_method_3_code 25 (.iconst (-1)) 1 26 := ⟨by decide +kernel, rfl⟩
theorem dB_at_26 : xw_D prog_3_method_3_code 26 (.ireturn) 1 27 := ⟨by decide +kernel, rfl⟩
/-- FormulaShaper$Bytes.add -/
def mB_add (R : Room) : xw_M := (⟨"FormulaShaper$Bytes", "add", "(I)V"⟩, prog_3_method_4_code, 2, none, R, [])
theorem dB_add_0 : xw_D prog_3_method_4_code 0 (.aload_n 0) 1 1 := ⟨by decide +kernel, rfl⟩
theorem dB_add_1 : xw_D prog_3_method_4_code 1 (.getfield 15) 3 4 := ⟨by decide +kernel, rfl⟩
theorem dB_add_4 : xw_D prog_3_method_4_code 4 (.aload_n 0) 1 5 := ⟨by decide +kernel, rfl⟩
theorem dB_add_5 : xw_D prog_3_method_4_code 5 (.getfield 9) 3 8 := ⟨by decide +kernel, rfl⟩
theorem dB_add_8 : xw_D prog_3_method_4_code 8 (.arraylength) 1 9 := ⟨by decide +kernel, rfl⟩
theorem dB_add_9 : xw_D prog_3_method_4_code 9 (.if_icmp .ge 24) 3 12 := ⟨by decide +kernel, rfl⟩
theorem dB_add_12 : xw_D prog_3_method_4_code 12 (.aload_n 0) 1 13 := ⟨by decide +kernel, rfl⟩
theorem dB_add_13 : xw_D prog_3_method_4_code 13 (.getfield 9) 3 16 := ⟨by decide +kernel, rfl⟩
theorem dB_add_16 : xw_D prog_3_method_4_code 16 (.aload_n 0) 1 17 := ⟨by decide +kernel, rfl⟩
theorem dB_add_17 : xw_D prog_3_method_4_code 17 (.getfield 15) 3 20 := ⟨by decide +kernel, rfl⟩
theorem dB_add_20 : xw_D prog_3_method_4_code 20 (.iload_n 1) 1 21 := ⟨by decide +kernel, rfl⟩
theorem dB_add_21 : xw_D prog_3_method_4_code 21 (.i2b) 1 22 := ⟨by decide +kernel, rfl⟩
theorem dB_add_22 : xw_D prog_3_method_4_code 22 (.bastore) 1 23 := ⟨by decide +kernel, rfl⟩
theorem dB_add_23 : xw_D prog_3_method_4_code 23 (.aload_n 0) 1 24 := ⟨by decide +kernel, rfl⟩
theorem dB_add_24 : xw_D prog_3_method_4_code 24 (.dup) 1 25 := ⟨by decide +kernel, rfl⟩
theorem dB_add_25 : xw_D prog_3_method_4_code 25 (.getfield 15) 3 28 := ⟨by decide +kernel, rfl⟩
theorem dB_add_28 : xw_D prog_3_method_4_code 28 (.iconst 1) 1 29 := ⟨by decide +kernel, rfl⟩
theorem dB_add_29 : xw_D prog_3_method_4_code 29 (.iadd) 1 30 := ⟨by decide +kernel, rfl⟩
theorem dB_add_30 : xw_D prog_3_method_4_code 30 (.putfield 15) 3 33 := ⟨by decide +kernel, rfl⟩
theorem dB_add_33 : xw_D prog_3_method_4_code 33 (.return_) 1 34 := ⟨by decide +kernel, rfl⟩
/-- FormulaShaper$Bytes.addInt -/
def mB_addInt (R : Room) : xw_M := (⟨"FormulaShaper$Bytes", "addInt", "(I)V"⟩, prog_3_method_5_code, 2, none, R, [])
theorem dB_addInt_0 : xw_D prog_3_method_5_code 0 (.aload_n 0) 1 1 := ⟨by decide +kernel, rfl⟩
theorem dB_addInt_1 : xw_D prog_3_method_5_code 1 (.iload_n 1) 1 2 := ⟨by decide +kernel, rfl⟩
theorem dB_addInt_2 : xw_D prog_3_method_5_code 2 (.bipush 24) 2 4 := ⟨by decide +kernel, rfl⟩
theorem dB_addInt_4 : xw_D prog_3_method_5_code 4 (.iushr) 1 5 := ⟨by decide +kernel, rfl⟩
theorem dB_addInt_5 : xw_D prog_3_method_5_code 5 (.invokevirtual 19) 3 8 := ⟨by decide +kernel, rfl⟩
theorem dB_addInt_8 : xw_D prog_3_method_5_code 8 (.aload_n 0) 1 9 := ⟨by decide +kernel, rfl⟩
theorem dB_addInt_9 : xw_D prog_3_method_5_code 9 (.iload_n 1) 1 10 := ⟨by decide +kernel, rfl⟩
theorem dB_addInt_10 : xw_D prog_3_method_5_code 10 (.bipush 16) 2 12 := ⟨by decide +kernel, rfl⟩
theorem dB_addInt_12 : xw_D prog_3_method_5_code 12 (.iushr) 1 13 := ⟨by decide +kernel, rfl⟩
theorem dB_addInt_13 : xw_D prog_3_method_5_code 13 (.invokevirtual 19) 3 16 := ⟨by decide +kernel, rfl⟩
theorem dB_addInt_16 : xw_D prog_3_method_5_code 16 (.aload_n 0) 1 17 := ⟨by decide +kernel, rfl⟩
theorem dB_addInt_17 : xw_D prog_3_method_5_code 17 (.iload_n 1) 1 18 := ⟨by decide +kernel, rfl⟩
theorem dB_addInt_18 : xw_D prog_3_method_5_code 18 (.bipush 8) 2 20 := ⟨by decide +kernel, rfl⟩
theorem dB_addInt_20 : xw_D prog_3_method_5_code 20 (.iushr) 1 21 := ⟨by decide +kernel, rfl⟩
theorem dB_addInt_21 : xw_D prog_3_method_5_code 21 (.invokevirtual 19) 3 24 := ⟨by decide +kernel, rfl⟩
theorem dB_addInt_24 : xw_D prog_3_method_5_code 24 (.aload_n 0) 1 25 := ⟨by decide +kernel, rfl⟩
theorem dB_addInt_25 : xw_D prog_3_method_5_code 25 (.iload_n 1) 1 26 := ⟨by decide +kernel, rfl⟩
theorem dB_addInt_26 : xw_D prog_3_method_5_code 26 (.invokevirtual 19) 3 29 := ⟨by decide +kernel, rfl⟩
theorem dB_addInt_29 : xw_D prog_3_method_5_code 29 (.return_) 1 30 := ⟨by decide +kernel, rfl⟩
/-- FormulaShaper$Bytes.cut -/
def mB_cut (R : Room) : xw_M := (⟨"FormulaShaper$Bytes", "cut", "(I)V"⟩, prog_3_method_6_code, 2, none, R, [])
theorem dB_cut_0 : xw_D prog_3_method_6_code 0 (.aload_n 0) 1 1 := ⟨by decide +kernel, rfl⟩
theorem dB_cut_1 : xw_D prog_3_method_6_code 1 (.iload_n 1) 1 2 := ⟨by decide +kernel, rfl⟩
theorem dB_cut_2 : xw_D prog_3_method_6_code 2 (.putfield 15) 3 5 := ⟨by decide +kernel, rfl⟩
theorem dB_cut_5 : xw_D prog_3_method_6_code 5 (.return_) 1 6 := ⟨by decide +kernel, rfl⟩
theorem fB_15 : xw_F "FormulaShaper$Bytes" 15 1 1 (.int) false false := ⟨"FormulaShaper$Bytes", xT1, 2, xY1, "", rfl, by decide, xi1, xy1, xn1, rfl, rfl, rfl, fun h => (by cases h), fun h => tw_45⟩
theorem fB_9 : xw_F "FormulaShaper$Bytes" 9 1 0 (.array (.byte)) true false := ⟨"FormulaShaper$Bytes", xT1, 2, xY1, "", rfl, by decide, xi1, xy1, xn1, rfl, rfl, rfl, fun h => (by cases h), fun h => tw_44⟩
theorem oB_3 : xw_OI "FormulaShaper$Bytes" 3 := tw_43
