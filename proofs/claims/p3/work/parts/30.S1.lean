/-- FormulaShaper$Splitter.<init> -/
def mP_init (R : Room) : xw_M := (⟨"FormulaShaper$Splitter", "<init>", "(LFormulaShaper$Bytes;LFormulaShaper$Things;LFormulaShaper$Formula;)V"⟩, prog_11_method_1_code, 4, none, R, [])
theorem dP_init_0 : xw_D prog_11_method_1_code 0 (.aload_n 0) 1 1 := ⟨by decide +kernel, rfl⟩
theorem dP_init_1 : xw_D prog_11_method_1_code 1 (.invokespecial 3) 3 4 := ⟨by decide +kernel, rfl⟩
theorem dP_init_4 : xw_D prog_11_method_1_code 4 (.aload_n 0) 1 5 := ⟨by decide +kernel, rfl⟩
theorem dP_init_5 : xw_D prog_11_method_1_code 5 (.aload_n 1) 1 6 := ⟨by decide +kernel, rfl⟩
theorem dP_init_6 : xw_D prog_11_method_1_code 6 (.putfield 9) 3 9 := ⟨by decide +kernel, rfl⟩
theorem dP_init_9 : xw_D prog_11_method_1_code 9 (.aload_n 0) 1 10 := ⟨by decide +kernel, rfl⟩
theorem dP_init_10 : xw_D prog_11_method_1_code 10 (.aload_n 2) 1 11 := ⟨by decide +kernel, rfl⟩
theorem dP_init_11 : xw_D prog_11_method_1_code 11 (.putfield 15) 3 14 := ⟨by decide +kernel, rfl⟩
theorem dP_init_14 : xw_D prog_11_method_1_code 14 (.aload_n 0) 1 15 := ⟨by decide +kernel, rfl⟩
theorem dP_init_15 : xw_D prog_11_method_1_code 15 (.aload_n 3) 1 16 := ⟨by decide +kernel, rfl⟩
theorem dP_init_16 : xw_D prog_11_method_1_code 16 (.putfield 19) 3 19 := ⟨by decide +kernel, rfl⟩
theorem dP_init_19 : xw_D prog_11_method_1_code 19 (.aload_n 0) 1 20 := ⟨by decide +kernel, rfl⟩
theorem dP_init_20 : xw_D prog_11_method_1_code 20 (.iconst 0) 1 21 := ⟨by decide +kernel, rfl⟩
theorem dP_init_21 : xw_D prog_11_method_1_code 21 (.putfield 23) 3 24 := ⟨by decide +kernel, rfl⟩
theorem dP_init_24 : xw_D prog_11_method_1_code 24 (.return_) 1 25 := ⟨by decide +kernel, rfl⟩
/-- FormulaShaper$Grammar.<init> -/
def mG_init (R : Room) : xw_M := (⟨"FormulaShaper$Grammar", "<init>", "(LFormulaShaper$Things;)V"⟩, prog_6_method_1_code, 2, none, R, [])
theorem dG_init_0 : xw_D prog_6_method_1_code 0 (.aload_n 0) 1 1 := ⟨by decide +kernel, rfl⟩
theorem dG_init_1 : xw_D prog_6_method_1_code 1 (.invokespecial 3) 3 4 := ⟨by decide +kernel, rfl⟩
theorem dG_init_4 : xw_D prog_6_method_1_code 4 (.aload_n 0) 1 5 := ⟨by decide +kernel, rfl⟩
theorem dG_init_5 : xw_D prog_6_method_1_code 5 (.aload_n 1) 1 6 := ⟨by decide +kernel, rfl⟩
theorem dG_init_6 : xw_D prog_6_method_1_code 6 (.putfield 9) 3 9 := ⟨by decide +kernel, rfl⟩
theorem dG_init_9 : xw_D prog_6_method_1_code 9 (.aload_n 0) 1 10 := ⟨by decide +kernel, rfl⟩
theorem dG_init_10 : xw_D prog_6_method_1_code 10 (.iconst 0) 1 11 := ⟨by decide +kernel, rfl⟩
theorem dG_init_11 : xw_D prog_6_method_1_code 11 (.putfield 15) 3 14 := ⟨by decide +kernel, rfl⟩
theorem dG_init_14 : xw_D prog_6_method_1_code 14 (.aload_n 0) 1 15 := ⟨by decide +kernel, rfl⟩
theorem dG_init_15 : xw_D prog_6_method_1_code 15 (.iconst 0) 1 16 := ⟨by decide +kernel, rfl⟩
theorem dG_init_16 : xw_D prog_6_method_1_code 16 (.putfield 19) 3 19 := ⟨by decide +kernel, rfl⟩
theorem dG_init_19 : xw_D prog_6_method_1_code 19 (.return_) 1 20 := ⟨by decide +kernel, rfl⟩
/-- FormulaShaper$Move.<init> -/
def mV_init (R : Room) : xw_M := (⟨"FormulaShaper$Move", "<init>", "()V"⟩, prog_7_method_1_code, 1, none, R, [])
theorem dV_init_0 : xw_D prog_7_method_1_code 0 (.aload_n 0) 1 1 := ⟨by decide +kernel, rfl⟩
theorem dV_init_1 : xw_D prog_7_method_1_code 1 (.invokespecial 1) 3 4 := ⟨by decide +kernel, rfl⟩
theorem dV_init_4 : xw_D prog_7_method_1_code 4 (.return_) 1 5 := ⟨by decide +kernel, rfl⟩
/-- FormulaShaper$Copying.<init> -/
def mC_init (R : Room) : xw_M := (⟨"FormulaShaper$Copying", "<init>", "(II)V"⟩, prog_4_method_1_code, 3, none, R, [])
theorem dC_init_0 : xw_D prog_4_method_1_code 0 (.aload_n 0) 1 1 := ⟨by decide +kernel, rfl⟩
theorem dC_init_1 : xw_D prog_4_method_1_code 1 (.invokespecial 3) 3 4 := ⟨by decide +kernel, rfl⟩
theorem dC_init_4 : xw_D prog_4_method_1_code 4 (.aload_n 0) 1 5 := ⟨by decide +kernel, rfl⟩
theorem dC_init_5 : xw_D prog_4_method_1_code 5 (.iload_n 1) 1 6 := ⟨by decide +kernel, rfl⟩
theorem dC_init_6 : xw_D prog_4_method_1_code 6 (.putfield 9) 3 9 := ⟨by decide +kernel, rfl⟩
theorem dC_init_9 : xw_D prog_4_method_1_code 9 (.aload_n 0) 1 10 := ⟨by decide +kernel, rfl⟩
theorem dC_init_10 : xw_D prog_4_method_1_code 10 (.iload_n 2) 1 11 := ⟨by decide +kernel, rfl⟩
theorem dC_init_11 : xw_D prog_4_method_1_code 11 (.putfield 15) 3 14 := ⟨by decide +kernel, rfl⟩
theorem dC_init_14 : xw_D prog_4_method_1_code 14 (.return_) 1 15 := ⟨by decide +kernel, rfl⟩
/-- FormulaShaper$Shifting.<init> -/
def mH_init (R : Room) : xw_M := (⟨"FormulaShaper$Shifting", "<init>", "(ZII)V"⟩, prog_9_method_1_code, 4, none, R, [])
theorem dH_init_0 : xw_D prog_9_method_1_code 0 (.aload_n 0) 1 1 := ⟨by decide +kernel, rfl⟩
theorem dH_init_1 : xw_D prog_9_method_1_code 1 (.invokespecial 3) 3 4 := ⟨by decide +kernel, rfl⟩
theorem dH_init_4 : xw_D prog_9_method_1_code 4 (.aload_n 0) 1 5 := ⟨by decide +kernel, rfl⟩
theorem dH_init_5 : xw_D prog_9_method_1_code 5 (.iload_n 1) 1 6 := ⟨by decide +kernel, rfl⟩
theorem dH_init_6 : xw_D prog_9_method_1_code 6 (.putfield 9) 3 9 := ⟨by decide +kernel, rfl⟩
theorem dH_init_9 : xw_D prog_9_method_1_code 9 (.aload_n 0) 1 10 := ⟨by decide +kernel, rfl⟩
theorem dH_init_10 : xw_D prog_9_method_1_code 10 (.iload_n 2) 1 11 := ⟨by decide +kernel, rfl⟩
theorem dH_init_11 : xw_D prog_9_method_1_code 11 (.putfield 15) 3 14 := ⟨by decide +kernel, rfl⟩
theorem dH_init_14 : xw_D prog_9_method_1_code 14 (.aload_n 0) 1 15 := ⟨by decide +kernel, rfl⟩
theorem dH_init_15 : xw_D prog_9_method_1_code 15 (.iload_n 3) 1 16 := ⟨by decide +kernel, rfl⟩
theorem dH_init_16 : xw_D prog_9_method_1_code 16 (.putfield 19) 3 19 := ⟨by decide +kernel, rfl⟩
theorem dH_init_19 : xw_D prog_9_method_1_code 19 (.return_) 1 20 := ⟨by decide +kernel, rfl⟩
/-- FormulaShaper.settle -/
def mS_settle (R : Room) : xw_M := (⟨"FormulaShaper", "settle", "()I"⟩, prog_1_method_16_code, 2, (some (.int)), R, [])
theorem dS_settle_0 : xw_D prog_1_method_16_code 0 (.aload_n 0) 1 1 := ⟨by decide +kernel, rfl⟩
theorem dS_settle_1 : xw_D prog_1_method_16_code 1 (.getfield 33) 3 4 := ⟨by decide +kernel, rfl⟩
theorem dS_settle_4 : xw_D prog_1_method_16_code 4 (.invokevirtual 158) 3 7 := ⟨by decide +kernel, rfl⟩
theorem dS_settle_7 : xw_D prog_1_method_16_code 7 (.sipush 1000) 3 10 := ⟨by decide +kernel, rfl⟩
theorem dS_settle_10 : xw_D prog_1_method_16_code 10 (.if_icmp .le 11) 3 13 := ⟨by decide +kernel, rfl⟩
theorem dS_settle_13 : xw_D prog_1_method_16_code 13 (.new 48) 3 16 := ⟨by decide +kernel, rfl⟩
theorem dS_settle_16 : xw_D prog_1_method_16_code 16 (.dup) 1 17 := ⟨by decide +kernel, rfl⟩
theorem dS_settle_17 : xw_D prog_1_method_16_code 17 (.invokespecial 50) 3 20 := ⟨by decide +kernel, rfl⟩
theorem dS_settle_20 : xw_D prog_1_method_16_code 20 (.athrow) 1 21 := ⟨by decide +kernel, rfl⟩
theorem dS_settle_21 : xw_D prog_1_method_16_code 21 (.aload_n 0) 1 22 := ⟨by decide +kernel, rfl⟩
theorem dS_settle_22 : xw_D prog_1_method_16_code 22 (.getfield 29) 3 25 := ⟨by decide +kernel, rfl⟩
theorem dS_settle_25 : xw_D prog_1_method_16_code 25 (.astore_n 1) 1 26 := ⟨by decide +kernel, rfl⟩
theorem dS_settle_26 : xw_D prog_1_method_16_code 26 (.aload_n 0) 1 27 := ⟨by decide +kernel, rfl⟩
theorem dS_settle_27 : xw_D prog_1_method_16_code 27 (.aload_n 0) 1 28 := ⟨by decide +kernel, rfl⟩
theorem dS_settle_28 : xw_D prog_1_method_16_code 28 (.getfield 33) 3 31 := ⟨by decide +kernel, rfl⟩
theorem dS_settle_31 : xw_D prog_1_method_16_code 31 (.putfield 29) 3 34 := ⟨by decide +kernel, rfl⟩
theorem dS_settle_34 : xw_D prog_1_method_16_code 34 (.aload_n 0) 1 35 := ⟨by decide +kernel, rfl⟩
theorem dS_settle_35 : xw_D prog_1_method_16_code 35 (.aload_n 1) 1 36 := ⟨by decide +kernel, rfl⟩
theorem dS_settle_36 : xw_D prog_1_method_16_code 36 (.putfield 33) 3 39 := ⟨by decide +kernel, rfl⟩
theorem dS_settle_39 : xw_D prog_1_method_16_code 39 (.aload_n 0) 1 40 := ⟨by decide +kernel, rfl⟩
theorem dS_settle_40 : xw_D prog_1_method_16_code 40 (.iconst 1) 1 41 := ⟨by decide +kernel, rfl⟩
theorem dS_settle_41 : xw_D prog_1_method_16_code 41 (.putfield 36) 3 44 := ⟨by decide +kernel, rfl⟩
theorem dS_settle_44 : xw_D prog_1_method_16_code 44 (.aload_n 0) 1 45 := ⟨by decide +kernel, rfl⟩
theorem dS_settle_45 : xw_D prog_1_method_16_code 45 (.getfield 29) 3 48 := ⟨by decide +kernel, rfl⟩
theorem dS_settle_48 : xw_D prog_1_method_16_code 48 (.invokevirtual 158) 3 51 := ⟨by decide +kernel, rfl⟩
theorem dS_settle_51 : xw_D prog_1_method_16_code 51 (.ireturn) 1 52 := ⟨by decide +kernel, rfl⟩
/-- FormulaShaper.change -/
def mS_change (R : Room) : xw_M := (⟨"FormulaShaper", "change", "(LFormulaShaper$Move;)I"⟩, prog_1_method_15_code, 2, (some (.int)), R, [])
theorem dS_change_0 : xw_D prog_1_method_15_code 0 (.aload_n 0) 1 1 := ⟨by decide +kernel, rfl⟩
theorem dS_change_1 : xw_D prog_1_method_15_code 1 (.invokevirtual 108) 3 4 := ⟨by decide +kernel, rfl⟩
theorem dS_change_4 : xw_D prog_1_method_15_code 4 (.aload_n 0) 1 5 := ⟨by decide +kernel, rfl⟩
theorem dS_change_5 : xw_D prog_1_method_15_code 5 (.getfield 33) 3 8 := ⟨by decide +kernel, rfl⟩
theorem dS_change_8 : xw_D prog_1_method_15_code 8 (.aload_n 0) 1 9 := ⟨by decide +kernel, rfl⟩
theorem dS_change_9 : xw_D prog_1_method_15_code 9 (.getfield 29) 3 12 := ⟨by decide +kernel, rfl⟩
theorem dS_change_12 : xw_D prog_1_method_15_code 12 (.aload_n 1) 1 13 := ⟨by decide +kernel, rfl⟩
theorem dS_change_13 : xw_D prog_1_method_15_code 13 (.invokevirtual 154) 3 16 := ⟨by decide +kernel, rfl⟩
theorem dS_change_16 : xw_D prog_1_method_15_code 16 (.aload_n 0) 1 17 := ⟨by decide +kernel, rfl⟩
theorem dS_change_17 : xw_D prog_1_method_15_code 17 (.invokevirtual 83) 3 20 := ⟨by decide +kernel, rfl⟩
theorem dS_change_20 : xw_D prog_1_method_15_code 20 (.ireturn) 1 21 := ⟨by decide +kernel, rfl⟩
/-- FormulaShaper.read -/
def mS_read (R : Room) : xw_M := (⟨"FormulaShaper", "read", "()I"⟩, prog_1_method_4_code, 2, (some (.int)), R, [])
theorem dS_read_0 : xw_D prog_1_method_4_code 0 (.new 61) 3 3 := ⟨by decide +kernel, rfl⟩
theorem dS_read_3 : xw_D prog_1_method_4_code 3 (.dup) 1 4 := ⟨by decide +kernel, rfl⟩
theorem dS_read_4 : xw_D prog_1_method_4_code 4 (.aload_n 0) 1 5 := ⟨by decide +kernel, rfl⟩
theorem dS_read_5 : xw_D prog_1_method_4_code 5 (.getfield 10) 3 8 := ⟨by decide +kernel, rfl⟩
theorem dS_read_8 : xw_D prog_1_method_4_code 8 (.aload_n 0) 1 9 := ⟨by decide +kernel, rfl⟩
theorem dS_read_9 : xw_D prog_1_method_4_code 9 (.getfield 22) 3 12 := ⟨by decide +kernel, rfl⟩
theorem dS_read_12 : xw_D prog_1_method_4_code 12 (.aload_n 0) 1 13 := ⟨by decide +kernel, rfl⟩
theorem dS_read_13 : xw_D prog_1_method_4_code 13 (.getfield 33) 3 16 := ⟨by decide +kernel, rfl⟩
theorem dS_read_16 : xw_D prog_1_method_4_code 16 (.invokespecial 63) 3 19 := ⟨by decide +kernel, rfl⟩
theorem dS_read_19 : xw_D prog_1_method_4_code 19 (.invokevirtual 66) 3 22 := ⟨by decide +kernel, rfl⟩
theorem dS_read_22 : xw_D prog_1_method_4_code 22 (.aload_n 0) 1 23 := ⟨by decide +kernel, rfl⟩
theorem dS_read_23 : xw_D prog_1_method_4_code 23 (.getfield 10) 3 26 := ⟨by decide +kernel, rfl⟩
theorem dS_read_26 : xw_D prog_1_method_4_code 26 (.iconst 0) 1 27 := ⟨by decide +kernel, rfl⟩
theorem dS_read_27 : xw_D prog_1_method_4_code 27 (.invokevirtual 58) 3 30 := ⟨by decide +kernel, rfl⟩
theorem dS_read_30 : xw_D prog_1_method_4_code 30 (.new 69) 3 33 := ⟨by decide +kernel, rfl⟩
theorem dS_read_33 : xw_D prog_1_method_4_code 33 (.dup) 1 34 := ⟨by decide +kernel, rfl⟩
theorem dS_read_34 : xw_D prog_1_method_4_code 34 (.aload_n 0) 1 35 := ⟨by decide +kernel, rfl⟩
theorem dS_read_35 : xw_D prog_1_method_4_code 35 (.getfield 22) 3 38 := ⟨by decide +kernel, rfl⟩
theorem dS_read_38 : xw_D prog_1_method_4_code 38 (.invokespecial 71) 3 41 := ⟨by decide +kernel, rfl⟩
theorem dS_read_41 : xw_D prog_1_method_4_code 41 (.astore_n 1) 1 42 := ⟨by decide +kernel, rfl⟩
theorem dS_read_42 : xw_D prog_1_method_4_code 42 (.aload_n 1) 1 43 := ⟨by decide +kernel, rfl⟩
theorem dS_read_43 : xw_D prog_1_method_4_code 43 (.invokevirtual 74) 3 46 := ⟨by decide +kernel, rfl⟩
theorem dS_read_46 : xw_D prog_1_method_4_code 46 (.ifCond .ne 19) 3 49 := ⟨by decide +kernel, rfl⟩
theorem dS_read_49 : xw_D prog_1_method_4_code 49 (.aload_n 0) 1 50 := ⟨by decide +kernel, rfl⟩
theorem dS_read_50 : xw_D prog_1_method_4_code 50 (.aload_n 1) 1 51 := ⟨by decide +kernel, rfl⟩
theorem dS_read_51 : xw_D prog_1_method_4_code 51 (.invokevirtual 78) 3 54 := ⟨by decide +kernel, rfl⟩
theorem dS_read_54 : xw_D prog_1_method_4_code 54 (.putfield 40) 3 57 := ⟨by decide +kernel, rfl⟩
theorem dS_read_57 : xw_D prog_1_method_4_code 57 (.new 80) 3 60 := ⟨by decide +kernel, rfl⟩
theorem dS_read_60 : xw_D prog_1_method_4_code 60 (.dup) 1 61 := ⟨by decide +kernel, rfl⟩
theorem dS_read_61 : xw_D prog_1_method_4_code 61 (.invokespecial 82) 3 64 := ⟨by decide +kernel, rfl⟩
theorem dS_read_64 : xw_D prog_1_method_4_code 64 (.athrow) 1 65 := ⟨by decide +kernel, rfl⟩
theorem dS_read_65 : xw_D prog_1_method_4_code 65 (.aload_n 0) 1 66 := ⟨by decide +kernel, rfl⟩
theorem dS_read_66 : xw_D prog_1_method_4_code 66 (.iconst (-1)) 1 67 := ⟨by decide +kernel, rfl⟩
theorem dS_read_67 : xw_D prog_1_method_4_code 67 (.putfield 40) 3 70 := ⟨by decide +kernel, rfl⟩
theorem dS_read_70 : xw_D prog_1_method_4_code 70 (.aload_n 0) 1 71 := ⟨by decide +kernel, rfl⟩
theorem dS_read_71 : xw_D prog_1_method_4_code 71 (.invokevirtual 83) 3 74 := ⟨by decide +kernel, rfl⟩
theorem dS_read_74 : xw_D prog_1_method_4_code 74 (.ireturn) 1 75 := ⟨by decide +kernel, rfl⟩
/-- FormulaShaper.copy -/
def mS_copy (R : Room) : xw_M := (⟨"FormulaShaper", "copy", "(II)I"⟩, prog_1_method_5_code, 3, (some (.int)), R, [])
theorem dS_copy_0 : xw_D prog_1_method_5_code 0 (.iload_n 1) 1 1 := ⟨by decide +kernel, rfl⟩
theorem dS_copy_1 : xw_D prog_1_method_5_code 1 (.invokestatic 86) 3 4 := ⟨by decide +kernel, rfl⟩
theorem dS_copy_4 : xw_D prog_1_method_5_code 4 (.ifCond .ne 10) 3 7 := ⟨by decide +kernel, rfl⟩
theorem dS_copy_7 : xw_D prog_1_method_5_code 7 (.iload_n 2) 1 8 := ⟨by decide +kernel, rfl⟩
theorem dS_copy_8 : xw_D prog_1_method_5_code 8 (.invokestatic 86) 3 11 := ⟨by decide +kernel, rfl⟩
theorem dS_copy_11 : xw_D prog_1_method_5_code 11 (.ifCond .eq 11) 3 14 := ⟨by decide +kernel, rfl⟩
theorem dS_copy_14 : xw_D prog_1_method_5_code 14 (.new 55) 3 17 := ⟨by decide +kernel, rfl⟩
theorem dS_copy_17 : xw_D prog_1_method_5_code 17 (.dup) 1 18 := ⟨by decide +kernel, rfl⟩
theorem dS_copy_18 : xw_D prog_1_method_5_code 18 (.invokespecial 57) 3 21 := ⟨by decide +kernel, rfl⟩
theorem dS_copy_21 : xw_D prog_1_method_5_code 21 (.athrow) 1 22 := ⟨by decide +kernel, rfl⟩
theorem dS_copy_22 : xw_D prog_1_method_5_code 22 (.aload_n 0) 1 23 := ⟨by decide +kernel, rfl⟩
theorem dS_copy_23 : xw_D prog_1_method_5_code 23 (.new 90) 3 26 := ⟨by decide +kernel, rfl⟩
theorem dS_copy_26 : xw_D prog_1_method_5_code 26 (.dup) 1 27 := ⟨by decide +kernel, rfl⟩
theorem dS_copy_27 : xw_D prog_1_method_5_code 27 (.iload_n 1) 1 28 := ⟨by decide +kernel, rfl⟩
theorem dS_copy_28 : xw_D prog_1_method_5_code 28 (.iload_n 2) 1 29 := ⟨by decide +kernel, rfl⟩
theorem dS_copy_29 : xw_D prog_1_method_5_code 29 (.invokespecial 92) 3 32 := ⟨by decide +kernel, rfl⟩
theorem dS_copy_32 : xw_D prog_1_method_5_code 32 (.invokevirtual 95) 3 35 := ⟨by decide +kernel, rfl⟩
theorem dS_copy_35 : xw_D prog_1_method_5_code 35 (.ireturn) 1 36 := ⟨by decide +kernel, rfl⟩
/-- FormulaShaper.insert -/
def mS_insert (R : Room) : xw_M := (⟨"FormulaShaper", "insert", "(ZII)I"⟩, prog_1_method_6_code, 4, (some (.int)), R, [])
theorem dS_insert_0 : xw_D prog_1_method_6_code 0 (.iload_n 1) 1 1 := ⟨by decide +kernel, rfl⟩
theorem dS_insert_1 : xw_D prog_1_method_6_code 1 (.iload_n 2) 1 2 := ⟨by decide +kernel, rfl⟩
theorem dS_insert_2 : xw_D prog_1_method_6_code 2 (.iload_n 3) 1 3 := ⟨by decide +kernel, rfl⟩
theorem dS_insert_3 : xw_D prog_1_method_6_code 3 (.invokestatic 99) 3 6 := ⟨by decide +kernel, rfl⟩
theorem dS_insert_6 : xw_D prog_1_method_6_code 6 (.ifCond .eq 11) 3 9 := ⟨by decide +kernel, rfl⟩
theorem dS_insert_9 : xw_D prog_1_method_6_code 9 (.new 55) 3 12 := ⟨by decide +kernel, rfl⟩
theorem dS_insert_12 : xw_D prog_1_method_6_code 12 (.dup) 1 13 := ⟨by decide +kernel, rfl⟩
theorem dS_insert_13 : xw_D prog_1_method_6_code 13 (.invokespecial 57) 3 16 := ⟨by decide +kernel, rfl⟩
theorem dS_insert_16 : xw_D prog_1_method_6_code 16 (.athrow) 1 17 := ⟨by decide +kernel, rfl⟩
theorem dS_insert_17 : xw_D prog_1_method_6_code 17 (.aload_n 0) 1 18 := ⟨by decide +kernel, rfl⟩
theorem dS_insert_18 : xw_D prog_1_method_6_code 18 (.new 103) 3 21 := ⟨by decide +kernel, rfl⟩
theorem dS_insert_21 : xw_D prog_1_method_6_code 21 (.dup) 1 22 := ⟨by decide +kernel, rfl⟩
theorem dS_insert_22 : xw_D prog_1_method_6_code 22 (.iload_n 1) 1 23 := ⟨by decide +kernel, rfl⟩
theorem dS_insert_23 : xw_D prog_1_method_6_code 23 (.iload_n 2) 1 24 := ⟨by decide +kernel, rfl⟩
theorem dS_insert_24 : xw_D prog_1_method_6_code 24 (.iload_n 3) 1 25 := ⟨by decide +kernel, rfl⟩
theorem dS_insert_25 : xw_D prog_1_method_6_code 25 (.invokespecial 105) 3 28 := ⟨by decide +kernel, rfl⟩
theorem dS_insert_28 : xw_D prog_1_method_6_code 28 (.invokevirtual 95) 3 31 := ⟨by decide +kernel, rfl⟩
theorem dS_insert_31 : xw_D prog_1_method_6_code 31 (.ireturn) 1 32 := ⟨by decide +kernel, rfl⟩
/-- FormulaShaper.remove -/
def mS_remove (R : Room) : xw_M := (⟨"FormulaShaper", "remove", "(ZII)I"⟩, prog_1_method_7_code, 4, (some (.int)), R, [])
theorem dS_remove_0 : xw_D prog_1_method_7_code 0 (.iload_n 1) 1 1 := ⟨by decide +kernel, rfl⟩
theorem dS_remove_1 : xw_D prog_1_method_7_code 1 (.iload_n 2) 1 2 := ⟨by decide +kernel, rfl⟩
theorem dS_remove_2 : xw_D prog_1_method_7_code 2 (.iload_n 3) 1 3 := ⟨by decide +kernel, rfl⟩
theorem dS_remove_3 : xw_D prog_1_method_7_code 3 (.invokestatic 99) 3 6 := ⟨by decide +kernel, rfl⟩
theorem dS_remove_6 : xw_D prog_1_method_7_code 6 (.ifCond .eq 11) 3 9 := ⟨by decide +kernel, rfl⟩
theorem dS_remove_9 : xw_D prog_1_method_7_code 9 (.new 55) 3 12 := ⟨by decide +kernel, rfl⟩
theorem dS_remove_12 : xw_D prog_1_method_7_code 12 (.dup) 1 13 := ⟨by decide +kernel, rfl⟩
theorem dS_remove_13 : xw_D prog_1_method_7_code 13 (.invokespecial 57) 3 16 := ⟨by decide +kernel, rfl⟩
theorem dS_remove_16 : xw_D prog_1_method_7_code 16 (.athrow) 1 17 := ⟨by decide +kernel, rfl⟩
theorem dS_remove_17 : xw_D prog_1_method_7_code 17 (.aload_n 0) 1 18 := ⟨by decide +kernel, rfl⟩
theorem dS_remove_18 : xw_D prog_1_method_7_code 18 (.new 103) 3 21 := ⟨by decide +kernel, rfl⟩
theorem dS_remove_21 : xw_D prog_1_method_7_code 21 (.dup) 1 22 := ⟨by decide +kernel, rfl⟩
theorem dS_remove_22 : xw_D prog_1_method_7_code 22 (.iload_n 1) 1 23 := ⟨by decide +kernel, rfl⟩
theorem dS_remove_23 : xw_D prog_1_method_7_code 23 (.iload_n 2) 1 24 := ⟨by decide +kernel, rfl⟩
theorem dS_remove_24 : xw_D prog_1_method_7_code 24 (.iload_n 3) 1 25 := ⟨by decide +kernel, rfl⟩
theorem dS_remove_25 : xw_D prog_1_method_7_code 25 (.ineg) 1 26 := ⟨by decide +kernel, rfl⟩
theorem dS_remove_26 : xw_D prog_1_method_7_code 26 (.invokespecial 105) 3 29 := ⟨by decide +kernel, rfl⟩
theorem dS_remove_29 : xw_D prog_1_method_7_code 29 (.invokevirtual 95) 3 32 := ⟨by decide +kernel, rfl⟩
theorem dS_remove_32 : xw_D prog_1_method_7_code 32 (.ireturn) 1 33 := ⟨by decide +kernel, rfl⟩
theorem oP_3 : xw_OI "FormulaShaper$Splitter" 3 := tw_236
theorem oG_3 : xw_OI "FormulaShaper$Grammar" 3 := tw_536
theorem oV_1 : xw_OI "FormulaShaper$Move" 1 := tw_699
theorem kS_158 (R : Room) : xw_KV "FormulaShaper" 158 (mF_width R) 0 := ⟨⟨rfl, tw_676, tw_4, tw_679, (show (("FormulaShaper$Formula" : String) ≠ "java/lang/invoke/MethodHandle" ∧ ("FormulaShaper$Formula" : String) ≠ "java/lang/invoke/VarHandle") by decide), (show (parseMethodDescriptor "()I").map (fun d => d.parameters.length) = some 0 by decide +kernel)⟩, tw_677, tw_678⟩
theorem kS_154 (R : Room) : xw_KV "FormulaShaper" 154 (mF_takeMoved R) 2 := ⟨⟨rfl, tw_730, tw_4, tw_733, (show (("FormulaShaper$Formula" : String) ≠ "java/lang/invoke/MethodHandle" ∧ ("FormulaShaper$Formula" : String) ≠ "java/lang/invoke/VarHandle") by decide), (show (parseMethodDescriptor "(LFormulaShaper$Formula;LFormulaShaper$Move;)V").map (fun d => d.parameters.length) = some 2 by decide +kernel)⟩, tw_731, tw_732⟩
theorem kS_83 (R : Room) : xw_KV "FormulaShaper" 83 (mS_settle R) 0 := ⟨⟨rfl, tw_672, tw_1, tw_675, (show (("FormulaShaper" : String) ≠ "java/lang/invoke/MethodHandle" ∧ ("FormulaShaper" : String) ≠ "java/lang/invoke/VarHandle") by decide), (show (parseMethodDescriptor "()I").map (fun d => d.parameters.length) = some 0 by decide +kernel)⟩, tw_674, ts_39⟩
theorem kS_86 (R : Room) : xw_KS "FormulaShaper" 86 (mS_isTooFar R) 1 := ⟨⟨rfl, tw_688, tw_1, tw_690, (show (("FormulaShaper" : String) ≠ "java/lang/invoke/MethodHandle" ∧ ("FormulaShaper" : String) ≠ "java/lang/invoke/VarHandle") by decide), (show (parseMethodDescriptor "(I)Z").map (fun d => d.parameters.length) = some 1 by decide +kernel)⟩, tw_689⟩
theorem nS_90 : xw_N "FormulaShaper" 90 6 2 [.int 0, .int 0] := ⟨"FormulaShaper$Copying", xT6, xY6, rfl, xi6, xy6, by decide +kernel, fun _ => rfl, ⟨trivial, trivial, trivial⟩, tw_691, tw_692, tw_26⟩
theorem kS_92 (R : Room) : xw_KI "FormulaShaper" 92 (mC_init R) 2 := ⟨⟨rfl, tw_693, tw_26, tw_695, (show (("FormulaShaper$Copying" : String) ≠ "java/lang/invoke/MethodHandle" ∧ ("FormulaShaper$Copying" : String) ≠ "java/lang/invoke/VarHandle") by decide), (show (parseMethodDescriptor "(II)V").map (fun d => d.parameters.length) = some 2 by decide +kernel)⟩, tw_694, rfl, rfl⟩
theorem kS_95 (R : Room) : xw_KV "FormulaShaper" 95 (mS_change R) 1 := ⟨⟨rfl, tw_707, tw_1, tw_710, (show (("FormulaShaper" : String) ≠ "java/lang/invoke/MethodHandle" ∧ ("FormulaShaper" : String) ≠ "java/lang/invoke/VarHandle") by decide), (show (parseMethodDescriptor "(LFormulaShaper$Move;)I").map (fun d => d.parameters.length) = some 1 by decide +kernel)⟩, tw_709, ts_40⟩
theorem kS_99 (R : Room) : xw_KS "FormulaShaper" 99 (mS_isOffSheet R) 3 := ⟨⟨rfl, tw_795, tw_1, tw_797, (show (("FormulaShaper" : String) ≠ "java/lang/invoke/MethodHandle" ∧ ("FormulaShaper" : String) ≠ "java/lang/invoke/VarHandle") by decide), (show (parseMethodDescriptor "(ZII)Z").map (fun d => d.parameters.length) = some 3 by decide +kernel)⟩, tw_796⟩
theorem nS_103 : xw_N "FormulaShaper" 103 7 3 [.int 0, .int 0, .int 0] := ⟨"FormulaShaper$Shifting", xT7, xY7, rfl, xi7, xy7, by decide +kernel, fun _ => rfl, ⟨trivial, trivial, trivial, trivial⟩, tw_798, tw_799, tw_28⟩
theorem kS_105 (R : Room) : xw_KI "FormulaShaper" 105 (mH_init R) 3 := ⟨⟨rfl, tw_800, tw_28, tw_802, (show (("FormulaShaper$Shifting" : String) ≠ "java/lang/invoke/MethodHandle" ∧ ("FormulaShaper$Shifting" : String) ≠ "java/lang/invoke/VarHandle") by decide), (show (parseMethodDescriptor "(ZII)V").map (fun d => d.parameters.length) = some 3 by decide +kernel)⟩, tw_801, rfl, rfl⟩
theorem nS_61 : xw_N "FormulaShaper" 61 4 4 [.null, .null, .null, .int 0] := ⟨"FormulaShaper$Splitter", xT4, xY4, rfl, xi4, xy4, by decide +kernel, fun _ => rfl, ⟨trivial, trivial, trivial, trivial, trivial⟩, tw_231, tw_232, tw_15⟩
theorem kS_63 (R : Room) : xw_KI "FormulaShaper" 63 (mP_init R) 3 := ⟨⟨rfl, tw_233, tw_15, tw_235, (show (("FormulaShaper$Splitter" : String) ≠ "java/lang/invoke/MethodHandle" ∧ ("FormulaShaper$Splitter" : String) ≠ "java/lang/invoke/VarHandle") by decide), (show (parseMethodDescriptor "(LFormulaShaper$Bytes;LFormulaShaper$Things;LFormulaShaper$Formula;)V").map (fun d => d.parameters.length) = some 3 by decide +kernel)⟩, tw_234, rfl, rfl⟩
theorem kS_66 (R : Room) : xw_KV "FormulaShaper" 66 (mP_split R) 0 := ⟨⟨rfl, tw_250, tw_15, tw_253, (show (("FormulaShaper$Splitter" : String) ≠ "java/lang/invoke/MethodHandle" ∧ ("FormulaShaper$Splitter" : String) ≠ "java/lang/invoke/VarHandle") by decide), (show (parseMethodDescriptor "()V").map (fun d => d.parameters.length) = some 0 by decide +kernel)⟩, tw_251, tw_252⟩
theorem nS_69 : xw_N "FormulaShaper" 69 5 3 [.null, .int 0, .int 0] := ⟨"FormulaShaper$Grammar", xT5, xY5, rfl, xi5, xy5, by decide +kernel, fun _ => rfl, ⟨trivial, trivial, trivial, trivial⟩, tw_531, tw_532, tw_22⟩
theorem kS_71 (R : Room) : xw_KI "FormulaShaper" 71 (mG_init R) 1 := ⟨⟨rfl, tw_533, tw_22, tw_535, (show (("FormulaShaper$Grammar" : String) ≠ "java/lang/invoke/MethodHandle" ∧ ("FormulaShaper$Grammar" : String) ≠ "java/lang/invoke/VarHandle") by decide), (show (parseMethodDescriptor "(LFormulaShaper$Things;)V").map (fun d => d.parameters.length) = some 1 by decide +kernel)⟩, tw_534, rfl, rfl⟩
theorem kS_74 (R : Room) : xw_KV "FormulaShaper" 74 (mG_takesFormula R) 0 := ⟨⟨rfl, tw_547, tw_22, tw_550, (show (("FormulaShaper$Grammar" : String) ≠ "java/lang/invoke/MethodHandle" ∧ ("FormulaShaper$Grammar" : String) ≠ "java/lang/invoke/VarHandle") by decide), (show (parseMethodDescriptor "()Z").map (fun d => d.parameters.length) = some 0 by decide +kernel)⟩, tw_548, tw_549⟩
theorem kS_78 (R : Room) : xw_KV "FormulaShaper" 78 (mG_place R) 0 := ⟨⟨rfl, tw_649, tw_22, tw_652, (show (("FormulaShaper$Grammar" : String) ≠ "java/lang/invoke/MethodHandle" ∧ ("FormulaShaper$Grammar" : String) ≠ "java/lang/invoke/VarHandle") by decide), (show (parseMethodDescriptor "()I").map (fun d => d.parameters.length) = some 0 by decide +kernel)⟩, tw_650, tw_651⟩
theorem tS_80 : xw_TW "FormulaShaper" 80 82 "java/lang/UnsupportedOperationException" ["java/lang/RuntimeException", "java/lang/Exception"] := ⟨by decide +kernel, by decide +kernel, tw_657, tw_23, by decide +kernel, by decide +kernel⟩
