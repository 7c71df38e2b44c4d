/-- FormulaShaper$Span.edge -/
def mA_edge (R : Room) : xw_M := (⟨"FormulaShaper$Span", "edge", "(IZ)I"⟩, prog_10_method_2_code, 2, (some (.int)), R, [])
theorem dA_edge_0 : xw_D prog_10_method_2_code 0 (.iload_n 0) 1 1 := ⟨by decide +kernel, rfl⟩
theorem dA_edge_1 : xw_D prog_10_method_2_code 1 (.iconst 1) 1 2 := ⟨by decide +kernel, rfl⟩
theorem dA_edge_2 : xw_D prog_10_method_2_code 2 (.ishl) 1 3 := ⟨by decide +kernel, rfl⟩
theorem dA_edge_3 : xw_D prog_10_method_2_code 3 (.iload_n 1) 1 4 := ⟨by decide +kernel, rfl⟩
theorem dA_edge_4 : xw_D prog_10_method_2_code 4 (.ifCond .eq 7) 3 7 := ⟨by decide +kernel, rfl⟩
theorem dA_edge_7 : xw_D prog_10_method_2_code 7 (.iconst 1) 1 8 := ⟨by decide +kernel, rfl⟩
theorem dA_edge_8 : xw_D prog_10_method_2_code 8 (.goto 4) 3 11 := ⟨by decide +kernel, rfl⟩
theorem dA_edge_11 : xw_D prog_10_method_2_code 11 (.iconst 0) 1 12 := ⟨by decide +kernel, rfl⟩
theorem dA_edge_12 : xw_D prog_10_method_2_code 12 (.ior) 1 13 := ⟨by decide +kernel, rfl⟩
theorem dA_edge_13 : xw_D prog_10_method_2_code 13 (.ireturn) 1 14 := ⟨by decide +kernel, rfl⟩
/-- FormulaShaper$Span.number -/
def mA_number (R : Room) : xw_M := (⟨"FormulaShaper$Span", "number", "(I)I"⟩, prog_10_method_3_code, 1, (some (.int)), R, [])
theorem dA_number_0 : xw_D prog_10_method_3_code 0 (.iload_n 0) 1 1 := ⟨by decide +kernel, rfl⟩
theorem dA_number_1 : xw_D prog_10_method_3_code 1 (.iconst 1) 1 2 := ⟨by decide +kernel, rfl⟩
theorem dA_number_2 : xw_D prog_10_method_3_code 2 (.ishr) 1 3 := ⟨by decide +kernel, rfl⟩
theorem dA_number_3 : xw_D prog_10_method_3_code 3 (.ireturn) 1 4 := ⟨by decide +kernel, rfl⟩
/-- FormulaShaper$Span.isFixed -/
def mA_isFixed (R : Room) : xw_M := (⟨"FormulaShaper$Span", "isFixed", "(I)Z"⟩, prog_10_method_4_code, 1, (some (.boolean)), R, [])
theorem dA_isFixed_0 : xw_D prog_10_method_4_code 0 (.iload_n 0) 1 1 := ⟨by decide +kernel, rfl⟩
theorem dA_isFixed_1 : xw_D prog_10_method_4_code 1 (.iconst 1) 1 2 := ⟨by decide +kernel, rfl⟩
theorem dA_isFixed_2 : xw_D prog_10_method_4_code 2 (.iand) 1 3 := ⟨by decide +kernel, rfl⟩
theorem dA_isFixed_3 : xw_D prog_10_method_4_code 3 (.ifCond .eq 7) 3 6 := ⟨by decide +kernel, rfl⟩
theorem dA_isFixed_6 : xw_D prog_10_method_4_code 6 (.iconst 1) 1 7 := ⟨by decide +kernel, rfl⟩
theorem dA_isFixed_7 : xw_D prog_10_method_4_code 7 (.goto 4) 3 10 := ⟨by decide +kernel, rfl⟩
theorem dA_isFixed_10 : xw_D prog_10_method_4_code 10 (.iconst 0) 1 11 := ⟨by decide +kernel, rfl⟩
theorem dA_isFixed_11 : xw_D prog_10_method_4_code 11 (.ireturn) 1 12 := ⟨by decide +kernel, rfl⟩
/-- FormulaShaper$Span.first -/
def mA_first (R : Room) : xw_M := (⟨"FormulaShaper$Span", "first", "(I)I"⟩, prog_10_method_5_code, 1, (some (.int)), R, [])
theorem dA_first_0 : xw_D prog_10_method_5_code 0 (.iload_n 0) 1 1 := ⟨by decide +kernel, rfl⟩
theorem dA_first_1 : xw_D prog_10_method_5_code 1 (.sipush 255) 3 4 := ⟨by decide +kernel, rfl⟩
theorem dA_first_4 : xw_D prog_10_method_5_code 4 (.iand) 1 5 := ⟨by decide +kernel, rfl⟩
theorem dA_first_5 : xw_D prog_10_method_5_code 5 (.ireturn) 1 6 := ⟨by decide +kernel, rfl⟩
/-- FormulaShaper$Span.last -/
def mA_last (R : Room) : xw_M := (⟨"FormulaShaper$Span", "last", "(I)I"⟩, prog_10_method_6_code, 1, (some (.int)), R, [])
theorem dA_last_0 : xw_D prog_10_method_6_code 0 (.iload_n 0) 1 1 := ⟨by decide +kernel, rfl⟩
theorem dA_last_1 : xw_D prog_10_method_6_code 1 (.bipush 8) 2 3 := ⟨by decide +kernel, rfl⟩
theorem dA_last_3 : xw_D prog_10_method_6_code 3 (.ishr) 1 4 := ⟨by decide +kernel, rfl⟩
theorem dA_last_4 : xw_D prog_10_method_6_code 4 (.sipush 255) 3 7 := ⟨by decide +kernel, rfl⟩
theorem dA_last_7 : xw_D prog_10_method_6_code 7 (.iand) 1 8 := ⟨by decide +kernel, rfl⟩
theorem dA_last_8 : xw_D prog_10_method_6_code 8 (.ireturn) 1 9 := ⟨by decide +kernel, rfl⟩
/-- FormulaShaper$Span.of -/
def mA_of (R : Room) : xw_M := (⟨"FormulaShaper$Span", "of", "(II)I"⟩, prog_10_method_7_code, 3, (some (.int)), R, [])
theorem dA_of_0 : xw_D prog_10_method_7_code 0 (.iload_n 0) 1 1 := ⟨by decide +kernel, rfl⟩
theorem dA_of_1 : xw_D prog_10_method_7_code 1 (.invokestatic 9) 3 4 := ⟨by decide +kernel, rfl⟩
theorem dA_of_4 : xw_D prog_10_method_7_code 4 (.iload_n 1) 1 5 := ⟨by decide +kernel, rfl⟩
theorem dA_of_5 : xw_D prog_10_method_7_code 5 (.invokestatic 9) 3 8 := ⟨by decide +kernel, rfl⟩
theorem dA_of_8 : xw_D prog_10_method_7_code 8 (.if_icmp .le 7) 3 11 := ⟨by decide +kernel, rfl⟩
theorem dA_of_11 : xw_D prog_10_method_7_code 11 (.iconst 1) 1 12 := ⟨by decide +kernel, rfl⟩
theorem dA_of_12 : xw_D prog_10_method_7_code 12 (.goto 4) 3 15 := ⟨by decide +kernel, rfl⟩
theorem dA_of_15 : xw_D prog_10_method_7_code 15 (.iconst 0) 1 16 := ⟨by decide +kernel, rfl⟩
theorem dA_of_16 : xw_D prog_10_method_7_code 16 (.istore_n 2) 1 17 := ⟨by decide +kernel, rfl⟩
theorem dA_of_17 : xw_D prog_10_method_7_code 17 (.iload_n 2) 1 18 := ⟨by decide +kernel, rfl⟩
theorem dA_of_18 : xw_D prog_10_method_7_code 18 (.ifCond .eq 12) 3 21 := ⟨by decide +kernel, rfl⟩
theorem dA_of_21 : xw_D prog_10_method_7_code 21 (.iload_n 1) 1 22 := ⟨by decide +kernel, rfl⟩
theorem dA_of_22 : xw_D prog_10_method_7_code 22 (.iload_n 0) 1 23 := ⟨by decide +kernel, rfl⟩
theorem dA_of_23 : xw_D prog_10_method_7_code 23 (.bipush 8) 2 25 := ⟨by decide +kernel, rfl⟩
theorem dA_of_25 : xw_D prog_10_method_7_code 25 (.ishl) 1 26 := ⟨by decide +kernel, rfl⟩
theorem dA_of_26 : xw_D prog_10_method_7_code 26 (.ior) 1 27 := ⟨by decide +kernel, rfl⟩
theorem dA_of_27 : xw_D prog_10_method_7_code 27 (.goto 9) 3 30 := ⟨by decide +kernel, rfl⟩
theorem dA_of_30 : xw_D prog_10_method_7_code 30 (.iload_n 0) 1 31 := ⟨by decide +kernel, rfl⟩
theorem dA_of_31 : xw_D prog_10_method_7_code 31 (.iload_n 1) 1 32 := ⟨by decide +kernel, rfl⟩
theorem dA_of_32 : xw_D prog_10_method_7_code 32 (.bipush 8) 2 34 := ⟨by decide +kernel, rfl⟩
theorem dA_of_34 : xw_D prog_10_method_7_code 34 (.ishl) 1 35 := ⟨by decide +kernel, rfl⟩
theorem dA_of_35 : xw_D prog_10_method_7_code 35 (.ior) 1 36 := ⟨by decide +kernel, rfl⟩
theorem dA_of_36 : xw_D prog_10_method_7_code 36 (.ireturn) 1 37 := ⟨by decide +kernel, rfl⟩
/-- FormulaShaper$Span.copiedEdge -/
def mA_copiedEdge (R : Room) : xw_M := (⟨"FormulaShaper$Span", "copiedEdge", "(III)I"⟩, prog_10_method_9_code, 4, (some (.int)), R, [])
theorem dA_copiedEdge_0 : xw_D prog_10_method_9_code 0 (.iload_n 0) 1 1 := ⟨by decide +kernel, rfl⟩
theorem dA_copiedEdge_1 : xw_D prog_10_method_9_code 1 (.invokestatic 27) 3 4 := ⟨by decide +kernel, rfl⟩
theorem dA_copiedEdge_4 : xw_D prog_10_method_9_code 4 (.ifCond .eq 5) 3 7 := ⟨by decide +kernel, rfl⟩
theorem dA_copiedEdge_7 : xw_D prog_10_method_9_code 7 (.iload_n 0) 1 8 := ⟨by decide +kernel, rfl⟩
theorem dA_copiedEdge_8 : xw_D prog_10_method_9_code 8 (.ireturn) 1 9 := ⟨by decide +kernel, rfl⟩
theorem dA_copiedEdge_9 : xw_D prog_10_method_9_code 9 (.iload_n 0) 1 10 := ⟨by decide +kernel, rfl⟩
theorem dA_copiedEdge_10 : xw_D prog_10_method_9_code 10 (.invokestatic 9) 3 13 := ⟨by decide +kernel, rfl⟩
theorem dA_copiedEdge_13 : xw_D prog_10_method_9_code 13 (.iload_n 1) 1 14 := ⟨by decide +kernel, rfl⟩
theorem dA_copiedEdge_14 : xw_D prog_10_method_9_code 14 (.iadd) 1 15 := ⟨by decide +kernel, rfl⟩
theorem dA_copiedEdge_15 : xw_D prog_10_method_9_code 15 (.istore_n 3) 1 16 := ⟨by decide +kernel, rfl⟩
theorem dA_copiedEdge_16 : xw_D prog_10_method_9_code 16 (.iload_n 3) 1 17 := ⟨by decide +kernel, rfl⟩
theorem dA_copiedEdge_17 : xw_D prog_10_method_9_code 17 (.ifCond .lt 8) 3 20 := ⟨by decide +kernel, rfl⟩
theorem dA_copiedEdge_20 : xw_D prog_10_method_9_code 20 (.iload_n 3) 1 21 := ⟨by decide +kernel, rfl⟩
theorem dA_copiedEdge_21 : xw_D prog_10_method_9_code 21 (.iload_n 2) 1 22 := ⟨by decide +kernel, rfl⟩
theorem dA_copiedEdge_22 : xw_D prog_10_method_9_code 22 (.if_icmp .lt 7) 3 25 := ⟨by decide +kernel, rfl⟩
theorem dA_copiedEdge_25 : xw_D prog_10_method_9_code 25 (.iconst (-1)) 1 26 := ⟨by decide +kernel, rfl⟩
theorem dA_copiedEdge_26 : xw_D prog_10_method_9_code 26 (.goto 8) 3 29 := ⟨by decide +kernel, rfl⟩
theorem dA_copiedEdge_29 : xw_D prog_10_method_9_code 29 (.iload_n 3) 1 30 := ⟨by decide +kernel, rfl⟩
theorem dA_copiedEdge_30 : xw_D prog_10_method_9_code 30 (.iconst 0) 1 31 := ⟨by decide +kernel, rfl⟩
theorem dA_copiedEdge_31 : xw_D prog_10_method_9_code 31 (.invokestatic 31) 3 34 := ⟨by decide +kernel, rfl⟩
theorem dA_copiedEdge_34 : xw_D prog_10_method_9_code 34 (.ireturn) 1 35 := ⟨by decide +kernel, rfl⟩
/-- FormulaShaper$Span.copied -/
def mA_copied (R : Room) : xw_M := (⟨"FormulaShaper$Span", "copied", "(III)I"⟩, prog_10_method_8_code, 5, (some (.int)), R, [])
theorem dA_copied_0 : xw_D prog_10_method_8_code 0 (.iload_n 0) 1 1 := ⟨by decide +kernel, rfl⟩
theorem dA_copied_1 : xw_D prog_10_method_8_code 1 (.invokestatic 13) 3 4 := ⟨by decide +kernel, rfl⟩
theorem dA_copied_4 : xw_D prog_10_method_8_code 4 (.iload_n 1) 1 5 := ⟨by decide +kernel, rfl⟩
theorem dA_copied_5 : xw_D prog_10_method_8_code 5 (.iload_n 2) 1 6 := ⟨by decide +kernel, rfl⟩
theorem dA_copied_6 : xw_D prog_10_method_8_code 6 (.invokestatic 16) 3 9 := ⟨by decide +kernel, rfl⟩
theorem dA_copied_9 : xw_D prog_10_method_8_code 9 (.istore_n 3) 1 10 := ⟨by decide +kernel, rfl⟩
theorem dA_copied_10 : xw_D prog_10_method_8_code 10 (.iload_n 0) 1 11 := ⟨by decide +kernel, rfl⟩
theorem dA_copied_11 : xw_D prog_10_method_8_code 11 (.invokestatic 20) 3 14 := ⟨by decide +kernel, rfl⟩
theorem dA_copied_14 : xw_D prog_10_method_8_code 14 (.iload_n 1) 1 15 := ⟨by decide +kernel, rfl⟩
theorem dA_copied_15 : xw_D prog_10_method_8_code 15 (.iload_n 2) 1 16 := ⟨by decide +kernel, rfl⟩
theorem dA_copied_16 : xw_D prog_10_method_8_code 16 (.invokestatic 16) 3 19 := ⟨by decide +kernel, rfl⟩
theorem dA_copied_19 : xw_D prog_10_method_8_code 19 (.istore 4) 2 21 := ⟨by decide +kernel, rfl⟩
theorem dA_copied_21 : xw_D prog_10_method_8_code 21 (.iload_n 3) 1 22 := ⟨by decide +kernel, rfl⟩
theorem dA_copied_22 : xw_D prog_10_method_8_code 22 (.iconst (-1)) 1 23 := ⟨by decide +kernel, rfl⟩
theorem dA_copied_23 : xw_D prog_10_method_8_code 23 (.if_icmp .eq 9) 3 26 := ⟨by decide +kernel, rfl⟩
theorem dA_copied_26 : xw_D prog_10_method_8_code 26 (.iload 4) 2 28 := ⟨by decide +kernel, rfl⟩
theorem dA_copied_28 : xw_D prog_10_method_8_code 28 (.iconst (-1)) 1 29 := ⟨by decide +kernel, rfl⟩
theorem dA_copied_29 : xw_D prog_10_method_8_code 29 (.if_icmp .ne 7) 3 32 := ⟨by decide +kernel, rfl⟩
theorem dA_copied_32 : xw_D prog_10_method_8_code 32 (.iconst (-1)) 1 33 := ⟨by decide +kernel, rfl⟩
theorem dA_copied_33 : xw_D prog_10_method_8_code 33 (.goto 9) 3 36 := ⟨by decide +kernel, rfl⟩
theorem dA_copied_36 : xw_D prog_10_method_8_code 36 (.iload_n 3) 1 37 := ⟨by decide +kernel, rfl⟩
theorem dA_copied_37 : xw_D prog_10_method_8_code 37 (.iload 4) 2 39 := ⟨by decide +kernel, rfl⟩
theorem dA_copied_39 : xw_D prog_10_method_8_code 39 (.invokestatic 23) 3 42 := ⟨by decide +kernel, rfl⟩
theorem dA_copied_42 : xw_D prog_10_method_8_code 42 (.ireturn) 1 43 := ⟨by decide +kernel, rfl⟩
/-- FormulaShaper$Span.goesTo -/
def mA_goesTo (R : Room) : xw_M := (⟨"FormulaShaper$Span", "goesTo", "(IIII)I"⟩, prog_10_method_11_code, 5, (some (.int)), R, [])
theorem dA_goesTo_0 : xw_D prog_10_method_11_code 0 (.iload_n 0) 1 1 := ⟨by decide +kernel, rfl⟩
theorem dA_goesTo_1 : xw_D prog_10_method_11_code 1 (.iload_n 1) 1 2 := ⟨by decide +kernel, rfl⟩
theorem dA_goesTo_2 : xw_D prog_10_method_11_code 2 (.if_icmp .ge 5) 3 5 := ⟨by decide +kernel, rfl⟩
theorem dA_goesTo_5 : xw_D prog_10_method_11_code 5 (.iload_n 0) 1 6 := ⟨by decide +kernel, rfl⟩
theorem dA_goesTo_6 : xw_D prog_10_method_11_code 6 (.ireturn) 1 7 := ⟨by decide +kernel, rfl⟩
theorem dA_goesTo_7 : xw_D prog_10_method_11_code 7 (.iload_n 0) 1 8 := ⟨by decide +kernel, rfl⟩
theorem dA_goesTo_8 : xw_D prog_10_method_11_code 8 (.iload_n 2) 1 9 := ⟨by decide +kernel, rfl⟩
theorem dA_goesTo_9 : xw_D prog_10_method_11_code 9 (.iadd) 1 10 := ⟨by decide +kernel, rfl⟩
theorem dA_goesTo_10 : xw_D prog_10_method_11_code 10 (.istore 4) 2 12 := ⟨by decide +kernel, rfl⟩
theorem dA_goesTo_12 : xw_D prog_10_method_11_code 12 (.iload 4) 2 14 := ⟨by decide +kernel, rfl⟩
theorem dA_goesTo_14 : xw_D prog_10_method_11_code 14 (.iload_n 1) 1 15 := ⟨by decide +kernel, rfl⟩
theorem dA_goesTo_15 : xw_D prog_10_method_11_code 15 (.if_icmp .lt 9) 3 18 := ⟨by decide +kernel, rfl⟩
theorem dA_goesTo_18 : xw_D prog_10_method_11_code 18 (.iload 4) 2 20 := ⟨by decide +kernel, rfl⟩
theorem dA_goesTo_20 : xw_D prog_10_method_11_code 20 (.iload_n 3) 1 21 := ⟨by decide +kernel, rfl⟩
theorem dA_goesTo_21 : xw_D prog_10_method_11_code 21 (.if_icmp .lt 7) 3 24 := ⟨by decide +kernel, rfl⟩
theorem dA_goesTo_24 : xw_D prog_10_method_11_code 24 (.iconst (-1)) 1 25 := ⟨by decide +kernel, rfl⟩
theorem dA_goesTo_25 : xw_D prog_10_method_11_code 25 (.goto 5) 3 28 := ⟨by decide +kernel, rfl⟩
theorem dA_goesTo_28 : xw_D prog_10_method_11_code 28 (.iload 4) 2 30 := ⟨by decide +kernel, rfl⟩
theorem dA_goesTo_30 : xw_D prog_10_method_11_code 30 (.ireturn) 1 31 := ⟨by decide +kernel, rfl⟩
/-- FormulaShaper$Reference.of -/
def mR_of (R : Room) : xw_M := (⟨"FormulaShaper$Reference", "of", "(IIZ)J"⟩, prog_8_method_2_code, 3, (some (.long)), R, [])
theorem dR_of_0 : xw_D prog_8_method_2_code 0 (.ldc2_w 9) 3 3 := ⟨by decide +kernel, rfl⟩
theorem dR_of_3 : xw_D prog_8_method_2_code 3 (.iload_n 2) 1 4 := ⟨by decide +kernel, rfl⟩
theorem dR_of_4 : xw_D prog_8_method_2_code 4 (.ifCond .eq 9) 3 7 := ⟨by decide +kernel, rfl⟩
theorem dR_of_7 : xw_D prog_8_method_2_code 7 (.ldc2_w 11) 3 10 := ⟨by decide +kernel, rfl⟩
theorem dR_of_10 : xw_D prog_8_method_2_code 10 (.goto 4) 3 13 := ⟨by decide +kernel, rfl⟩
theorem dR_of_13 : xw_D prog_8_method_2_code 13 (.lconst 0) 1 14 := ⟨by decide +kernel, rfl⟩
theorem dR_of_14 : xw_D prog_8_method_2_code 14 (.lor) 1 15 := ⟨by decide +kernel, rfl⟩
theorem dR_of_15 : xw_D prog_8_method_2_code 15 (.iload_n 1) 1 16 := ⟨by decide +kernel, rfl⟩
theorem dR_of_16 : xw_D prog_8_method_2_code 16 (.i2l) 1 17 := ⟨by decide +kernel, rfl⟩
theorem dR_of_17 : xw_D prog_8_method_2_code 17 (.bipush 16) 2 19 := ⟨by decide +kernel, rfl⟩
theorem dR_of_19 : xw_D prog_8_method_2_code 19 (.lshl) 1 20 := ⟨by decide +kernel, rfl⟩
theorem dR_of_20 : xw_D prog_8_method_2_code 20 (.lor) 1 21 := ⟨by decide +kernel, rfl⟩
theorem dR_of_21 : xw_D prog_8_method_2_code 21 (.iload_n 0) 1 22 := ⟨by decide +kernel, rfl⟩
theorem dR_of_22 : xw_D prog_8_method_2_code 22 (.i2l) 1 23 := ⟨by decide +kernel, rfl⟩
theorem dR_of_23 : xw_D prog_8_method_2_code 23 (.lor) 1 24 := ⟨by decide +kernel, rfl⟩
theorem dR_of_24 : xw_D prog_8_method_2_code 24 (.lreturn) 1 25 := ⟨by decide +kernel, rfl⟩
/-- FormulaShaper$Reference.isOne -/
def mR_isOne (R : Room) : xw_M := (⟨"FormulaShaper$Reference", "isOne", "(J)Z"⟩, prog_8_method_3_code, 2, (some (.boolean)), R, [])
theorem dR_isOne_0 : xw_D prog_8_method_3_code 0 (.lload_n 0) 1 1 := ⟨by decide +kernel, rfl⟩
theorem dR_isOne_1 : xw_D prog_8_method_3_code 1 (.ldc2_w 9) 3 4 := ⟨by decide +kernel, rfl⟩
theorem dR_isOne_4 : xw_D prog_8_method_3_code 4 (.land) 1 5 := ⟨by decide +kernel, rfl⟩
theorem dR_isOne_5 : xw_D prog_8_method_3_code 5 (.lconst 0) 1 6 := ⟨by decide +kernel, rfl⟩
theorem dR_isOne_6 : xw_D prog_8_method_3_code 6 (.lcmp) 1 7 := ⟨by decide +kernel, rfl⟩
theorem dR_isOne_7 : xw_D prog_8_method_3_code 7 (.ifCond .eq 7) 3 10 := ⟨by decide +kernel, rfl⟩
theorem dR_isOne_10 : xw_D prog_8_method_3_code 10 (.iconst 1) 1 11 := ⟨by decide +kernel, rfl⟩
theorem dR_isOne_11 : xw_D prog_8_method_3_code 11 (.goto 4) 3 14 := ⟨by decide +kernel, rfl⟩
theorem dR_isOne_14 : xw_D prog_8_method_3_code 14 (.iconst 0) 1 15 := ⟨by decide +kernel, rfl⟩
theorem dR_isOne_15 : xw_D prog_8_method_3_code 15 (.ireturn) 1 16 := ⟨by decide +kernel, rfl⟩
/-- FormulaShaper$Reference.rows -/
def mR_rows (R : Room) : xw_M := (⟨"FormulaShaper$Reference", "rows", "(J)I"⟩, prog_8_method_4_code, 2, (some (.int)), R, [])
theorem dR_rows_0 : xw_D prog_8_method_4_code 0 (.lload_n 0) 1 1 := ⟨by decide +kernel, rfl⟩
theorem dR_rows_1 : xw_D prog_8_method_4_code 1 (.l2i) 1 2 := ⟨by decide +kernel, rfl⟩
theorem dR_rows_2 : xw_D prog_8_method_4_code 2 (.ldc 13) 2 4 := ⟨by decide +kernel, rfl⟩
theorem dR_rows_4 : xw_D prog_8_method_4_code 4 (.iand) 1 5 := ⟨by decide +kernel, rfl⟩
theorem dR_rows_5 : xw_D prog_8_method_4_code 5 (.ireturn) 1 6 := ⟨by decide +kernel, rfl⟩
/-- FormulaShaper$Reference.columns -/
def mR_columns (R : Room) : xw_M := (⟨"FormulaShaper$Reference", "columns", "(J)I"⟩, prog_8_method_5_code, 2, (some (.int)), R, [])
theorem dR_columns_0 : xw_D prog_8_method_5_code 0 (.lload_n 0) 1 1 := ⟨by decide +kernel, rfl⟩
theorem dR_columns_1 : xw_D prog_8_method_5_code 1 (.bipush 16) 2 3 := ⟨by decide +kernel, rfl⟩
theorem dR_columns_3 : xw_D prog_8_method_5_code 3 (.lshr) 1 4 := ⟨by decide +kernel, rfl⟩
theorem dR_columns_4 : xw_D prog_8_method_5_code 4 (.l2i) 1 5 := ⟨by decide +kernel, rfl⟩
theorem dR_columns_5 : xw_D prog_8_method_5_code 5 (.ldc 13) 2 7 := ⟨by decide +kernel, rfl⟩
theorem dR_columns_7 : xw_D prog_8_method_5_code 7 (.iand) 1 8 := ⟨by decide +kernel, rfl⟩
theorem dR_columns_8 : xw_D prog_8_method_5_code 8 (.ireturn) 1 9 := ⟨by decide +kernel, rfl⟩
/-- FormulaShaper$Reference.isPair -/
def mR_isPair (R : Room) : xw_M := (⟨"FormulaShaper$Reference", "isPair", "(J)Z"⟩, prog_8_method_6_code, 2, (some (.boolean)), R, [])
theorem dR_isPair_0 : xw_D prog_8_method_6_code 0 (.lload_n 0) 1 1 := ⟨by decide +kernel, rfl⟩
theorem dR_isPair_1 : xw_D prog_8_method_6_code 1 (.ldc2_w 11) 3 4 := ⟨by decide +kernel, rfl⟩
theorem dR_isPair_4 : xw_D prog_8_method_6_code 4 (.land) 1 5 := ⟨by decide +kernel, rfl⟩
theorem dR_isPair_5 : xw_D prog_8_method_6_code 5 (.lconst 0) 1 6 := ⟨by decide +kernel, rfl⟩
theorem dR_isPair_6 : xw_D prog_8_method_6_code 6 (.lcmp) 1 7 := ⟨by decide +kernel, rfl⟩
theorem dR_isPair_7 : xw_D prog_8_method_6_code 7 (.ifCond .eq 7) 3 10 := ⟨by decide +kernel, rfl⟩
theorem dR_isPair_10 : xw_D prog_8_method_6_code 10 (.iconst 1) 1 11 := ⟨by decide +kernel, rfl⟩
theorem dR_isPair_11 : xw_D prog_8_method_6_code 11 (.goto 4) 3 14 := ⟨by decide +kernel, rfl⟩
theorem dR_isPair_14 : xw_D prog_8_method_6_code 14 (.iconst 0) 1 15 := ⟨by decide +kernel, rfl⟩
theorem dR_isPair_15 : xw_D prog_8_method_6_code 15 (.ireturn) 1 16 := ⟨by decide +kernel, rfl⟩
/-- FormulaShaper$Reference.cornerWidth -/
def mR_cornerWidth (R : Room) : xw_M := (⟨"FormulaShaper$Reference", "cornerWidth", "(II)I"⟩, prog_8_method_9_code, 3, (some (.int)), R, [])
theorem dR_cornerWidth_0 : xw_D prog_8_method_9_code 0 (.iload_n 0) 1 1 := ⟨by decide +kernel, rfl⟩
theorem dR_cornerWidth_1 : xw_D prog_8_method_9_code 1 (.invokestatic 52) 3 4 := ⟨by decide +kernel, rfl⟩
theorem dR_cornerWidth_4 : xw_D prog_8_method_9_code 4 (.ifCond .eq 7) 3 7 := ⟨by decide +kernel, rfl⟩
theorem dR_cornerWidth_7 : xw_D prog_8_method_9_code 7 (.iconst 1) 1 8 := ⟨by decide +kernel, rfl⟩
theorem dR_cornerWidth_8 : xw_D prog_8_method_9_code 8 (.goto 4) 3 11 := ⟨by decide +kernel, rfl⟩
theorem dR_cornerWidth_11 : xw_D prog_8_method_9_code 11 (.iconst 0) 1 12 := ⟨by decide +kernel, rfl⟩
theorem dR_cornerWidth_12 : xw_D prog_8_method_9_code 12 (.iload_n 1) 1 13 := ⟨by decide +kernel, rfl⟩
theorem dR_cornerWidth_13 : xw_D prog_8_method_9_code 13 (.invokestatic 52) 3 16 := ⟨by decide +kernel, rfl⟩
theorem dR_cornerWidth_16 : xw_D prog_8_method_9_code 16 (.ifCond .eq 7) 3 19 := ⟨by decide +kernel, rfl⟩
theorem dR_cornerWidth_19 : xw_D prog_8_method_9_code 19 (.iconst 1) 1 20 := ⟨by decide +kernel, rfl⟩
theorem dR_cornerWidth_20 : xw_D prog_8_method_9_code 20 (.goto 4) 3 23 := ⟨by decide +kernel, rfl⟩
theorem dR_cornerWidth_23 : xw_D prog_8_method_9_code 23 (.iconst 0) 1 24 := ⟨by decide +kernel, rfl⟩
theorem dR_cornerWidth_24 : xw_D prog_8_method_9_code 24 (.iadd) 1 25 := ⟨by decide +kernel, rfl⟩
theorem dR_cornerWidth_25 : xw_D prog_8_method_9_code 25 (.istore_n 2) 1 26 := ⟨by decide +kernel, rfl⟩
theorem dR_cornerWidth_26 : xw_D prog_8_method_9_code 26 (.iload_n 2) 1 27 := ⟨by decide +kernel, rfl⟩
theorem dR_cornerWidth_27 : xw_D prog_8_method_9_code 27 (.iload_n 0) 1 28 := ⟨by decide +kernel, rfl⟩
theorem dR_cornerWidth_28 : xw_D prog_8_method_9_code 28 (.invokestatic 56) 3 31 := ⟨by decide +kernel, rfl⟩
theorem dR_cornerWidth_31 : xw_D prog_8_method_9_code 31 (.iconst 1) 1 32 := ⟨by decide +kernel, rfl⟩
theorem dR_cornerWidth_32 : xw_D prog_8_method_9_code 32 (.iadd) 1 33 := ⟨by decide +kernel, rfl⟩
theorem dR_cornerWidth_33 : xw_D prog_8_method_9_code 33 (.bipush 10) 2 35 := ⟨by decide +kernel, rfl⟩
theorem dR_cornerWidth_35 : xw_D prog_8_method_9_code 35 (.if_icmp .ge 7) 3 38 := ⟨by decide +kernel, rfl⟩
theorem dR_cornerWidth_38 : xw_D prog_8_method_9_code 38 (.iconst 2) 1 39 := ⟨by decide +kernel, rfl⟩
theorem dR_cornerWidth_39 : xw_D prog_8_method_9_code 39 (.goto 4) 3 42 := ⟨by decide +kernel, rfl⟩
theorem dR_cornerWidth_42 : xw_D prog_8_method_9_code 42 (.iconst 3) 1 43 := ⟨by decide +kernel, rfl⟩
theorem dR_cornerWidth_43 : xw_D prog_8_method_9_code 43 (.iadd) 1 44 := ⟨by decide +kernel, rfl⟩
theorem dR_cornerWidth_44 : xw_D prog_8_method_9_code 44 (.ireturn) 1 45 := ⟨by decide +kernel, rfl⟩
/-- FormulaShaper$Reference.width -/
def mR_width (R : Room) : xw_M := (⟨"FormulaShaper$Reference", "width", "(J)I"⟩, prog_8_method_8_code, 5, (some (.int)), R, [])
theorem dR_width_0 : xw_D prog_8_method_8_code 0 (.lload_n 0) 1 1 := ⟨by decide +kernel, rfl⟩
theorem dR_width_1 : xw_D prog_8_method_8_code 1 (.invokestatic 14) 3 4 := ⟨by decide +kernel, rfl⟩
theorem dR_width_4 : xw_D prog_8_method_8_code 4 (.istore_n 2) 1 5 := ⟨by decide +kernel, rfl⟩
theorem dR_width_5 : xw_D prog_8_method_8_code 5 (.lload_n 0) 1 6 := ⟨by decide +kernel, rfl⟩
theorem dR_width_6 : xw_D prog_8_method_8_code 6 (.invokestatic 24) 3 9 := ⟨by decide +kernel, rfl⟩
theorem dR_width_9 : xw_D prog_8_method_8_code 9 (.istore_n 3) 1 10 := ⟨by decide +kernel, rfl⟩
theorem dR_width_10 : xw_D prog_8_method_8_code 10 (.iload_n 2) 1 11 := ⟨by decide +kernel, rfl⟩
theorem dR_width_11 : xw_D prog_8_method_8_code 11 (.invokestatic 42) 3 14 := ⟨by decide +kernel, rfl⟩
theorem dR_width_14 : xw_D prog_8_method_8_code 14 (.iload_n 3) 1 15 := ⟨by decide +kernel, rfl⟩
theorem dR_width_15 : xw_D prog_8_method_8_code 15 (.invokestatic 42) 3 18 := ⟨by decide +kernel, rfl⟩
theorem dR_width_18 : xw_D prog_8_method_8_code 18 (.invokestatic 45) 3 21 := ⟨by decide +kernel, rfl⟩
theorem dR_width_21 : xw_D prog_8_method_8_code 21 (.istore 4) 2 23 := ⟨by decide +kernel, rfl⟩
theorem dR_width_23 : xw_D prog_8_method_8_code 23 (.lload_n 0) 1 24 := ⟨by decide +kernel, rfl⟩
theorem dR_width_24 : xw_D prog_8_method_8_code 24 (.invokestatic 34) 3 27 := ⟨by decide +kernel, rfl⟩
theorem dR_width_27 : xw_D prog_8_method_8_code 27 (.ifCond .eq 22) 3 30 := ⟨by decide +kernel, rfl⟩
theorem dR_width_30 : xw_D prog_8_method_8_code 30 (.iload 4) 2 32 := ⟨by decide +kernel, rfl⟩
theorem dR_width_32 : xw_D prog_8_method_8_code 32 (.iconst 1) 1 33 := ⟨by decide +kernel, rfl⟩
theorem dR_width_33 : xw_D prog_8_method_8_code 33 (.iadd) 1 34 := ⟨by decide +kernel, rfl⟩
theorem dR_width_34 : xw_D prog_8_method_8_code 34 (.iload_n 2) 1 35 := ⟨by decide +kernel, rfl⟩
theorem dR_width_35 : xw_D prog_8_method_8_code 35 (.invokestatic 49) 3 38 := ⟨by decide +kernel, rfl⟩
theorem dR_width_38 : xw_D prog_8_method_8_code 38 (.iload_n 3) 1 39 := ⟨by decide +kernel, rfl⟩
theorem dR_width_39 : xw_D prog_8_method_8_code 39 (.invokestatic 49) 3 42 := ⟨by decide +kernel, rfl⟩
theorem dR_width_42 : xw_D prog_8_method_8_code 42 (.invokestatic 45) 3 45 := ⟨by decide +kernel, rfl⟩
theorem dR_width_45 : xw_D prog_8_method_8_code 45 (.iadd) 1 46 := ⟨by decide +kernel, rfl⟩
theorem dR_width_46 : xw_D prog_8_method_8_code 46 (.goto 5) 3 49 := ⟨by decide +kernel, rfl⟩
theorem dR_width_49 : xw_D prog_8_method_8_code 49 (.iload 4) 2 51 := ⟨by decide +kernel, rfl⟩
theorem dR_width_51 : xw_D prog_8_method_8_code 51 (.ireturn) 1 52 := ⟨by decide +kernel, rfl⟩
/-- FormulaShaper.isTooFar -/
def mS_isTooFar (R : Room) : xw_M := (⟨"FormulaShaper", "isTooFar", "(I)Z"⟩, prog_1_method_12_code, 1, (some (.boolean)), R, [])
theorem dS_isTooFar_0 : xw_D prog_1_method_12_code 0 (.iload_n 0) 1 1 := ⟨by decide +kernel, rfl⟩
theorem dS_isTooFar_1 : xw_D prog_1_method_12_code 1 (.bipush (-100)) 2 3 := ⟨by decide +kernel, rfl⟩
theorem dS_isTooFar_3 : xw_D prog_1_method_12_code 3 (.if_icmp .lt 9) 3 6 := ⟨by decide +kernel, rfl⟩
theorem dS_isTooFar_6 : xw_D prog_1_method_12_code 6 (.iload_n 0) 1 7 := ⟨by decide +kernel, rfl⟩
theorem dS_isTooFar_7 : xw_D prog_1_method_12_code 7 (.bipush 100) 2 9 := ⟨by decide +kernel, rfl⟩
theorem dS_isTooFar_9 : xw_D prog_1_method_12_code 9 (.if_icmp .le 7) 3 12 := ⟨by decide +kernel, rfl⟩
theorem dS_isTooFar_12 : xw_D prog_1_method_12_code 12 (.iconst 1) 1 13 := ⟨by decide +kernel, rfl⟩
theorem dS_isTooFar_13 : xw_D prog_1_method_12_code 13 (.goto 4) 3 16 := ⟨by decide +kernel, rfl⟩
theorem dS_isTooFar_16 : xw_D prog_1_method_12_code 16 (.iconst 0) 1 17 := ⟨by decide +kernel, rfl⟩
theorem dS_isTooFar_17 : xw_D prog_1_method_12_code 17 (.ireturn) 1 18 := ⟨by decide +kernel, rfl⟩
/-- FormulaShaper.isOffSheet -/
def mS_isOffSheet (R : Room) : xw_M := (⟨"FormulaShaper", "isOffSheet", "(ZII)Z"⟩, prog_1_method_13_code, 4, (some (.boolean)), R, [])
theorem dS_isOffSheet_0 : xw_D prog_1_method_13_code 0 (.iload_n 0) 1 1 := ⟨by decide +kernel, rfl⟩
theorem dS_isOffSheet_1 : xw_D prog_1_method_13_code 1 (.ifCond .eq 8) 3 4 := ⟨by decide +kernel, rfl⟩
theorem dS_isOffSheet_4 : xw_D prog_1_method_13_code 4 (.bipush 26) 2 6 := ⟨by decide +kernel, rfl⟩
theorem dS_isOffSheet_6 : xw_D prog_1_method_13_code 6 (.goto 5) 3 9 := ⟨by decide +kernel, rfl⟩
theorem dS_isOffSheet_9 : xw_D prog_1_method_13_code 9 (.bipush 80) 2 11 := ⟨by decide +kernel, rfl⟩
theorem dS_isOffSheet_11 : xw_D prog_1_method_13_code 11 (.istore_n 3) 1 12 := ⟨by decide +kernel, rfl⟩
theorem dS_isOffSheet_12 : xw_D prog_1_method_13_code 12 (.iload_n 1) 1 13 := ⟨by decide +kernel, rfl⟩
theorem dS_isOffSheet_13 : xw_D prog_1_method_13_code 13 (.ifCond .lt 15) 3 16 := ⟨by decide +kernel, rfl⟩
theorem dS_isOffSheet_16 : xw_D prog_1_method_13_code 16 (.iload_n 2) 1 17 := ⟨by decide +kernel, rfl⟩
theorem dS_isOffSheet_17 : xw_D prog_1_method_13_code 17 (.iconst 1) 1 18 := ⟨by decide +kernel, rfl⟩
theorem dS_isOffSheet_18 : xw_D prog_1_method_13_code 18 (.if_icmp .lt 10) 3 21 := ⟨by decide +kernel, rfl⟩
theorem dS_isOffSheet_21 : xw_D prog_1_method_13_code 21 (.iload_n 2) 1 22 := ⟨by decide +kernel, rfl⟩
theorem dS_isOffSheet_22 : xw_D prog_1_method_13_code 22 (.iload_n 3) 1 23 := ⟨by decide +kernel, rfl⟩
theorem dS_isOffSheet_23 : xw_D prog_1_method_13_code 23 (.iload_n 1) 1 24 := ⟨by decide +kernel, rfl⟩
theorem dS_isOffSheet_24 : xw_D prog_1_method_13_code 24 (.isub) 1 25 := ⟨by decide +kernel, rfl⟩
theorem dS_isOffSheet_25 : xw_D prog_1_method_13_code 25 (.if_icmp .le 7) 3 28 := ⟨by decide +kernel, rfl⟩
theorem dS_isOffSheet_28 : xw_D prog_1_method_13_code 28 (.iconst 1) 1 29 := ⟨by decide +kernel, rfl⟩
theorem dS_isOffSheet_29 : xw_D prog_1_method_13_code 29 (.goto 4) 3 32 := ⟨by decide +kernel, rfl⟩
theorem dS_isOffSheet_32 : xw_D prog_1_method_13_code 32 (.iconst 0) 1 33 := ⟨by decide +kernel, rfl⟩
theorem dS_isOffSheet_33 : xw_D prog_1_method_13_code 33 (.ireturn) 1 34 := ⟨by decide +kernel, rfl⟩
/-- FormulaShaper$Splitter.isDigit -/
def mP_isDigit (R : Room) : xw_M := (⟨"FormulaShaper$Splitter", "isDigit", "(I)Z"⟩, prog_11_method_19_code, 1, (some (.boolean)), R, [])
theorem dP_isDigit_0 : xw_D prog_11_method_19_code 0 (.iload_n 0) 1 1 := ⟨by decide +kernel, rfl⟩
theorem dP_isDigit_1 : xw_D prog_11_method_19_code 1 (.bipush 48) 2 3 := ⟨by decide +kernel, rfl⟩
theorem dP_isDigit_3 : xw_D prog_11_method_19_code 3 (.if_icmp .lt 13) 3 6 := ⟨by decide +kernel, rfl⟩
theorem dP_isDigit_6 : xw_D prog_11_method_19_code 6 (.iload_n 0) 1 7 := ⟨by decide +kernel, rfl⟩
theorem dP_isDigit_7 : xw_D prog_11_method_19_code 7 (.bipush 57) 2 9 := ⟨by decide +kernel, rfl⟩
theorem dP_isDigit_9 : xw_D prog_11_method_19_code 9 (.if_icmp .gt 7) 3 12 := ⟨by decide +kernel, rfl⟩
theorem dP_isDigit_12 : xw_D prog_11_method_19_code 12 (.iconst 1) 1 13 := ⟨by decide +kernel, rfl⟩
theorem dP_isDigit_13 : xw_D prog_11_method_19_code 13 (.goto 4) 3 16 := ⟨by decide +kernel, rfl⟩
theorem dP_isDigit_16 : xw_D prog_11_method_19_code 16 (.iconst 0) 1 17 := ⟨by decide +kernel, rfl⟩
theorem dP_isDigit_17 : xw_D prog_11_method_19_code 17 (.ireturn) 1 18 := ⟨by decide +kernel, rfl⟩
/-- FormulaShaper$Splitter.isCapital -/
def mP_isCapital (R : Room) : xw_M := (⟨"FormulaShaper$Splitter", "isCapital", "(I)Z"⟩, prog_11_method_20_code, 1, (some (.boolean)), R, [])
theorem dP_isCapital_0 : xw_D prog_11_method_20_code 0 (.iload_n 0) 1 1 := ⟨by decide +kernel, rfl⟩
theorem dP_isCapital_1 : xw_D prog_11_method_20_code 1 (.bipush 65) 2 3 := ⟨by decide +kernel, rfl⟩
theorem dP_isCapital_3 : xw_D prog_11_method_20_code 3 (.if_icmp .lt 13) 3 6 := ⟨by decide +kernel, rfl⟩
theorem dP_isCapital_6 : xw_D prog_11_method_20_code 6 (.iload_n 0) 1 7 := ⟨by decide +kernel, rfl⟩
theorem dP_isCapital_7 : xw_D prog_11_method_20_code 7 (.bipush 90) 2 9 := ⟨by decide +kernel, rfl⟩
theorem dP_isCapital_9 : xw_D prog_11_method_20_code 9 (.if_icmp .gt 7) 3 12 := ⟨by decide +kernel, rfl⟩
theorem dP_isCapital_12 : xw_D prog_11_method_20_code 12 (.iconst 1) 1 13 := ⟨by decide +kernel, rfl⟩
theorem dP_isCapital_13 : xw_D prog_11_method_20_code 13 (.goto 4) 3 16 := ⟨by decide +kernel, rfl⟩
theorem dP_isCapital_16 : xw_D prog_11_method_20_code 16 (.iconst 0) 1 17 := ⟨by decide +kernel, rfl⟩
theorem dP_isCapital_17 : xw_D prog_11_method_20_code 17 (.ireturn) 1 18 := ⟨by decide +kernel, rfl⟩
/-- FormulaShaper$Splitter.isSmallLetter -/
def mP_isSmallLetter (R : Room) : xw_M := (⟨"FormulaShaper$Splitter", "isSmallLetter", "(I)Z"⟩, prog_11_method_21_code, 1, (some (.boolean)), R, [])
theorem dP_isSmallLetter_0 : xw_D prog_11_method_21_code 0 (.iload_n 0) 1 1 := ⟨by decide +kernel, rfl⟩
theorem dP_isSmallLetter_1 : xw_D prog_11_method_21_code 1 (.bipush 97) 2 3 := ⟨by decide +kernel, rfl⟩
theorem dP_isSmallLetter_3 : xw_D prog_11_method_21_code 3 (.if_icmp .lt 13) 3 6 := ⟨by decide +kernel, rfl⟩
theorem dP_isSmallLetter_6 : xw_D prog_11_method_21_code 6 (.iload_n 0) 1 7 := ⟨by decide +kernel, rfl⟩
theorem dP_isSmallLetter_7 : xw_D prog_11_method_21_code 7 (.bipush 122) 2 9 := ⟨by decide +kernel, rfl⟩
theorem dP_isSmallLetter_9 : xw_D prog_11_method_21_code 9 (.if_icmp .gt 7) 3 12 := ⟨by decide +kernel, rfl⟩
theorem dP_isSmallLetter_12 : xw_D prog_11_method_21_code 12 (.iconst 1) 1 13 := ⟨by decide +kernel, rfl⟩
theorem dP_isSmallLetter_13 : xw_D prog_11_method_21_code 13 (.goto 4) 3 16 := ⟨by decide +kernel, rfl⟩
theorem dP_isSmallLetter_16 : xw_D prog_11_method_21_code 16 (.iconst 0) 1 17 := ⟨by decide +kernel, rfl⟩
theorem dP_isSmallLetter_17 : xw_D prog_11_method_21_code 17 (.ireturn) 1 18 := ⟨by decide +kernel, rfl⟩
/-- FormulaShaper$Splitter.isNamePart -/
def mP_isNamePart (R : Room) : xw_M := (⟨"FormulaShaper$Splitter", "isNamePart", "(I)Z"⟩, prog_11_method_22_code, 1, (some (.boolean)), R, [])
theorem dP_isNamePart_0 : xw_D prog_11_method_22_code 0 (.iload_n 0) 1 1 := ⟨by decide +kernel, rfl⟩
theorem dP_isNamePart_1 : xw_D prog_11_method_22_code 1 (.invokestatic 74) 3 4 := ⟨by decide +kernel, rfl⟩
theorem dP_isNamePart_4 : xw_D prog_11_method_22_code 4 (.ifCond .ne 16) 3 7 := ⟨by decide +kernel, rfl⟩
theorem dP_isNamePart_7 : xw_D prog_11_method_22_code 7 (.iload_n 0) 1 8 := ⟨by decide +kernel, rfl⟩
theorem dP_isNamePart_8 : xw_D prog_11_method_22_code 8 (.invokestatic 55) 3 11 := ⟨by decide +kernel, rfl⟩
theorem dP_isNamePart_11 : xw_D prog_11_method_22_code 11 (.ifCond .ne 9) 3 14 := ⟨by decide +kernel, rfl⟩
theorem dP_isNamePart_14 : xw_D prog_11_method_22_code 14 (.iload_n 0) 1 15 := ⟨by decide +kernel, rfl⟩
theorem dP_isNamePart_15 : xw_D prog_11_method_22_code 15 (.bipush 95) 2 17 := ⟨by decide +kernel, rfl⟩
theorem dP_isNamePart_17 : xw_D prog_11_method_22_code 17 (.if_icmp .ne 7) 3 20 := ⟨by decide +kernel, rfl⟩
theorem dP_isNamePart_20 : xw_D prog_11_method_22_code 20 (.iconst 1) 1 21 := ⟨by decide +kernel, rfl⟩
theorem dP_isNamePart_21 : xw_D prog_11_method_22_code 21 (.goto 4) 3 24 := ⟨by decide +kernel, rfl⟩
theorem dP_isNamePart_24 : xw_D prog_11_method_22_code 24 (.iconst 0) 1 25 := ⟨by decide +kernel, rfl⟩
theorem dP_isNamePart_25 : xw_D prog_11_method_22_code 25 (.ireturn) 1 26 := ⟨by decide +kernel, rfl⟩
/-- FormulaShaper$Splitter.isBarredBehindCell -/
def mP_isBarredBehindCell (R : Room) : xw_M := (⟨"FormulaShaper$Splitter", "isBarredBehindCell", "(I)Z"⟩, prog_11_method_23_code, 1, (some (.boolean)), R, [])
theorem dP_isBarredBehindCell_0 : xw_D prog_11_method_23_code 0 (.iload_n 0) 1 1 := ⟨by decide +kernel, rfl⟩
theorem dP_isBarredBehindCell_1 : xw_D prog_11_method_23_code 1 (.invokestatic 116) 3 4 := ⟨by decide +kernel, rfl⟩
theorem dP_isBarredBehindCell_4 : xw_D prog_11_method_23_code 4 (.ifCond .ne 10) 3 7 := ⟨by decide +kernel, rfl⟩
theorem dP_isBarredBehindCell_7 : xw_D prog_11_method_23_code 7 (.iload_n 0) 1 8 := ⟨by decide +kernel, rfl⟩
theorem dP_isBarredBehindCell_8 : xw_D prog_11_method_23_code 8 (.invokestatic 162) 3 11 := ⟨by decide +kernel, rfl⟩
theorem dP_isBarredBehindCell_11 : xw_D prog_11_method_23_code 11 (.ifCond .eq 7) 3 14 := ⟨by decide +kernel, rfl⟩
theorem dP_isBarredBehindCell_14 : xw_D prog_11_method_23_code 14 (.iconst 1) 1 15 := ⟨by decide +kernel, rfl⟩
theorem dP_isBarredBehindCell_15 : xw_D prog_11_method_23_code 15 (.goto 4) 3 18 := ⟨by decide +kernel, rfl⟩
theorem dP_isBarredBehindCell_18 : xw_D prog_11_method_23_code 18 (.iconst 0) 1 19 := ⟨by decide +kernel, rfl⟩
theorem dP_isBarredBehindCell_19 : xw_D prog_11_method_23_code 19 (.ireturn) 1 20 := ⟨by decide +kernel, rfl⟩
/-- FormulaShaperModel.sign -/
def mM_sign (R : Room) : xw_M := (⟨"FormulaShaperModel", "sign", "(I)I"⟩, prog_14_method_5_code, 1, (some (.int)), R, [])
theorem dM_sign_0 : xw_D prog_14_method_5_code 0 (.iload_n 0) 1 1 := ⟨by decide +kernel, rfl⟩
theorem dM_sign_1 : xw_D prog_14_method_5_code 1 (.bipush 65) 2 3 := ⟨by decide +kernel, rfl⟩
theorem dM_sign_3 : xw_D prog_14_method_5_code 3 (.if_icmp .lt 16) 3 6 := ⟨by decide +kernel, rfl⟩
theorem dM_sign_6 : xw_D prog_14_method_5_code 6 (.iload_n 0) 1 7 := ⟨by decide +kernel, rfl⟩
theorem dM_sign_7 : xw_D prog_14_method_5_code 7 (.bipush 90) 2 9 := ⟨by decide +kernel, rfl⟩
theorem dM_sign_9 : xw_D prog_14_method_5_code 9 (.if_icmp .gt 10) 3 12 := ⟨by decide +kernel, rfl⟩
theorem dM_sign_12 : xw_D prog_14_method_5_code 12 (.iload_n 0) 1 13 := ⟨by decide +kernel, rfl⟩
theorem dM_sign_13 : xw_D prog_14_method_5_code 13 (.bipush 65) 2 15 := ⟨by decide +kernel, rfl⟩
theorem dM_sign_15 : xw_D prog_14_method_5_code 15 (.isub) 1 16 := ⟨by decide +kernel, rfl⟩
theorem dM_sign_16 : xw_D prog_14_method_5_code 16 (.iconst 1) 1 17 := ⟨by decide +kernel, rfl⟩
theorem dM_sign_17 : xw_D prog_14_method_5_code 17 (.iadd) 1 18 := ⟨by decide +kernel, rfl⟩
theorem dM_sign_18 : xw_D prog_14_method_5_code 18 (.ireturn) 1 19 := ⟨by decide +kernel, rfl⟩
theorem dM_sign_19 : xw_D prog_14_method_5_code 19 (.iload_n 0) 1 20 := ⟨by decide +kernel, rfl⟩
theorem dM_sign_20 : xw_D prog_14_method_5_code 20 (.bipush 48) 2 22 := ⟨by decide +kernel, rfl⟩
theorem dM_sign_22 : xw_D prog_14_method_5_code 22 (.if_icmp .lt 17) 3 25 := ⟨by decide +kernel, rfl⟩
theorem dM_sign_25 : xw_D prog_14_method_5_code 25 (.iload_n 0) 1 26 := ⟨by decide +kernel, rfl⟩
theorem dM_sign_26 : xw_D prog_14_method_5_code 26 (.bipush 57) 2 28 := ⟨by decide +kernel, rfl⟩
theorem dM_sign_28 : xw_D prog_14_method_5_code 28 (.if_icmp .gt 11) 3 31 := ⟨by decide +kernel, rfl⟩
theorem dM_sign_31 : xw_D prog_14_method_5_code 31 (.iload_n 0) 1 32 := ⟨by decide +kernel, rfl⟩
theorem dM_sign_32 : xw_D prog_14_method_5_code 32 (.bipush 48) 2 34 := ⟨by decide +kernel, rfl⟩
theorem dM_sign_34 : xw_D prog_14_method_5_code 34 (.isub) 1 35 := ⟨by decide +kernel, rfl⟩
theorem dM_sign_35 : xw_D prog_14_method_5_code 35 (.bipush 27) 2 37 := ⟨by decide +kernel, rfl⟩
theorem dM_sign_37 : xw_D prog_14_method_5_code 37 (.iadd) 1 38 := ⟨by decide +kernel, rfl⟩
theorem dM_sign_38 : xw_D prog_14_method_5_code 38 (.ireturn) 1 39 := ⟨by decide +kernel, rfl⟩
theorem dM_sign_39 : xw_D prog_14_method_5_code 39 (.iload_n 0) 1 40 := ⟨by decide +kernel, rfl⟩
theorem dM_sign_40 : xw_D prog_14_method_5_code 40 (.bipush 95) 2 42 := ⟨by decide +kernel, rfl⟩
theorem dM_sign_42 : xw_D prog_14_method_5_code 42 (.if_icmp .ne 8) 3 45 := ⟨by decide +kernel, rfl⟩
theorem dM_sign_45 : xw_D prog_14_method_5_code 45 (.bipush 37) 2 47 := ⟨by decide +kernel, rfl⟩
theorem dM_sign_47 : xw_D prog_14_method_5_code 47 (.goto 4) 3 50 := ⟨by decide +kernel, rfl⟩
theorem dM_sign_50 : xw_D prog_14_method_5_code 50 (.iconst 0) 1 51 := ⟨by decide +kernel, rfl⟩
theorem dM_sign_51 : xw_D prog_14_method_5_code 51 (.ireturn) 1 52 := ⟨by decide +kernel, rfl⟩
/-- FormulaShaperModel.digit -/
def mM_digit (R : Room) : xw_M := (⟨"FormulaShaperModel", "digit", "(I)Z"⟩, prog_14_method_9_code, 1, (some (.boolean)), R, [])
theorem dM_digit_0 : xw_D prog_14_method_9_code 0 (.iload_n 0) 1 1 := ⟨by decide +kernel, rfl⟩
theorem dM_digit_1 : xw_D prog_14_method_9_code 1 (.bipush 48) 2 3 := ⟨by decide +kernel, rfl⟩
theorem dM_digit_3 : xw_D prog_14_method_9_code 3 (.if_icmp .lt 13) 3 6 := ⟨by decide +kernel, rfl⟩
theorem dM_digit_6 : xw_D prog_14_method_9_code 6 (.iload_n 0) 1 7 := ⟨by decide +kernel, rfl⟩
theorem dM_digit_7 : xw_D prog_14_method_9_code 7 (.bipush 57) 2 9 := ⟨by decide +kernel, rfl⟩
theorem dM_digit_9 : xw_D prog_14_method_9_code 9 (.if_icmp .gt 7) 3 12 := ⟨by decide +kernel, rfl⟩
theorem dM_digit_12 : xw_D prog_14_method_9_code 12 (.iconst 1) 1 13 := ⟨by decide +kernel, rfl⟩
theorem dM_digit_13 : xw_D prog_14_method_9_code 13 (.goto 4) 3 16 := ⟨by decide +kernel, rfl⟩
theorem dM_digit_16 : xw_D prog_14_method_9_code 16 (.iconst 0) 1 17 := ⟨by decide +kernel, rfl⟩
theorem dM_digit_17 : xw_D prog_14_method_9_code 17 (.ireturn) 1 18 := ⟨by decide +kernel, rfl⟩
/-- FormulaShaperModel.letter -/
def mM_letter (R : Room) : xw_M := (⟨"FormulaShaperModel", "letter", "(I)Z"⟩, prog_14_method_10_code, 1, (some (.boolean)), R, [])
theorem dM_letter_0 : xw_D prog_14_method_10_code 0 (.iload_n 0) 1 1 := ⟨by decide +kernel, rfl⟩
theorem dM_letter_1 : xw_D prog_14_method_10_code 1 (.bipush 65) 2 3 := ⟨by decide +kernel, rfl⟩
theorem dM_letter_3 : xw_D prog_14_method_10_code 3 (.if_icmp .lt 13) 3 6 := ⟨by decide +kernel, rfl⟩
theorem dM_letter_6 : xw_D prog_14_method_10_code 6 (.iload_n 0) 1 7 := ⟨by decide +kernel, rfl⟩
theorem dM_letter_7 : xw_D prog_14_method_10_code 7 (.bipush 90) 2 9 := ⟨by decide +kernel, rfl⟩
theorem dM_letter_9 : xw_D prog_14_method_10_code 9 (.if_icmp .gt 7) 3 12 := ⟨by decide +kernel, rfl⟩
theorem dM_letter_12 : xw_D prog_14_method_10_code 12 (.iconst 1) 1 13 := ⟨by decide +kernel, rfl⟩
theorem dM_letter_13 : xw_D prog_14_method_10_code 13 (.goto 4) 3 16 := ⟨by decide +kernel, rfl⟩
theorem dM_letter_16 : xw_D prog_14_method_10_code 16 (.iconst 0) 1 17 := ⟨by decide +kernel, rfl⟩
theorem dM_letter_17 : xw_D prog_14_method_10_code 17 (.ireturn) 1 18 := ⟨by decide +kernel, rfl⟩
/-- java/lang/StringLatin1.canEncode -/
def mZ_canEncode (R : Room) : xw_M := (⟨"java/lang/StringLatin1", "canEncode", "(I)Z"⟩, prog_25_method_4_code, 1, (some (.boolean)), R, [])
theorem dZ_canEncode_0 : xw_D prog_25_method_4_code 0 (.iload_n 0) 1 1 := ⟨by decide +kernel, rfl⟩
theorem dZ_canEncode_1 : xw_D prog_25_method_4_code 1 (.ifCond .lt 14) 3 4 := ⟨by decide +kernel, rfl⟩
theorem dZ_canEncode_4 : xw_D prog_25_method_4_code 4 (.iload_n 0) 1 5 := ⟨by decide +kernel, rfl⟩
theorem dZ_canEncode_5 : xw_D prog_25_method_4_code 5 (.sipush 255) 3 8 := ⟨by decide +kernel, rfl⟩
theorem dZ_canEncode_8 : xw_D prog_25_method_4_code 8 (.if_icmp .gt 7) 3 11 := ⟨by decide +kernel, rfl⟩
theorem dZ_canEncode_11 : xw_D prog_25_method_4_code 11 (.iconst 1) 1 12 := ⟨by decide +kernel, rfl⟩
theorem dZ_canEncode_12 : xw_D prog_25_method_4_code 12 (.goto 4) 3 15 := ⟨by decide +kernel, rfl⟩
theorem dZ_canEncode_15 : xw_D prog_25_method_4_code 15 (.iconst 0) 1 16 := ⟨by decide +kernel, rfl⟩
theorem dZ_canEncode_16 : xw_D prog_25_method_4_code 16 (.ireturn) 1 17 := ⟨by decide +kernel, rfl⟩
theorem kA_9 (R : Room) : xw_KS "FormulaShaper$Span" 9 (mA_number R) 1 := ⟨⟨rfl, tw_418, tw_16, tw_420, (show (("FormulaShaper$Span" : String) ≠ "java/lang/invoke/MethodHandle" ∧ ("FormulaShaper$Span" : String) ≠ "java/lang/invoke/VarHandle") by decide), (show (parseMethodDescriptor "(I)I").map (fun d => d.parameters.length) = some 1 by decide +kernel)⟩, tw_419⟩
theorem kA_27 (R : Room) : xw_KS "FormulaShaper$Span" 27 (mA_isFixed R) 1 := ⟨⟨rfl, tw_754, tw_16, tw_448, (show (("FormulaShaper$Span" : String) ≠ "java/lang/invoke/MethodHandle" ∧ ("FormulaShaper$Span" : String) ≠ "java/lang/invoke/VarHandle") by decide), (show (parseMethodDescriptor "(I)Z").map (fun d => d.parameters.length) = some 1 by decide +kernel)⟩, tw_447⟩
theorem kA_31 (R : Room) : xw_KS "FormulaShaper$Span" 31 (mA_edge R) 2 := ⟨⟨rfl, tw_755, tw_16, tw_410, (show (("FormulaShaper$Span" : String) ≠ "java/lang/invoke/MethodHandle" ∧ ("FormulaShaper$Span" : String) ≠ "java/lang/invoke/VarHandle") by decide), (show (parseMethodDescriptor "(IZ)I").map (fun d => d.parameters.length) = some 2 by decide +kernel)⟩, tw_409⟩
theorem kA_13 (R : Room) : xw_KS "FormulaShaper$Span" 13 (mA_first R) 1 := ⟨⟨rfl, tw_750, tw_16, tw_442, (show (("FormulaShaper$Span" : String) ≠ "java/lang/invoke/MethodHandle" ∧ ("FormulaShaper$Span" : String) ≠ "java/lang/invoke/VarHandle") by decide), (show (parseMethodDescriptor "(I)I").map (fun d => d.parameters.length) = some 1 by decide +kernel)⟩, tw_441⟩
theorem kA_16 (R : Room) : xw_KS "FormulaShaper$Span" 16 (mA_copiedEdge R) 3 := ⟨⟨rfl, tw_751, tw_16, tw_753, (show (("FormulaShaper$Span" : String) ≠ "java/lang/invoke/MethodHandle" ∧ ("FormulaShaper$Span" : String) ≠ "java/lang/invoke/VarHandle") by decide), (show (parseMethodDescriptor "(III)I").map (fun d => d.parameters.length) = some 3 by decide +kernel)⟩, tw_752⟩
theorem kA_20 (R : Room) : xw_KS "FormulaShaper$Span" 20 (mA_last R) 1 := ⟨⟨rfl, tw_756, tw_16, tw_455, (show (("FormulaShaper$Span" : String) ≠ "java/lang/invoke/MethodHandle" ∧ ("FormulaShaper$Span" : String) ≠ "java/lang/invoke/VarHandle") by decide), (show (parseMethodDescriptor "(I)I").map (fun d => d.parameters.length) = some 1 by decide +kernel)⟩, tw_454⟩
theorem kA_23 (R : Room) : xw_KS "FormulaShaper$Span" 23 (mA_of R) 2 := ⟨⟨rfl, tw_757, tw_16, tw_417, (show (("FormulaShaper$Span" : String) ≠ "java/lang/invoke/MethodHandle" ∧ ("FormulaShaper$Span" : String) ≠ "java/lang/invoke/VarHandle") by decide), (show (parseMethodDescriptor "(II)I").map (fun d => d.parameters.length) = some 2 by decide +kernel)⟩, tw_416⟩
theorem kR_52 (R : Room) : xw_KS "FormulaShaper$Reference" 52 (mA_isFixed R) 1 := ⟨⟨rfl, tw_446, tw_16, tw_448, (show (("FormulaShaper$Span" : String) ≠ "java/lang/invoke/MethodHandle" ∧ ("FormulaShaper$Span" : String) ≠ "java/lang/invoke/VarHandle") by decide), (show (parseMethodDescriptor "(I)Z").map (fun d => d.parameters.length) = some 1 by decide +kernel)⟩, tw_447⟩
theorem kR_56 (R : Room) : xw_KS "FormulaShaper$Reference" 56 (mA_number R) 1 := ⟨⟨rfl, tw_449, tw_16, tw_420, (show (("FormulaShaper$Span" : String) ≠ "java/lang/invoke/MethodHandle" ∧ ("FormulaShaper$Span" : String) ≠ "java/lang/invoke/VarHandle") by decide), (show (parseMethodDescriptor "(I)I").map (fun d => d.parameters.length) = some 1 by decide +kernel)⟩, tw_419⟩
theorem kR_14 (R : Room) : xw_KS "FormulaShaper$Reference" 14 (mR_rows R) 1 := ⟨⟨rfl, tw_433, tw_17, tw_435, (show (("FormulaShaper$Reference" : String) ≠ "java/lang/invoke/MethodHandle" ∧ ("FormulaShaper$Reference" : String) ≠ "java/lang/invoke/VarHandle") by decide), (show (parseMethodDescriptor "(J)I").map (fun d => d.parameters.length) = some 1 by decide +kernel)⟩, tw_434⟩
theorem kR_24 (R : Room) : xw_KS "FormulaShaper$Reference" 24 (mR_columns R) 1 := ⟨⟨rfl, tw_437, tw_17, tw_439, (show (("FormulaShaper$Reference" : String) ≠ "java/lang/invoke/MethodHandle" ∧ ("FormulaShaper$Reference" : String) ≠ "java/lang/invoke/VarHandle") by decide), (show (parseMethodDescriptor "(J)I").map (fun d => d.parameters.length) = some 1 by decide +kernel)⟩, tw_438⟩
theorem kR_42 (R : Room) : xw_KS "FormulaShaper$Reference" 42 (mA_first R) 1 := ⟨⟨rfl, tw_440, tw_16, tw_442, (show (("FormulaShaper$Span" : String) ≠ "java/lang/invoke/MethodHandle" ∧ ("FormulaShaper$Span" : String) ≠ "java/lang/invoke/VarHandle") by decide), (show (parseMethodDescriptor "(I)I").map (fun d => d.parameters.length) = some 1 by decide +kernel)⟩, tw_441⟩
theorem kR_45 (R : Room) : xw_KS "FormulaShaper$Reference" 45 (mR_cornerWidth R) 2 := ⟨⟨rfl, tw_443, tw_17, tw_445, (show (("FormulaShaper$Reference" : String) ≠ "java/lang/invoke/MethodHandle" ∧ ("FormulaShaper$Reference" : String) ≠ "java/lang/invoke/VarHandle") by decide), (show (parseMethodDescriptor "(II)I").map (fun d => d.parameters.length) = some 2 by decide +kernel)⟩, tw_444⟩
theorem kR_34 (R : Room) : xw_KS "FormulaShaper$Reference" 34 (mR_isPair R) 1 := ⟨⟨rfl, tw_450, tw_17, tw_452, (show (("FormulaShaper$Reference" : String) ≠ "java/lang/invoke/MethodHandle" ∧ ("FormulaShaper$Reference" : String) ≠ "java/lang/invoke/VarHandle") by decide), (show (parseMethodDescriptor "(J)Z").map (fun d => d.parameters.length) = some 1 by decide +kernel)⟩, tw_451⟩
theorem kR_49 (R : Room) : xw_KS "FormulaShaper$Reference" 49 (mA_last R) 1 := ⟨⟨rfl, tw_453, tw_16, tw_455, (show (("FormulaShaper$Span" : String) ≠ "java/lang/invoke/MethodHandle" ∧ ("FormulaShaper$Span" : String) ≠ "java/lang/invoke/VarHandle") by decide), (show (parseMethodDescriptor "(I)I").map (fun d => d.parameters.length) = some 1 by decide +kernel)⟩, tw_454⟩
theorem kP_74 (R : Room) : xw_KS "FormulaShaper$Splitter" 74 (mP_isCapital R) 1 := ⟨⟨rfl, tw_387, tw_15, tw_389, (show (("FormulaShaper$Splitter" : String) ≠ "java/lang/invoke/MethodHandle" ∧ ("FormulaShaper$Splitter" : String) ≠ "java/lang/invoke/VarHandle") by decide), (show (parseMethodDescriptor "(I)Z").map (fun d => d.parameters.length) = some 1 by decide +kernel)⟩, tw_388⟩
theorem kP_55 (R : Room) : xw_KS "FormulaShaper$Splitter" 55 (mP_isDigit R) 1 := ⟨⟨rfl, tw_275, tw_15, tw_277, (show (("FormulaShaper$Splitter" : String) ≠ "java/lang/invoke/MethodHandle" ∧ ("FormulaShaper$Splitter" : String) ≠ "java/lang/invoke/VarHandle") by decide), (show (parseMethodDescriptor "(I)Z").map (fun d => d.parameters.length) = some 1 by decide +kernel)⟩, tw_276⟩
theorem kP_116 (R : Room) : xw_KS "FormulaShaper$Splitter" 116 (mP_isNamePart R) 1 := ⟨⟨rfl, tw_394, tw_15, tw_396, (show (("FormulaShaper$Splitter" : String) ≠ "java/lang/invoke/MethodHandle" ∧ ("FormulaShaper$Splitter" : String) ≠ "java/lang/invoke/VarHandle") by decide), (show (parseMethodDescriptor "(I)Z").map (fun d => d.parameters.length) = some 1 by decide +kernel)⟩, tw_395⟩
theorem kP_162 (R : Room) : xw_KS "FormulaShaper$Splitter" 162 (mP_isSmallLetter R) 1 := ⟨⟨rfl, tw_397, tw_15, tw_399, (show (("FormulaShaper$Splitter" : String) ≠ "java/lang/invoke/MethodHandle" ∧ ("FormulaShaper$Splitter" : String) ≠ "java/lang/invoke/VarHandle") by decide), (show (parseMethodDescriptor "(I)Z").map (fun d => d.parameters.length) = some 1 by decide +kernel)⟩, tw_398⟩
