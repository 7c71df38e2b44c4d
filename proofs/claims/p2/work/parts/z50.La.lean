/-- FormulaShaperLaw.feed -/
def mL_feed (R : Room) : xw_M := (⟨"FormulaShaperLaw", "feed", "(LFormulaShaper;IIIII[J)I"⟩, method_3_code, 8, (some (.int)), R, [((0), (16), (19), (13))])
theorem dL_feed_0 : xw_D method_3_code 0 (.aload 6) 2 2 := ⟨by decide +kernel, rfl⟩
theorem dL_feed_2 : xw_D method_3_code 2 (.iconst 0) 1 3 := ⟨by decide +kernel, rfl⟩
theorem dL_feed_3 : xw_D method_3_code 3 (.aload_n 0) 1 4 := ⟨by decide +kernel, rfl⟩
theorem dL_feed_4 : xw_D method_3_code 4 (.iload_n 1) 1 5 := ⟨by decide +kernel, rfl⟩
theorem dL_feed_5 : xw_D method_3_code 5 (.iload_n 2) 1 6 := ⟨by decide +kernel, rfl⟩
theorem dL_feed_6 : xw_D method_3_code 6 (.iload_n 3) 1 7 := ⟨by decide +kernel, rfl⟩
theorem dL_feed_7 : xw_D method_3_code 7 (.iload 4) 2 9 := ⟨by decide +kernel, rfl⟩
theorem dL_feed_9 : xw_D method_3_code 9 (.iload 5) 2 11 := ⟨by decide +kernel, rfl⟩
theorem dL_feed_11 : xw_D method_3_code 11 (.invokevirtual 7) 3 14 := ⟨by decide +kernel, rfl⟩
theorem dL_feed_14 : xw_D method_3_code 14 (.i2l) 1 15 := ⟨by decide +kernel, rfl⟩
theorem dL_feed_15 : xw_D method_3_code 15 (.lastore) 1 16 := ⟨by decide +kernel, rfl⟩
theorem dL_feed_16 : xw_D method_3_code 16 (.goto 7) 3 19 := ⟨by decide +kernel, rfl⟩
theorem dL_feed_19 : xw_D method_3_code 19 (.astore 7) 2 21 := ⟨by decide +kernel, rfl⟩
theorem dL_feed_21 : xw_D method_3_code 21 (.iconst 1) 1 22 := ⟨by decide +kernel, rfl⟩
theorem dL_feed_22 : xw_D method_3_code 22 (.ireturn) 1 23 := ⟨by decide +kernel, rfl⟩
theorem dL_feed_23 : xw_D method_3_code 23 (.iconst 0) 1 24 := ⟨by decide +kernel, rfl⟩
theorem dL_feed_24 : xw_D method_3_code 24 (.ireturn) 1 25 := ⟨by decide +kernel, rfl⟩
/-- FormulaShaperLaw.end -/
def mL_end (R : Room) : xw_M := (⟨"FormulaShaperLaw", "end", "(LFormulaShaper;I[J)I"⟩, method_4_code, 4, (some (.int)), R, [((0), (9), (12), (19))])
theorem dL_end_0 : xw_D method_4_code 0 (.aload_n 2) 1 1 := ⟨by decide +kernel, rfl⟩
theorem dL_end_1 : xw_D method_4_code 1 (.iconst 0) 1 2 := ⟨by decide +kernel, rfl⟩
theorem dL_end_2 : xw_D method_4_code 2 (.aload_n 0) 1 3 := ⟨by decide +kernel, rfl⟩
theorem dL_end_3 : xw_D method_4_code 3 (.iload_n 1) 1 4 := ⟨by decide +kernel, rfl⟩
theorem dL_end_4 : xw_D method_4_code 4 (.invokevirtual 15) 3 7 := ⟨by decide +kernel, rfl⟩
theorem dL_end_7 : xw_D method_4_code 7 (.i2l) 1 8 := ⟨by decide +kernel, rfl⟩
theorem dL_end_8 : xw_D method_4_code 8 (.lastore) 1 9 := ⟨by decide +kernel, rfl⟩
theorem dL_end_9 : xw_D method_4_code 9 (.goto 6) 3 12 := ⟨by decide +kernel, rfl⟩
theorem dL_end_12 : xw_D method_4_code 12 (.astore_n 3) 1 13 := ⟨by decide +kernel, rfl⟩
theorem dL_end_13 : xw_D method_4_code 13 (.iconst 1) 1 14 := ⟨by decide +kernel, rfl⟩
theorem dL_end_14 : xw_D method_4_code 14 (.ireturn) 1 15 := ⟨by decide +kernel, rfl⟩
theorem dL_end_15 : xw_D method_4_code 15 (.iconst 0) 1 16 := ⟨by decide +kernel, rfl⟩
theorem dL_end_16 : xw_D method_4_code 16 (.ireturn) 1 17 := ⟨by decide +kernel, rfl⟩
/-- FormulaShaperLaw.read -/
def mL_read (R : Room) : xw_M := (⟨"FormulaShaperLaw", "read", "(LFormulaShaper;[J)I"⟩, method_5_code, 3, (some (.int)), R, [((0), (8), (11), (25)), ((0), (8), (14), (13))])
theorem dL_read_0 : xw_D method_5_code 0 (.aload_n 1) 1 1 := ⟨by decide +kernel, rfl⟩
theorem dL_read_1 : xw_D method_5_code 1 (.iconst 0) 1 2 := ⟨by decide +kernel, rfl⟩
theorem dL_read_2 : xw_D method_5_code 2 (.aload_n 0) 1 3 := ⟨by decide +kernel, rfl⟩
theorem dL_read_3 : xw_D method_5_code 3 (.invokevirtual 21) 3 6 := ⟨by decide +kernel, rfl⟩
theorem dL_read_6 : xw_D method_5_code 6 (.i2l) 1 7 := ⟨by decide +kernel, rfl⟩
theorem dL_read_7 : xw_D method_5_code 7 (.lastore) 1 8 := ⟨by decide +kernel, rfl⟩
theorem dL_read_8 : xw_D method_5_code 8 (.goto 9) 3 11 := ⟨by decide +kernel, rfl⟩
theorem dL_read_11 : xw_D method_5_code 11 (.astore_n 2) 1 12 := ⟨by decide +kernel, rfl⟩
theorem dL_read_12 : xw_D method_5_code 12 (.iconst 1) 1 13 := ⟨by decide +kernel, rfl⟩
theorem dL_read_13 : xw_D method_5_code 13 (.ireturn) 1 14 := ⟨by decide +kernel, rfl⟩
theorem dL_read_14 : xw_D method_5_code 14 (.astore_n 2) 1 15 := ⟨by decide +kernel, rfl⟩
theorem dL_read_15 : xw_D method_5_code 15 (.iconst 2) 1 16 := ⟨by decide +kernel, rfl⟩
theorem dL_read_16 : xw_D method_5_code 16 (.ireturn) 1 17 := ⟨by decide +kernel, rfl⟩
theorem dL_read_17 : xw_D method_5_code 17 (.iconst 0) 1 18 := ⟨by decide +kernel, rfl⟩
theorem dL_read_18 : xw_D method_5_code 18 (.ireturn) 1 19 := ⟨by decide +kernel, rfl⟩
/-- FormulaShaperLaw.copy -/
def mL_copy (R : Room) : xw_M := (⟨"FormulaShaperLaw", "copy", "(LFormulaShaper;II[J)I"⟩, method_6_code, 5, (some (.int)), R, [((0), (10), (13), (19)), ((0), (10), (17), (31)), ((0), (10), (21), (13))])
theorem dL_copy_0 : xw_D method_6_code 0 (.aload_n 3) 1 1 := ⟨by decide +kernel, rfl⟩
theorem dL_copy_1 : xw_D method_6_code 1 (.iconst 0) 1 2 := ⟨by decide +kernel, rfl⟩
theorem dL_copy_2 : xw_D method_6_code 2 (.aload_n 0) 1 3 := ⟨by decide +kernel, rfl⟩
theorem dL_copy_3 : xw_D method_6_code 3 (.iload_n 1) 1 4 := ⟨by decide +kernel, rfl⟩
theorem dL_copy_4 : xw_D method_6_code 4 (.iload_n 2) 1 5 := ⟨by decide +kernel, rfl⟩
theorem dL_copy_5 : xw_D method_6_code 5 (.invokevirtual 27) 3 8 := ⟨by decide +kernel, rfl⟩
theorem dL_copy_8 : xw_D method_6_code 8 (.i2l) 1 9 := ⟨by decide +kernel, rfl⟩
theorem dL_copy_9 : xw_D method_6_code 9 (.lastore) 1 10 := ⟨by decide +kernel, rfl⟩
theorem dL_copy_10 : xw_D method_6_code 10 (.goto 15) 3 13 := ⟨by decide +kernel, rfl⟩
theorem dL_copy_13 : xw_D method_6_code 13 (.astore 4) 2 15 := ⟨by decide +kernel, rfl⟩
theorem dL_copy_15 : xw_D method_6_code 15 (.iconst 1) 1 16 := ⟨by decide +kernel, rfl⟩
theorem dL_copy_16 : xw_D method_6_code 16 (.ireturn) 1 17 := ⟨by decide +kernel, rfl⟩
theorem dL_copy_17 : xw_D method_6_code 17 (.astore 4) 2 19 := ⟨by decide +kernel, rfl⟩
theorem dL_copy_19 : xw_D method_6_code 19 (.iconst 2) 1 20 := ⟨by decide +kernel, rfl⟩
theorem dL_copy_20 : xw_D method_6_code 20 (.ireturn) 1 21 := ⟨by decide +kernel, rfl⟩
theorem dL_copy_21 : xw_D method_6_code 21 (.astore 4) 2 23 := ⟨by decide +kernel, rfl⟩
theorem dL_copy_23 : xw_D method_6_code 23 (.iconst 3) 1 24 := ⟨by decide +kernel, rfl⟩
theorem dL_copy_24 : xw_D method_6_code 24 (.ireturn) 1 25 := ⟨by decide +kernel, rfl⟩
theorem dL_copy_25 : xw_D method_6_code 25 (.iconst 0) 1 26 := ⟨by decide +kernel, rfl⟩
theorem dL_copy_26 : xw_D method_6_code 26 (.ireturn) 1 27 := ⟨by decide +kernel, rfl⟩
/-- FormulaShaperLaw.insert -/
def mL_insert (R : Room) : xw_M := (⟨"FormulaShaperLaw", "insert", "(LFormulaShaper;ZII[J)I"⟩, method_7_code, 6, (some (.int)), R, [((0), (12), (15), (19)), ((0), (12), (19), (31)), ((0), (12), (23), (13))])
theorem dL_insert_0 : xw_D method_7_code 0 (.aload 4) 2 2 := ⟨by decide +kernel, rfl⟩
theorem dL_insert_2 : xw_D method_7_code 2 (.iconst 0) 1 3 := ⟨by decide +kernel, rfl⟩
theorem dL_insert_3 : xw_D method_7_code 3 (.aload_n 0) 1 4 := ⟨by decide +kernel, rfl⟩
theorem dL_insert_4 : xw_D method_7_code 4 (.iload_n 1) 1 5 := ⟨by decide +kernel, rfl⟩
theorem dL_insert_5 : xw_D method_7_code 5 (.iload_n 2) 1 6 := ⟨by decide +kernel, rfl⟩
theorem dL_insert_6 : xw_D method_7_code 6 (.iload_n 3) 1 7 := ⟨by decide +kernel, rfl⟩
theorem dL_insert_7 : xw_D method_7_code 7 (.invokevirtual 33) 3 10 := ⟨by decide +kernel, rfl⟩
theorem dL_insert_10 : xw_D method_7_code 10 (.i2l) 1 11 := ⟨by decide +kernel, rfl⟩
theorem dL_insert_11 : xw_D method_7_code 11 (.lastore) 1 12 := ⟨by decide +kernel, rfl⟩
theorem dL_insert_12 : xw_D method_7_code 12 (.goto 15) 3 15 := ⟨by decide +kernel, rfl⟩
theorem dL_insert_15 : xw_D method_7_code 15 (.astore 5) 2 17 := ⟨by decide +kernel, rfl⟩
theorem dL_insert_17 : xw_D method_7_code 17 (.iconst 1) 1 18 := ⟨by decide +kernel, rfl⟩
theorem dL_insert_18 : xw_D method_7_code 18 (.ireturn) 1 19 := ⟨by decide +kernel, rfl⟩
theorem dL_insert_19 : xw_D method_7_code 19 (.astore 5) 2 21 := ⟨by decide +kernel, rfl⟩
theorem dL_insert_21 : xw_D method_7_code 21 (.iconst 2) 1 22 := ⟨by decide +kernel, rfl⟩
theorem dL_insert_22 : xw_D method_7_code 22 (.ireturn) 1 23 := ⟨by decide +kernel, rfl⟩
theorem dL_insert_23 : xw_D method_7_code 23 (.astore 5) 2 25 := ⟨by decide +kernel, rfl⟩
theorem dL_insert_25 : xw_D method_7_code 25 (.iconst 3) 1 26 := ⟨by decide +kernel, rfl⟩
theorem dL_insert_26 : xw_D method_7_code 26 (.ireturn) 1 27 := ⟨by decide +kernel, rfl⟩
theorem dL_insert_27 : xw_D method_7_code 27 (.iconst 0) 1 28 := ⟨by decide +kernel, rfl⟩
theorem dL_insert_28 : xw_D method_7_code 28 (.ireturn) 1 29 := ⟨by decide +kernel, rfl⟩
/-- FormulaShaperLaw.remove -/
def mL_remove (R : Room) : xw_M := (⟨"FormulaShaperLaw", "remove", "(LFormulaShaper;ZII[J)I"⟩, method_8_code, 6, (some (.int)), R, [((0), (12), (15), (19)), ((0), (12), (19), (31)), ((0), (12), (23), (13))])
theorem dL_remove_0 : xw_D method_8_code 0 (.aload 4) 2 2 := ⟨by decide +kernel, rfl⟩
theorem dL_remove_2 : xw_D method_8_code 2 (.iconst 0) 1 3 := ⟨by decide +kernel, rfl⟩
theorem dL_remove_3 : xw_D method_8_code 3 (.aload_n 0) 1 4 := ⟨by decide +kernel, rfl⟩
theorem dL_remove_4 : xw_D method_8_code 4 (.iload_n 1) 1 5 := ⟨by decide +kernel, rfl⟩
theorem dL_remove_5 : xw_D method_8_code 5 (.iload_n 2) 1 6 := ⟨by decide +kernel, rfl⟩
theorem dL_remove_6 : xw_D method_8_code 6 (.iload_n 3) 1 7 := ⟨by decide +kernel, rfl⟩
theorem dL_remove_7 : xw_D method_8_code 7 (.invokevirtual 37) 3 10 := ⟨by decide +kernel, rfl⟩
theorem dL_remove_10 : xw_D method_8_code 10 (.i2l) 1 11 := ⟨by decide +kernel, rfl⟩
theorem dL_remove_11 : xw_D method_8_code 11 (.lastore) 1 12 := ⟨by decide +kernel, rfl⟩
theorem dL_remove_12 : xw_D method_8_code 12 (.goto 15) 3 15 := ⟨by decide +kernel, rfl⟩
theorem dL_remove_15 : xw_D method_8_code 15 (.astore 5) 2 17 := ⟨by decide +kernel, rfl⟩
theorem dL_remove_17 : xw_D method_8_code 17 (.iconst 1) 1 18 := ⟨by decide +kernel, rfl⟩
theorem dL_remove_18 : xw_D method_8_code 18 (.ireturn) 1 19 := ⟨by decide +kernel, rfl⟩
theorem dL_remove_19 : xw_D method_8_code 19 (.astore 5) 2 21 := ⟨by decide +kernel, rfl⟩
theorem dL_remove_21 : xw_D method_8_code 21 (.iconst 2) 1 22 := ⟨by decide +kernel, rfl⟩
theorem dL_remove_22 : xw_D method_8_code 22 (.ireturn) 1 23 := ⟨by decide +kernel, rfl⟩
theorem dL_remove_23 : xw_D method_8_code 23 (.astore 5) 2 25 := ⟨by decide +kernel, rfl⟩
theorem dL_remove_25 : xw_D method_8_code 25 (.iconst 3) 1 26 := ⟨by decide +kernel, rfl⟩
theorem dL_remove_26 : xw_D method_8_code 26 (.ireturn) 1 27 := ⟨by decide +kernel, rfl⟩
theorem dL_remove_27 : xw_D method_8_code 27 (.iconst 0) 1 28 := ⟨by decide +kernel, rfl⟩
theorem dL_remove_28 : xw_D method_8_code 28 (.ireturn) 1 29 := ⟨by decide +kernel, rfl⟩
/-- FormulaShaperLaw.show -/
def mL_show (R : Room) : xw_M := (⟨"FormulaShaperLaw", "show", "(LFormulaShaper;[J)I"⟩, method_9_code, 3, (some (.int)), R, [((0), (8), (11), (31))])
theorem dL_show_0 : xw_D method_9_code 0 (.aload_n 1) 1 1 := ⟨by decide +kernel, rfl⟩
theorem dL_show_1 : xw_D method_9_code 1 (.iconst 0) 1 2 := ⟨by decide +kernel, rfl⟩
theorem dL_show_2 : xw_D method_9_code 2 (.aload_n 0) 1 3 := ⟨by decide +kernel, rfl⟩
theorem dL_show_3 : xw_D method_9_code 3 (.invokevirtual 40) 3 6 := ⟨by decide +kernel, rfl⟩
theorem dL_show_6 : xw_D method_9_code 6 (.i2l) 1 7 := ⟨by decide +kernel, rfl⟩
theorem dL_show_7 : xw_D method_9_code 7 (.lastore) 1 8 := ⟨by decide +kernel, rfl⟩
theorem dL_show_8 : xw_D method_9_code 8 (.goto 6) 3 11 := ⟨by decide +kernel, rfl⟩
theorem dL_show_11 : xw_D method_9_code 11 (.astore_n 2) 1 12 := ⟨by decide +kernel, rfl⟩
theorem dL_show_12 : xw_D method_9_code 12 (.iconst 1) 1 13 := ⟨by decide +kernel, rfl⟩
theorem dL_show_13 : xw_D method_9_code 13 (.ireturn) 1 14 := ⟨by decide +kernel, rfl⟩
theorem dL_show_14 : xw_D method_9_code 14 (.iconst 0) 1 15 := ⟨by decide +kernel, rfl⟩
theorem dL_show_15 : xw_D method_9_code 15 (.ireturn) 1 16 := ⟨by decide +kernel, rfl⟩
/-- FormulaShaperLaw.reference -/
def mL_reference (R : Room) : xw_M := (⟨"FormulaShaperLaw", "reference", "(LFormulaShaper;II[J)I"⟩, method_10_code, 5, (some (.int)), R, [((0), (10), (13), (19)), ((0), (10), (17), (31)), ((0), (10), (21), (46))])
theorem dL_reference_0 : xw_D method_10_code 0 (.aload_n 3) 1 1 := ⟨by decide +kernel, rfl⟩
theorem dL_reference_1 : xw_D method_10_code 1 (.iconst 0) 1 2 := ⟨by decide +kernel, rfl⟩
theorem dL_reference_2 : xw_D method_10_code 2 (.aload_n 0) 1 3 := ⟨by decide +kernel, rfl⟩
theorem dL_reference_3 : xw_D method_10_code 3 (.iload_n 1) 1 4 := ⟨by decide +kernel, rfl⟩
theorem dL_reference_4 : xw_D method_10_code 4 (.iload_n 2) 1 5 := ⟨by decide +kernel, rfl⟩
theorem dL_reference_5 : xw_D method_10_code 5 (.invokevirtual 43) 3 8 := ⟨by decide +kernel, rfl⟩
theorem dL_reference_8 : xw_D method_10_code 8 (.i2l) 1 9 := ⟨by decide +kernel, rfl⟩
theorem dL_reference_9 : xw_D method_10_code 9 (.lastore) 1 10 := ⟨by decide +kernel, rfl⟩
theorem dL_reference_10 : xw_D method_10_code 10 (.goto 15) 3 13 := ⟨by decide +kernel, rfl⟩
theorem dL_reference_13 : xw_D method_10_code 13 (.astore 4) 2 15 := ⟨by decide +kernel, rfl⟩
theorem dL_reference_15 : xw_D method_10_code 15 (.iconst 1) 1 16 := ⟨by decide +kernel, rfl⟩
theorem dL_reference_16 : xw_D method_10_code 16 (.ireturn) 1 17 := ⟨by decide +kernel, rfl⟩
theorem dL_reference_17 : xw_D method_10_code 17 (.astore 4) 2 19 := ⟨by decide +kernel, rfl⟩
theorem dL_reference_19 : xw_D method_10_code 19 (.iconst 2) 1 20 := ⟨by decide +kernel, rfl⟩
theorem dL_reference_20 : xw_D method_10_code 20 (.ireturn) 1 21 := ⟨by decide +kernel, rfl⟩
theorem dL_reference_21 : xw_D method_10_code 21 (.astore 4) 2 23 := ⟨by decide +kernel, rfl⟩
theorem dL_reference_23 : xw_D method_10_code 23 (.iconst 3) 1 24 := ⟨by decide +kernel, rfl⟩
theorem dL_reference_24 : xw_D method_10_code 24 (.ireturn) 1 25 := ⟨by decide +kernel, rfl⟩
theorem dL_reference_25 : xw_D method_10_code 25 (.iconst 0) 1 26 := ⟨by decide +kernel, rfl⟩
theorem dL_reference_26 : xw_D method_10_code 26 (.ireturn) 1 27 := ⟨by decide +kernel, rfl⟩
/-- FormulaShaperLaw.word -/
def mL_word (R : Room) : xw_M := (⟨"FormulaShaperLaw", "word", "(LFormulaShaper;I[J)I"⟩, method_11_code, 4, (some (.int)), R, [((0), (8), (11), (13))])
theorem dL_word_0 : xw_D method_11_code 0 (.aload_n 2) 1 1 := ⟨by decide +kernel, rfl⟩
theorem dL_word_1 : xw_D method_11_code 1 (.iconst 0) 1 2 := ⟨by decide +kernel, rfl⟩
theorem dL_word_2 : xw_D method_11_code 2 (.aload_n 0) 1 3 := ⟨by decide +kernel, rfl⟩
theorem dL_word_3 : xw_D method_11_code 3 (.iload_n 1) 1 4 := ⟨by decide +kernel, rfl⟩
theorem dL_word_4 : xw_D method_11_code 4 (.invokevirtual 48) 3 7 := ⟨by decide +kernel, rfl⟩
theorem dL_word_7 : xw_D method_11_code 7 (.lastore) 1 8 := ⟨by decide +kernel, rfl⟩
theorem dL_word_8 : xw_D method_11_code 8 (.goto 6) 3 11 := ⟨by decide +kernel, rfl⟩
theorem dL_word_11 : xw_D method_11_code 11 (.astore_n 3) 1 12 := ⟨by decide +kernel, rfl⟩
theorem dL_word_12 : xw_D method_11_code 12 (.iconst 1) 1 13 := ⟨by decide +kernel, rfl⟩
theorem dL_word_13 : xw_D method_11_code 13 (.ireturn) 1 14 := ⟨by decide +kernel, rfl⟩
theorem dL_word_14 : xw_D method_11_code 14 (.iconst 0) 1 15 := ⟨by decide +kernel, rfl⟩
theorem dL_word_15 : xw_D method_11_code 15 (.ireturn) 1 16 := ⟨by decide +kernel, rfl⟩
/-- FormulaShaperLaw.count -/
def mL_count (R : Room) : xw_M := (⟨"FormulaShaperLaw", "count", "(LFormulaShaper;I[J)I"⟩, method_12_code, 4, (some (.int)), R, [((0), (9), (12), (19))])
theorem dL_count_0 : xw_D method_12_code 0 (.aload_n 2) 1 1 := ⟨by decide +kernel, rfl⟩
theorem dL_count_1 : xw_D method_12_code 1 (.iconst 0) 1 2 := ⟨by decide +kernel, rfl⟩
theorem dL_count_2 : xw_D method_12_code 2 (.aload_n 0) 1 3 := ⟨by decide +kernel, rfl⟩
theorem dL_count_3 : xw_D method_12_code 3 (.iload_n 1) 1 4 := ⟨by decide +kernel, rfl⟩
theorem dL_count_4 : xw_D method_12_code 4 (.invokevirtual 52) 3 7 := ⟨by decide +kernel, rfl⟩
theorem dL_count_7 : xw_D method_12_code 7 (.i2l) 1 8 := ⟨by decide +kernel, rfl⟩
theorem dL_count_8 : xw_D method_12_code 8 (.lastore) 1 9 := ⟨by decide +kernel, rfl⟩
theorem dL_count_9 : xw_D method_12_code 9 (.goto 6) 3 12 := ⟨by decide +kernel, rfl⟩
theorem dL_count_12 : xw_D method_12_code 12 (.astore_n 3) 1 13 := ⟨by decide +kernel, rfl⟩
theorem dL_count_13 : xw_D method_12_code 13 (.iconst 1) 1 14 := ⟨by decide +kernel, rfl⟩
theorem dL_count_14 : xw_D method_12_code 14 (.ireturn) 1 15 := ⟨by decide +kernel, rfl⟩
theorem dL_count_15 : xw_D method_12_code 15 (.iconst 0) 1 16 := ⟨by decide +kernel, rfl⟩
theorem dL_count_16 : xw_D method_12_code 16 (.ireturn) 1 17 := ⟨by decide +kernel, rfl⟩
theorem kL_7 (R : Room) : xw_KV "FormulaShaperLaw" 7 (mS_feed R) 5 := ⟨⟨rfl, tw_115, tw_1, tw_118, (show (("FormulaShaper" : String) ≠ "java/lang/invoke/MethodHandle" ∧ ("FormulaShaper" : String) ≠ "java/lang/invoke/VarHandle") by decide), (show (parseMethodDescriptor "(IIIII)I").map (fun d => d.parameters.length) = some 5 by decide +kernel)⟩, tw_116, tw_117⟩
theorem kL_15 (R : Room) : xw_KV "FormulaShaperLaw" 15 (mS_end R) 1 := ⟨⟨rfl, tw_200, tw_1, tw_203, (show (("FormulaShaper" : String) ≠ "java/lang/invoke/MethodHandle" ∧ ("FormulaShaper" : String) ≠ "java/lang/invoke/VarHandle") by decide), (show (parseMethodDescriptor "(I)I").map (fun d => d.parameters.length) = some 1 by decide +kernel)⟩, tw_201, tw_202⟩
theorem kL_21 (R : Room) : xw_KV "FormulaShaperLaw" 21 (mS_read R) 0 := ⟨⟨rfl, tw_227, tw_1, tw_230, (show (("FormulaShaper" : String) ≠ "java/lang/invoke/MethodHandle" ∧ ("FormulaShaper" : String) ≠ "java/lang/invoke/VarHandle") by decide), (show (parseMethodDescriptor "()I").map (fun d => d.parameters.length) = some 0 by decide +kernel)⟩, tw_228, tw_229⟩
theorem kL_27 (R : Room) : xw_KV "FormulaShaperLaw" 27 (mS_copy R) 2 := ⟨⟨rfl, tw_684, tw_1, tw_687, (show (("FormulaShaper" : String) ≠ "java/lang/invoke/MethodHandle" ∧ ("FormulaShaper" : String) ≠ "java/lang/invoke/VarHandle") by decide), (show (parseMethodDescriptor "(II)I").map (fun d => d.parameters.length) = some 2 by decide +kernel)⟩, tw_685, tw_686⟩
theorem kL_33 (R : Room) : xw_KV "FormulaShaperLaw" 33 (mS_insert R) 3 := ⟨⟨rfl, tw_791, tw_1, tw_794, (show (("FormulaShaper" : String) ≠ "java/lang/invoke/MethodHandle" ∧ ("FormulaShaper" : String) ≠ "java/lang/invoke/VarHandle") by decide), (show (parseMethodDescriptor "(ZII)I").map (fun d => d.parameters.length) = some 3 by decide +kernel)⟩, tw_792, tw_793⟩
theorem kL_37 (R : Room) : xw_KV "FormulaShaperLaw" 37 (mS_remove R) 3 := ⟨⟨rfl, tw_817, tw_1, tw_820, (show (("FormulaShaper" : String) ≠ "java/lang/invoke/MethodHandle" ∧ ("FormulaShaper" : String) ≠ "java/lang/invoke/VarHandle") by decide), (show (parseMethodDescriptor "(ZII)I").map (fun d => d.parameters.length) = some 3 by decide +kernel)⟩, tw_818, tw_819⟩
theorem kL_40 (R : Room) : xw_KV "FormulaShaperLaw" 40 (mS_show R) 0 := ⟨⟨rfl, tw_824, tw_1, tw_827, (show (("FormulaShaper" : String) ≠ "java/lang/invoke/MethodHandle" ∧ ("FormulaShaper" : String) ≠ "java/lang/invoke/VarHandle") by decide), (show (parseMethodDescriptor "()I").map (fun d => d.parameters.length) = some 0 by decide +kernel)⟩, tw_825, tw_826⟩
theorem kL_43 (R : Room) : xw_KV "FormulaShaperLaw" 43 (mS_reference R) 2 := ⟨⟨rfl, tw_844, tw_1, tw_847, (show (("FormulaShaper" : String) ≠ "java/lang/invoke/MethodHandle" ∧ ("FormulaShaper" : String) ≠ "java/lang/invoke/VarHandle") by decide), (show (parseMethodDescriptor "(II)I").map (fun d => d.parameters.length) = some 2 by decide +kernel)⟩, tw_845, tw_846⟩
theorem kL_48 (R : Room) : xw_KV "FormulaShaperLaw" 48 (mS_word R) 1 := ⟨⟨rfl, tw_876, tw_1, tw_879, (show (("FormulaShaper" : String) ≠ "java/lang/invoke/MethodHandle" ∧ ("FormulaShaper" : String) ≠ "java/lang/invoke/VarHandle") by decide), (show (parseMethodDescriptor "(I)J").map (fun d => d.parameters.length) = some 1 by decide +kernel)⟩, tw_877, tw_878⟩
theorem kL_52 (R : Room) : xw_KV "FormulaShaperLaw" 52 (mS_count R) 1 := ⟨⟨rfl, tw_884, tw_1, tw_887, (show (("FormulaShaper" : String) ≠ "java/lang/invoke/MethodHandle" ∧ ("FormulaShaper" : String) ≠ "java/lang/invoke/VarHandle") by decide), (show (parseMethodDescriptor "(I)I").map (fun d => d.parameters.length) = some 1 by decide +kernel)⟩, tw_885, tw_886⟩
