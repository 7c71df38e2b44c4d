def xk_st (k : Nat) : Term := match xk_R[k]? with
  | some q => .string q.1 q.2.1
  | none => .string "" 0
theorem xq_all {args : Array Value} {s : State} (h : narrow_1.before args s = true) : ∀ k, k < xk_N → xk_Q args s (xk_st k) (xk_by k)
  | 0, _ => xq_0 h
  | 1, _ => xq_1 h
  | 2, _ => xq_2 h
  | 3, _ => xq_3 h
  | 4, _ => xq_4 h
  | 5, _ => xq_5 h
  | 6, _ => xq_6 h
  | 7, _ => xq_7 h
  | 8, _ => xq_8 h
  | 9, _ => xq_9 h
  | 10, _ => xq_10 h
  | 11, _ => xq_11 h
  | 12, _ => xq_12 h
  | 13, _ => xq_13 h
  | 14, _ => xq_14 h
  | 15, _ => xq_15 h
  | 16, _ => xq_16 h
  | 17, _ => xq_17 h
  | 18, _ => xq_18 h
  | 19, _ => xq_19 h
  | 20, _ => xq_20 h
  | 21, _ => xq_21 h
  | 22, _ => xq_22 h
  | 23, _ => xq_23 h
  | 24, _ => xq_24 h
  | 25, _ => xq_25 h
  | 26, _ => xq_26 h
  | 27, _ => xq_27 h
  | 28, _ => xq_28 h
  | 29, _ => xq_29 h
  | 30, _ => xq_30 h
  | 31, _ => xq_31 h
  | 32, _ => xq_32 h
  | 33, _ => xq_33 h
  | 34, _ => xq_34 h
  | 35, _ => xq_35 h
  | 36, _ => xq_36 h
  | 37, _ => xq_37 h
  | 38, _ => xq_38 h
  | 39, _ => xq_39 h
  | 40, _ => xq_40 h
  | 41, _ => xq_41 h
  | 42, _ => xq_42 h
  | 43, _ => xq_43 h
  | 44, _ => xq_44 h
  | 45, _ => xq_45 h
  | 46, _ => xq_46 h
  | 47, _ => xq_47 h
  | 48, _ => xq_48 h
  | 49, _ => xq_49 h
  | 50, _ => xq_50 h
  | 51, _ => xq_51 h
  | 52, _ => xq_52 h
  | 53, _ => xq_53 h
  | 54, _ => xq_54 h
  | 55, _ => xq_55 h
  | 56, _ => xq_56 h
  | 57, _ => xq_57 h
  | 58, _ => xq_58 h
  | 59, _ => xq_59 h
  | 60, _ => xq_60 h
  | 61, _ => xq_61 h
  | 62, _ => xq_62 h
  | 63, _ => xq_63 h
  | 64, _ => xq_64 h
  | 65, _ => xq_65 h
  | 66, _ => xq_66 h
  | 67, _ => xq_67 h
  | 68, _ => xq_68 h
  | 69, _ => xq_69 h
  | 70, _ => xq_70 h
  | 71, _ => xq_71 h
  | 72, _ => xq_72 h
  | 73, _ => xq_73 h
  | 74, _ => xq_74 h
  | 75, _ => xq_75 h
  | 76, _ => xq_76 h
  | k + 77, hk => absurd hk (by show ¬ k + 77 < 77; omega)
theorem xs_0 : Cond.stringRef "FormulaShaper$Arity" 76 (xk_tx (tables_1.getD 1424 .tt)) ∈ lw_tbl := xw_tm 1424 (by decide +kernel)
theorem xs_1 : Cond.stringRef "FormulaShaper$Arity" 82 (xk_tx (tables_1.getD 1425 .tt)) ∈ lw_tbl := xw_tm 1425 (by decide +kernel)
theorem xs_2 : Cond.stringRef "FormulaShaper$Arity" 85 (xk_tx (tables_1.getD 1426 .tt)) ∈ lw_tbl := xw_tm 1426 (by decide +kernel)
theorem xs_3 : Cond.stringRef "FormulaShaper$Arity" 88 (xk_tx (tables_1.getD 1427 .tt)) ∈ lw_tbl := xw_tm 1427 (by decide +kernel)
theorem xs_4 : Cond.stringRef "FormulaShaper$Arity" 91 (xk_tx (tables_1.getD 1428 .tt)) ∈ lw_tbl := xw_tm 1428 (by decide +kernel)
theorem xs_5 : Cond.stringRef "FormulaShaper$Arity" 94 (xk_tx (tables_1.getD 1429 .tt)) ∈ lw_tbl := xw_tm 1429 (by decide +kernel)
theorem xs_6 : Cond.stringRef "FormulaShaper$Arity" 97 (xk_tx (tables_1.getD 1430 .tt)) ∈ lw_tbl := xw_tm 1430 (by decide +kernel)
theorem xs_7 : Cond.stringRef "FormulaShaper$Arity" 99 (xk_tx (tables_1.getD 1422 .tt)) ∈ lw_tbl := xw_tm 1422 (by decide +kernel)
theorem xs_8 : Cond.stringRef "FormulaShaper$Arity" 100 (xk_tx (tables_1.getD 1423 .tt)) ∈ lw_tbl := xw_tm 1423 (by decide +kernel)
theorem xs_9 : Cond.stringRef "FormulaShaper$Arity" 102 (xk_tx (tables_1.getD 1421 .tt)) ∈ lw_tbl := xw_tm 1421 (by decide +kernel)
theorem xs_10 : Cond.stringRef "FormulaShaper$Formula" 47 (xk_tx (tables_1.getD 779 .tt)) ∈ lw_tbl := xw_tm 779 (by decide +kernel)
theorem xs_11 : Cond.stringRef "FormulaShaper$Grammar" 51 (xk_tx (tables_1.getD 648 .tt)) ∈ lw_tbl := xw_tm 648 (by decide +kernel)
theorem xs_12 : Cond.stringRef "FormulaShaper$Grammar" 57 (xk_tx (tables_1.getD 567 .tt)) ∈ lw_tbl := xw_tm 567 (by decide +kernel)
theorem xs_13 : Cond.stringRef "FormulaShaper$Grammar" 76 (xk_tx (tables_1.getD 647 .tt)) ∈ lw_tbl := xw_tm 647 (by decide +kernel)
theorem xs_14 : Cond.stringRef "FormulaShaper$Splitter" 90 (xk_tx (tables_1.getD 471 .tt)) ∈ lw_tbl := xw_tm 471 (by decide +kernel)
theorem xs_15 : Cond.stringRef "FormulaShaper$Splitter" 110 (xk_tx (tables_1.getD 321 .tt)) ∈ lw_tbl := xw_tm 321 (by decide +kernel)
theorem xs_16 : Cond.stringRef "FormulaShaper$Splitter" 119 (xk_tx (tables_1.getD 460 .tt)) ∈ lw_tbl := xw_tm 460 (by decide +kernel)
theorem xs_17 : Cond.stringRef "FormulaShaperModel" 31 (xk_tx (tables_1.getD 902 .tt)) ∈ lw_tbl := xw_tm 902 (by decide +kernel)
theorem xs_18 : Cond.stringRef "FormulaShaperModel" 33 (xk_tx (tables_1.getD 903 .tt)) ∈ lw_tbl := xw_tm 903 (by decide +kernel)
theorem xs_19 : Cond.stringRef "FormulaShaperModel" 35 (xk_tx (tables_1.getD 904 .tt)) ∈ lw_tbl := xw_tm 904 (by decide +kernel)
theorem xs_20 : Cond.stringRef "FormulaShaperModel" 37 (xk_tx (tables_1.getD 905 .tt)) ∈ lw_tbl := xw_tm 905 (by decide +kernel)
theorem xs_21 : Cond.stringRef "FormulaShaperModel" 39 (xk_tx (tables_1.getD 906 .tt)) ∈ lw_tbl := xw_tm 906 (by decide +kernel)
theorem xs_22 : Cond.stringRef "FormulaShaperModel" 41 (xk_tx (tables_1.getD 907 .tt)) ∈ lw_tbl := xw_tm 907 (by decide +kernel)
theorem xs_23 : Cond.stringRef "FormulaShaperModel" 43 (xk_tx (tables_1.getD 908 .tt)) ∈ lw_tbl := xw_tm 908 (by decide +kernel)
theorem xs_24 : Cond.stringRef "FormulaShaperModel" 45 (xk_tx (tables_1.getD 909 .tt)) ∈ lw_tbl := xw_tm 909 (by decide +kernel)
theorem xs_25 : Cond.stringRef "FormulaShaperModel" 51 (xk_tx (tables_1.getD 910 .tt)) ∈ lw_tbl := xw_tm 910 (by decide +kernel)
theorem xs_26 : Cond.stringRef "FormulaShaperModel" 53 (xk_tx (tables_1.getD 911 .tt)) ∈ lw_tbl := xw_tm 911 (by decide +kernel)
theorem xs_27 : Cond.stringRef "FormulaShaperModel" 55 (xk_tx (tables_1.getD 912 .tt)) ∈ lw_tbl := xw_tm 912 (by decide +kernel)
theorem xs_28 : Cond.stringRef "FormulaShaperModel" 57 (xk_tx (tables_1.getD 913 .tt)) ∈ lw_tbl := xw_tm 913 (by decide +kernel)
theorem xs_29 : Cond.stringRef "FormulaShaperModel" 59 (xk_tx (tables_1.getD 914 .tt)) ∈ lw_tbl := xw_tm 914 (by decide +kernel)
theorem xs_30 : Cond.stringRef "FormulaShaperModel" 61 (xk_tx (tables_1.getD 915 .tt)) ∈ lw_tbl := xw_tm 915 (by decide +kernel)
theorem xs_31 : Cond.stringRef "FormulaShaperModel" 63 (xk_tx (tables_1.getD 916 .tt)) ∈ lw_tbl := xw_tm 916 (by decide +kernel)
theorem xs_32 : Cond.stringRef "FormulaShaperModel" 65 (xk_tx (tables_1.getD 917 .tt)) ∈ lw_tbl := xw_tm 917 (by decide +kernel)
theorem xs_33 : Cond.stringRef "FormulaShaperModel" 67 (xk_tx (tables_1.getD 918 .tt)) ∈ lw_tbl := xw_tm 918 (by decide +kernel)
theorem xs_34 : Cond.stringRef "FormulaShaperModel" 69 (xk_tx (tables_1.getD 919 .tt)) ∈ lw_tbl := xw_tm 919 (by decide +kernel)
theorem xs_35 : Cond.stringRef "FormulaShaperModel" 71 (xk_tx (tables_1.getD 920 .tt)) ∈ lw_tbl := xw_tm 920 (by decide +kernel)
theorem xs_36 : Cond.stringRef "FormulaShaperModel" 73 (xk_tx (tables_1.getD 921 .tt)) ∈ lw_tbl := xw_tm 921 (by decide +kernel)
theorem xs_37 : Cond.stringRef "FormulaShaperModel" 75 (xk_tx (tables_1.getD 922 .tt)) ∈ lw_tbl := xw_tm 922 (by decide +kernel)
theorem xs_38 : Cond.stringRef "FormulaShaperModel" 77 (xk_tx (tables_1.getD 923 .tt)) ∈ lw_tbl := xw_tm 923 (by decide +kernel)
theorem xs_39 : Cond.stringRef "FormulaShaperModel" 79 (xk_tx (tables_1.getD 924 .tt)) ∈ lw_tbl := xw_tm 924 (by decide +kernel)
theorem xs_40 : Cond.stringRef "FormulaShaperModel" 81 (xk_tx (tables_1.getD 925 .tt)) ∈ lw_tbl := xw_tm 925 (by decide +kernel)
theorem xs_41 : Cond.stringRef "FormulaShaperModel" 83 (xk_tx (tables_1.getD 926 .tt)) ∈ lw_tbl := xw_tm 926 (by decide +kernel)
theorem xs_42 : Cond.stringRef "FormulaShaperModel" 85 (xk_tx (tables_1.getD 927 .tt)) ∈ lw_tbl := xw_tm 927 (by decide +kernel)
theorem xs_43 : Cond.stringRef "FormulaShaperModel" 87 (xk_tx (tables_1.getD 928 .tt)) ∈ lw_tbl := xw_tm 928 (by decide +kernel)
theorem xs_44 : Cond.stringRef "FormulaShaperModel" 89 (xk_tx (tables_1.getD 929 .tt)) ∈ lw_tbl := xw_tm 929 (by decide +kernel)
theorem xs_45 : Cond.stringRef "FormulaShaperModel" 91 (xk_tx (tables_1.getD 930 .tt)) ∈ lw_tbl := xw_tm 930 (by decide +kernel)
theorem xs_46 : Cond.stringRef "FormulaShaperModel" 93 (xk_tx (tables_1.getD 931 .tt)) ∈ lw_tbl := xw_tm 931 (by decide +kernel)
theorem xs_47 : Cond.stringRef "FormulaShaperModel" 95 (xk_tx (tables_1.getD 932 .tt)) ∈ lw_tbl := xw_tm 932 (by decide +kernel)
theorem xs_48 : Cond.stringRef "FormulaShaperModel" 97 (xk_tx (tables_1.getD 933 .tt)) ∈ lw_tbl := xw_tm 933 (by decide +kernel)
theorem xs_49 : Cond.stringRef "FormulaShaperModel" 99 (xk_tx (tables_1.getD 934 .tt)) ∈ lw_tbl := xw_tm 934 (by decide +kernel)
theorem xs_50 : Cond.stringRef "FormulaShaperModel" 101 (xk_tx (tables_1.getD 935 .tt)) ∈ lw_tbl := xw_tm 935 (by decide +kernel)
theorem xs_51 : Cond.stringRef "FormulaShaperModel" 103 (xk_tx (tables_1.getD 936 .tt)) ∈ lw_tbl := xw_tm 936 (by decide +kernel)
theorem xs_52 : Cond.stringRef "FormulaShaperModel" 105 (xk_tx (tables_1.getD 937 .tt)) ∈ lw_tbl := xw_tm 937 (by decide +kernel)
theorem xs_53 : Cond.stringRef "FormulaShaperModel" 107 (xk_tx (tables_1.getD 938 .tt)) ∈ lw_tbl := xw_tm 938 (by decide +kernel)
theorem xs_54 : Cond.stringRef "FormulaShaperModel" 109 (xk_tx (tables_1.getD 939 .tt)) ∈ lw_tbl := xw_tm 939 (by decide +kernel)
theorem xs_55 : Cond.stringRef "FormulaShaperModel" 111 (xk_tx (tables_1.getD 940 .tt)) ∈ lw_tbl := xw_tm 940 (by decide +kernel)
theorem xs_56 : Cond.stringRef "FormulaShaperModel" 113 (xk_tx (tables_1.getD 941 .tt)) ∈ lw_tbl := xw_tm 941 (by decide +kernel)
theorem xs_57 : Cond.stringRef "FormulaShaperModel" 115 (xk_tx (tables_1.getD 942 .tt)) ∈ lw_tbl := xw_tm 942 (by decide +kernel)
theorem xs_58 : Cond.stringRef "FormulaShaperModel" 117 (xk_tx (tables_1.getD 943 .tt)) ∈ lw_tbl := xw_tm 943 (by decide +kernel)
theorem xs_59 : Cond.stringRef "FormulaShaperModel" 119 (xk_tx (tables_1.getD 944 .tt)) ∈ lw_tbl := xw_tm 944 (by decide +kernel)
theorem xs_60 : Cond.stringRef "FormulaShaperModel" 121 (xk_tx (tables_1.getD 945 .tt)) ∈ lw_tbl := xw_tm 945 (by decide +kernel)
theorem xs_61 : Cond.stringRef "FormulaShaperModel" 123 (xk_tx (tables_1.getD 946 .tt)) ∈ lw_tbl := xw_tm 946 (by decide +kernel)
theorem xs_62 : Cond.stringRef "FormulaShaperModel" 125 (xk_tx (tables_1.getD 947 .tt)) ∈ lw_tbl := xw_tm 947 (by decide +kernel)
theorem xs_63 : Cond.stringRef "FormulaShaperModel" 127 (xk_tx (tables_1.getD 948 .tt)) ∈ lw_tbl := xw_tm 948 (by decide +kernel)
theorem xs_64 : Cond.stringRef "FormulaShaperModel" 139 (xk_tx (tables_1.getD 949 .tt)) ∈ lw_tbl := xw_tm 949 (by decide +kernel)
theorem xs_65 : Cond.stringRef "FormulaShaperModel" 141 (xk_tx (tables_1.getD 950 .tt)) ∈ lw_tbl := xw_tm 950 (by decide +kernel)
theorem xs_66 : Cond.stringRef "FormulaShaperModel" 143 (xk_tx (tables_1.getD 951 .tt)) ∈ lw_tbl := xw_tm 951 (by decide +kernel)
theorem xs_67 : Cond.stringRef "FormulaShaperModel" 145 (xk_tx (tables_1.getD 952 .tt)) ∈ lw_tbl := xw_tm 952 (by decide +kernel)
theorem xs_68 : Cond.stringRef "FormulaShaperModel" 147 (xk_tx (tables_1.getD 953 .tt)) ∈ lw_tbl := xw_tm 953 (by decide +kernel)
theorem xs_69 : Cond.stringRef "FormulaShaperModel" 149 (xk_tx (tables_1.getD 954 .tt)) ∈ lw_tbl := xw_tm 954 (by decide +kernel)
theorem xs_70 : Cond.stringRef "FormulaShaperModel" 151 (xk_tx (tables_1.getD 955 .tt)) ∈ lw_tbl := xw_tm 955 (by decide +kernel)
theorem xs_71 : Cond.stringRef "FormulaShaperModel" 153 (xk_tx (tables_1.getD 956 .tt)) ∈ lw_tbl := xw_tm 956 (by decide +kernel)
theorem xs_72 : Cond.stringRef "FormulaShaperModel" 155 (xk_tx (tables_1.getD 957 .tt)) ∈ lw_tbl := xw_tm 957 (by decide +kernel)
theorem xs_73 : Cond.stringRef "FormulaShaperModel" 157 (xk_tx (tables_1.getD 958 .tt)) ∈ lw_tbl := xw_tm 958 (by decide +kernel)
theorem xs_74 : Cond.stringRef "FormulaShaperModel" 159 (xk_tx (tables_1.getD 959 .tt)) ∈ lw_tbl := xw_tm 959 (by decide +kernel)
theorem xs_75 : Cond.stringRef "FormulaShaperModel" 324 (xk_tx (tables_1.getD 1249 .tt)) ∈ lw_tbl := xw_tm 1249 (by decide +kernel)
theorem xs_76 : Cond.stringRef "FormulaShaperModel" 330 (xk_tx (tables_1.getD 1254 .tt)) ∈ lw_tbl := xw_tm 1254 (by decide +kernel)
theorem xk_R_all : ∀ q ∈ xk_R, Cond.stringRef q.1 q.2.1 (xk_tx (tables_1.getD q.2.2.2 .tt)) ∈ lw_tbl ∧ xk_st q.2.2.1 = .string q.1 q.2.1 ∧ q.2.2.1 < xk_N := by
  intro q hq
  simp only [xk_R, List.mem_cons, List.not_mem_nil, or_false] at hq
  rcases hq with rfl | rfl | rfl | rfl | rfl | rfl | rfl | rfl | rfl | rfl | rfl | rfl | rfl | rfl | rfl | rfl | rfl | rfl | rfl | rfl | rfl | rfl | rfl | rfl | rfl | rfl | rfl | rfl | rfl | rfl | rfl | rfl | rfl | rfl | rfl | rfl | rfl | rfl | rfl | rfl | rfl | rfl | rfl | rfl | rfl | rfl | rfl | rfl | rfl | rfl | rfl | rfl | rfl | rfl | rfl | rfl | rfl | rfl | rfl | rfl | rfl | rfl | rfl | rfl | rfl | rfl | rfl | rfl | rfl | rfl | rfl | rfl | rfl | rfl | rfl | rfl | rfl
  · exact ⟨xs_0, rfl, by decide⟩
  · exact ⟨xs_1, rfl, by decide⟩
  · exact ⟨xs_2, rfl, by decide⟩
  · exact ⟨xs_3, rfl, by decide⟩
  · exact ⟨xs_4, rfl, by decide⟩
  · exact ⟨xs_5, rfl, by decide⟩
  · exact ⟨xs_6, rfl, by decide⟩
  · exact ⟨xs_7, rfl, by decide⟩
  · exact ⟨xs_8, rfl, by decide⟩
  · exact ⟨xs_9, rfl, by decide⟩
  · exact ⟨xs_10, rfl, by decide⟩
  · exact ⟨xs_11, rfl, by decide⟩
  · exact ⟨xs_12, rfl, by decide⟩
  · exact ⟨xs_13, rfl, by decide⟩
  · exact ⟨xs_14, rfl, by decide⟩
  · exact ⟨xs_15, rfl, by decide⟩
  · exact ⟨xs_16, rfl, by decide⟩
  · exact ⟨xs_17, rfl, by decide⟩
  · exact ⟨xs_18, rfl, by decide⟩
  · exact ⟨xs_19, rfl, by decide⟩
  · exact ⟨xs_20, rfl, by decide⟩
  · exact ⟨xs_21, rfl, by decide⟩
  · exact ⟨xs_22, rfl, by decide⟩
  · exact ⟨xs_23, rfl, by decide⟩
  · exact ⟨xs_24, rfl, by decide⟩
  · exact ⟨xs_25, rfl, by decide⟩
  · exact ⟨xs_26, rfl, by decide⟩
  · exact ⟨xs_27, rfl, by decide⟩
  · exact ⟨xs_28, rfl, by decide⟩
  · exact ⟨xs_29, rfl, by decide⟩
  · exact ⟨xs_30, rfl, by decide⟩
  · exact ⟨xs_31, rfl, by decide⟩
  · exact ⟨xs_32, rfl, by decide⟩
  · exact ⟨xs_33, rfl, by decide⟩
  · exact ⟨xs_34, rfl, by decide⟩
  · exact ⟨xs_35, rfl, by decide⟩
  · exact ⟨xs_36, rfl, by decide⟩
  · exact ⟨xs_37, rfl, by decide⟩
  · exact ⟨xs_38, rfl, by decide⟩
  · exact ⟨xs_39, rfl, by decide⟩
  · exact ⟨xs_40, rfl, by decide⟩
  · exact ⟨xs_41, rfl, by decide⟩
  · exact ⟨xs_42, rfl, by decide⟩
  · exact ⟨xs_43, rfl, by decide⟩
  · exact ⟨xs_44, rfl, by decide⟩
  · exact ⟨xs_45, rfl, by decide⟩
  · exact ⟨xs_46, rfl, by decide⟩
  · exact ⟨xs_47, rfl, by decide⟩
  · exact ⟨xs_48, rfl, by decide⟩
  · exact ⟨xs_49, rfl, by decide⟩
  · exact ⟨xs_50, rfl, by decide⟩
  · exact ⟨xs_51, rfl, by decide⟩
  · exact ⟨xs_52, rfl, by decide⟩
  · exact ⟨xs_53, rfl, by decide⟩
  · exact ⟨xs_54, rfl, by decide⟩
  · exact ⟨xs_55, rfl, by decide⟩
  · exact ⟨xs_56, rfl, by decide⟩
  · exact ⟨xs_57, rfl, by decide⟩
  · exact ⟨xs_58, rfl, by decide⟩
  · exact ⟨xs_59, rfl, by decide⟩
  · exact ⟨xs_60, rfl, by decide⟩
  · exact ⟨xs_61, rfl, by decide⟩
  · exact ⟨xs_62, rfl, by decide⟩
  · exact ⟨xs_63, rfl, by decide⟩
  · exact ⟨xs_64, rfl, by decide⟩
  · exact ⟨xs_65, rfl, by decide⟩
  · exact ⟨xs_66, rfl, by decide⟩
  · exact ⟨xs_67, rfl, by decide⟩
  · exact ⟨xs_68, rfl, by decide⟩
  · exact ⟨xs_69, rfl, by decide⟩
  · exact ⟨xs_70, rfl, by decide⟩
  · exact ⟨xs_71, rfl, by decide⟩
  · exact ⟨xs_72, rfl, by decide⟩
  · exact ⟨xs_73, rfl, by decide⟩
  · exact ⟨xs_74, rfl, by decide⟩
  · exact ⟨xs_75, rfl, by decide⟩
  · exact ⟨xs_76, rfl, by decide⟩
def xk_rf (args : Array Value) (s : State) (t : Term) : Nat := match t.eval args s none [] s with
  | some (.ref a) => a
  | _ => 0
theorem xk_rf_eq {args : Array Value} {s : State} {t : Term} {a : Nat} (h : t.eval args s none [] s = some (.ref a)) : xk_rf args s t = a := by
  unfold xk_rf
  rw [h]
def xk_stV (k : Nat) : Term := .field (xk_st k) "java/lang/String" "value" "[B"
def xk_art (i : Nat) : Term := .static "FormulaShaper$Arity" (xk_an.getD i "") "LFormulaShaper$Arity;"
/-- the address of the constant k -/
def xk_adr (args : Array Value) (s : State) (b : Nat) (k : Nat) : Nat :=
  if k < 77 then xk_rf args s (xk_st k) else if k < 100 then 0 else if k < 110 then xk_rf args s (xk_art (k - 100)) else if k = 110 then xk_rf args s (.static "FormulaShaper$Arity" "ALL" "[LFormulaShaper$Arity;") else if k = 111 then xk_rf args s (.static "FormulaShaperModel" "LEAST" "[I") else if k = 112 then xk_rf args s (.static "FormulaShaperModel" "GREATEST" "[I") else if k = 113 then xk_rf args s (.static "jdk/internal/util/Preconditions" "SIOOBE_FORMATTER" "Ljava/util/function/BiFunction;") else if k < 500 then 0 else if k < 577 then xk_rf args s (xk_stV (k - 500)) else b
theorem xad_s {args : Array Value} {s : State} {b k : Nat} (h : k < 77) : xk_adr args s b k = xk_rf args s (xk_st k) := by unfold xk_adr; rw [if_pos h]
theorem xad_v {args : Array Value} {s : State} {b k : Nat} (h : k < 77) : xk_adr args s b (500 + k) = xk_rf args s (xk_stV k) := by
  unfold xk_adr
  rw [if_neg (by omega), if_neg (by omega), if_neg (by omega), if_neg (by omega), if_neg (by omega), if_neg (by omega), if_neg (by omega), if_neg (by omega), if_pos (by omega), Nat.add_sub_cancel_left]
theorem xad_a {args : Array Value} {s : State} {b i : Nat} (h : i < 10) : xk_adr args s b (100 + i) = xk_rf args s (xk_art i) := by
  unfold xk_adr
  rw [if_neg (by omega), if_neg (by omega), if_pos (by omega), Nat.add_sub_cancel_left]
theorem xk_str {args : Array Value} {s : State} {t : Term} {l : List Int32} {A : Nat → Prop} (hq : xk_Q args s t l) (hl : l.length < 2 ^ 31) (hA : ∀ a : Nat, a < s.heap.size → ¬ A a) : ∃ a v, t.eval args s none [] s = some (.ref a) ∧ (Term.field t "java/lang/String" "value" "[B").eval args s none [] s = some (.ref v) ∧ va_O "java/lang/String" a A s s.heap ∧ va_OF "java/lang/String" "coder" "B" (.int 0) a A s s.heap ∧ va_OF "java/lang/String" "value" "[B" (.ref v) a A s s.heap ∧ va_T .byte v l.length (fun j => .int (l.getD j 0)) A s s.heap := by
  obtain ⟨h1, h2, h3, h4, h5⟩ := hq
  obtain ⟨a, c, cA, kA, q1, q2, q3, q4, q5, q6, -⟩ := Cond.exactly_spec (args := args) (first := s) (o := none) (s := s) (idx := []) (t := t) (cls := "java/lang/String") h1
  obtain ⟨v, hv, hT⟩ := va_Tof (f := fun j => .int (l.getD j 0)) (A := A) hl h3 (va_eqt h4) (fun j hj => by
    have := xk_E_get h5 j (.int (l.getD j 0)) (by rw [List.getElem?_map, List.getElem?_eq_getElem hj, List.getD_eq_getElem?_getD, List.getElem?_eq_getElem hj]; rfl)
    rw [Nat.zero_add] at this
    exact va_eqt this) hA
  exact ⟨a, v, q1, hv, ⟨cA, q3, q5, by rw [q6]; exact q2, hA a (Array.getElem?_eq_some_iff.mp q3).1⟩, vk_OFof q1 (va_eqt h2) hA, vk_OFof q1 hv hA, hT⟩
/-- an array that is given by its elements -/
theorem xk_arr {args : Array Value} {s : State} {t : Term} {ty : FieldType} {n : Nat} {l : List Term} {f : Nat → Value} {A : Nat → Prop} (hq : xk_U args s t ty n l) (hn : n < 2 ^ 31) (hf : ∀ j, j < n → ∃ x, l[j]? = some x ∧ x.eval args s none [] s = some (f j)) (hA : ∀ a : Nat, a < s.heap.size → ¬ A a) : ∃ v, t.eval args s none [] s = some (.ref v) ∧ va_T ty v n f A s s.heap := by
  obtain ⟨h1, h2, h3⟩ := hq
  refine va_Tof hn h1 (va_eqt h2) (fun j hj => ?_) hA
  obtain ⟨x, e1, e2⟩ := hf j hj
  have := xk_E_get h3 j x e1
  rw [Nat.zero_add] at this
  exact va_eqv this e2
theorem xk_ari {args : Array Value} {s : State} (h : narrow_1.before args s = true) : ∀ i, i < 10 → (Cond.exactly (xk_art i) "FormulaShaper$Arity").before args s = true ∧ (Cond.eq (.field (xk_art i) "FormulaShaper$Arity" "least" "I") (.int (xk_ar.getD i (0, 0, 0)).1)).before args s = true ∧ (Cond.eq (.field (xk_art i) "FormulaShaper$Arity" "most" "I") (.int (xk_ar.getD i (0, 0, 0)).2.1)).before args s = true ∧ (Cond.eq (.field (xk_art i) "FormulaShaper$Arity" "names" "Ljava/lang/String;") (xk_st (xk_ar.getD i (0, 0, 0)).2.2)).before args s = true ∧ (xk_ar.getD i (0, 0, 0)).2.2 < 77
  | 0, _ => ⟨(xr_0 h).1, (xr_0 h).2.1, (xr_0 h).2.2.1, (xr_0 h).2.2.2, by decide⟩
  | 1, _ => ⟨(xr_1 h).1, (xr_1 h).2.1, (xr_1 h).2.2.1, (xr_1 h).2.2.2, by decide⟩
  | 2, _ => ⟨(xr_2 h).1, (xr_2 h).2.1, (xr_2 h).2.2.1, (xr_2 h).2.2.2, by decide⟩
  | 3, _ => ⟨(xr_3 h).1, (xr_3 h).2.1, (xr_3 h).2.2.1, (xr_3 h).2.2.2, by decide⟩
  | 4, _ => ⟨(xr_4 h).1, (xr_4 h).2.1, (xr_4 h).2.2.1, (xr_4 h).2.2.2, by decide⟩
  | 5, _ => ⟨(xr_5 h).1, (xr_5 h).2.1, (xr_5 h).2.2.1, (xr_5 h).2.2.2, by decide⟩
  | 6, _ => ⟨(xr_6 h).1, (xr_6 h).2.1, (xr_6 h).2.2.1, (xr_6 h).2.2.2, by decide⟩
  | 7, _ => ⟨(xr_7 h).1, (xr_7 h).2.1, (xr_7 h).2.2.1, (xr_7 h).2.2.2, by decide⟩
  | 8, _ => ⟨(xr_8 h).1, (xr_8 h).2.1, (xr_8 h).2.2.1, (xr_8 h).2.2.2, by decide⟩
  | 9, _ => ⟨(xr_9 h).1, (xr_9 h).2.1, (xr_9 h).2.2.1, (xr_9 h).2.2.2, by decide⟩
  | i + 10, hi => absurd hi (by omega)
/-- THE CONSTANTS -/
theorem xk_world {args : Array Value} {s : State} {b : Nat} {l : Launch} {D : va_G} {tc : Nat → ClassId} (h : narrow_1.before args s = true) (hts : ∀ w ∈ lw_tbl, w.before args s = true) (htc : ∀ k, tc (1000 + k) = xk_adr args s b k) : xk_W (l, D, tc, s) := by
  have hA : ∀ a : Nat, a < s.heap.size → ¬ (fun q => xw_lo (l, D, tc, s) ≤ q) a := fun a ha => Nat.not_le.mpr ha
  have hc : ∀ k, xk_cad (l, D, tc, s) k = xk_adr args s b k := htc
  have hS := fun k (hk : k < 77) => xk_str (A := fun q => xw_lo (l, D, tc, s) ≤ q) (xq_all h k hk) (Nat.lt_trans (xk_len k hk) (by decide)) hA
  have hAr := fun i (hi : i < 10) => Cond.exactly_spec (args := args) (first := s) (o := none) (s := s) (idx := []) (t := xk_art i) (cls := "FormulaShaper$Arity") (xk_ari h i hi).1
  have eA : ∀ i, i < 10 → (xk_art i).eval args s none [] s = some (.ref (xk_cad (l, D, tc, s) (100 + i))) := fun i hi => by
    obtain ⟨a, c, cA, kA, q1, -⟩ := hAr i hi
    rw [hc, xad_a hi, xk_rf_eq q1]
    exact q1
  have eS : ∀ k, k < 77 → (xk_st k).eval args s none [] s = some (.ref (xk_cad (l, D, tc, s) k)) := fun k hk => by
    obtain ⟨a, v, q1, -⟩ := hS k hk
    rw [hc, xad_s hk, xk_rf_eq q1]
    exact q1
  have eV : ∀ k, k < 77 → (xk_stV k).eval args s none [] s = some (.ref (xk_cad (l, D, tc, s) (500 + k))) := fun k hk => by
    obtain ⟨a, v, q1, q2, -⟩ := hS k hk
    have e9 : xk_rf args s (xk_stV k) = v := xk_rf_eq q2
    rw [hc, xad_v hk, e9]
    exact q2
  obtain ⟨v0, hv0, hT0⟩ := xk_arr (f := fun j => .ref (xk_cad (l, D, tc, s) (100 + j))) (A := fun q => xw_lo (l, D, tc, s) ≤ q) (xu_110 h) (by decide) (fun j hj => ⟨xk_art j, by
    have : ∀ j, j < 10 → (xk_an.map (fun x => Term.static "FormulaShaper$Arity" x "LFormulaShaper$Arity;"))[j]? = some (xk_art j) := by decide
    exact this j hj, eA j hj⟩) hA
  obtain ⟨v1, hv1, hT1⟩ := xk_arr (f := fun j => .int (xk_least.getD j 0)) (A := fun q => xw_lo (l, D, tc, s) ≤ q) (xu_111 h) (by decide) (fun j hj => ⟨.int (xk_least.getD j 0), by
    have : ∀ j, j < 39 → (xk_least.map (fun x => Term.int x))[j]? = some (.int (xk_least.getD j 0)) := by decide
    exact this j hj, rfl⟩) hA
  obtain ⟨v2, hv2, hT2⟩ := xk_arr (f := fun j => .int (xk_greatest.getD j 0)) (A := fun q => xw_lo (l, D, tc, s) ≤ q) (xu_112 h) (by decide) (fun j hj => ⟨.int (xk_greatest.getD j 0), by
    have : ∀ j, j < 39 → (xk_greatest.map (fun x => Term.int x))[j]? = some (.int (xk_greatest.getD j 0)) := by decide
    exact this j hj, rfl⟩) hA
  have e0 : xk_cad (l, D, tc, s) 110 = v0 := by rw [hc]; exact xk_rf_eq hv0
  have e1 : xk_cad (l, D, tc, s) 111 = v1 := by rw [hc]; exact xk_rf_eq hv1
  have e2 : xk_cad (l, D, tc, s) 112 = v2 := by rw [hc]; exact xk_rf_eq hv2
  refine ⟨?_, ?_, ?_, ?_, ?_, ?_, xo_5 h⟩
  · intro q hq
    rcases List.mem_append.mp hq with hq | hq
    · obtain ⟨k, hk, rfl⟩ := List.mem_map.mp hq
      have hk : k < 77 := List.mem_range.mp hk
      exact va_Oof (xq_all h k hk).1 (eS k hk) hA
    · obtain ⟨i, hi, rfl⟩ := List.mem_map.mp hq
      have hi := List.mem_range.mp hi
      exact va_Oof (xk_ari h i hi).1 (eA i hi) hA
  · intro q hq
    rcases List.mem_append.mp hq with hq | hq
    · obtain ⟨k, hk, rfl⟩ := List.mem_map.mp hq
      have hk : k < 77 := List.mem_range.mp hk
      exact vk_OFof (eS k hk) (va_eqt (xq_all h k hk).2.1) hA
    rcases List.mem_append.mp hq with hq | hq
    · obtain ⟨k, hk, rfl⟩ := List.mem_map.mp hq
      have hk : k < 77 := List.mem_range.mp hk
      exact vk_OFof (eS k hk) (eV k hk) hA
    rcases List.mem_append.mp hq with hq | hq
    · obtain ⟨i, hi, rfl⟩ := List.mem_map.mp hq
      have hi := List.mem_range.mp hi
      exact vk_OFof (eA i hi) (va_eqt (xk_ari h i hi).2.1) hA
    rcases List.mem_append.mp hq with hq | hq
    · obtain ⟨i, hi, rfl⟩ := List.mem_map.mp hq
      have hi := List.mem_range.mp hi
      exact vk_OFof (eA i hi) (va_eqt (xk_ari h i hi).2.2.1) hA
    · obtain ⟨i, hi, rfl⟩ := List.mem_map.mp hq
      have hi := List.mem_range.mp hi
      exact vk_OFof (eA i hi) (va_eqv (xk_ari h i hi).2.2.2.1 (eS _ (xk_ari h i hi).2.2.2.2)) hA
  · intro q hq
    rcases List.mem_append.mp hq with hq | hq
    · obtain ⟨k, hk, rfl⟩ := List.mem_map.mp hq
      have hk : k < 77 := List.mem_range.mp hk
      obtain ⟨a, v, q1, q2, -, -, -, q3⟩ := hS k hk
      have e9 : xk_cad (l, D, tc, s) (500 + k) = v := by rw [hc, xad_v hk]; exact xk_rf_eq q2
      show va_T .byte (xk_cad (l, D, tc, s) (500 + k)) _ _ _ _ _
      rw [e9]
      exact q3
    · simp only [List.mem_cons, List.not_mem_nil, or_false] at hq
      rcases hq with rfl | rfl | rfl
      · show va_T _ (xk_cad (l, D, tc, s) 110) _ _ _ _ _
        rw [e0]; exact hT0
      · show va_T _ (xk_cad (l, D, tc, s) 111) _ _ _ _ _
        rw [e1]; exact hT1
      · show va_T _ (xk_cad (l, D, tc, s) 112) _ _ _ _ _
        rw [e2]; exact hT2
  · intro q hq
    simp only [xk_Z, List.mem_cons, List.not_mem_nil, or_false] at hq
    rcases hq with rfl | rfl | rfl | rfl | rfl | rfl | rfl
    · exact va_Zof (hts _ tw_335) (hts _ tw_6) (va_eqt (xo_4 h)) hA
    · exact va_Zof (hts _ tw_465) (hts _ tw_19) (by show _ = some (Value.ref (xk_cad (l, D, tc, s) 110)); rw [e0]; exact hv0) hA
    · exact va_Zof (hts _ tw_617) (hts _ tw_19) (eA 9 (by decide)) hA
    · exact va_Zof (hts _ tw_624) (hts _ tw_19) (eA 7 (by decide)) hA
    · exact va_Zof (hts _ tw_638) (hts _ tw_19) (eA 8 (by decide)) hA
    · exact va_Zof (hts _ tw_1288) (hts _ tw_5) (by show _ = some (Value.ref (xk_cad (l, D, tc, s) 111)); rw [e1]; exact hv1) hA
    · exact va_Zof (hts _ tw_1286) (hts _ tw_5) (by show _ = some (Value.ref (xk_cad (l, D, tc, s) 112)); rw [e2]; exact hv2) hA
  · intro q hq
    obtain ⟨g1, g2, g3⟩ := xk_R_all q hq
    exact vk_R.of (hts _ g1) (by rw [← g2]; exact eS _ g3)
  · have h9 := xo_3 h
    cases hv : (Term.static "jdk/internal/util/Preconditions" "SIOOBE_FORMATTER" "Ljava/util/function/BiFunction;").eval args s none [] s with
    | none => simp [Cond.before, Cond.holds, Cond.value, hv] at h9
    | some v =>
      cases v with
      | ref a =>
        refine Or.inr (va_Zof (hts _ tw_351) (hts _ tw_8) ?_ hA)
        have : xk_cad (l, D, tc, s) 113 = a := by rw [hc]; exact xk_rf_eq hv
        rw [this]
        exact hv
      | null => exact Or.inl (va_Zof (hts _ tw_351) (hts _ tw_8) hv hA)
      | _ => simp [Cond.before, Cond.holds, Cond.value, hv, Value.isRef] at h9

