/-- depth that is enough -/
abbrev xGd : Nat := 120
def FG_E (t : xTs) (s : xGs) : Option (Bool × xGs) := (xGat xGd).1 t s
theorem CG_E {w : xw_G} {h : xw_H} {t : xTs} {s : xGs} {out : Bool × xGs} (hF : FG_E t s = some out) : xw_C w (mG_takesExpression (xRG xGd)) (xw_R (some (.int (xb out.1))) (vG t out.2 h)) [.ref 1013] (vG t s h) := (xGok_at w xGd).1 hF
/-- FormulaShaper$Grammar.takesFormula -/
def FG_takesFormula (t : xTs)  (s : xGs) : Option (Bool × xGs) := (FG_takes t 61 s).bind fun r411 => if r411.1 = true then ((FG_E t r411.2).bind fun r413 => if r413.1 = true then ((FG_next t r413.2).bind fun r415 => if r415 = 256 then (some (true, r413.2)) else (some (false, r413.2))) else (some (false, r413.2))) else (some (false, r411.2))
set_option maxRecDepth 20000 in
theorem CG_takesFormula {w : xw_G} {h : xw_H}  {t : xTs}  {s : xGs} {out : (Bool × xGs)} (hF : FG_takesFormula t  s = some out) : xw_C w (mG_takesFormula { frames := 141, cells := 0, slots := 0, locals := 7622 }) (xw_R (some (.int (xb out.1))) (vG t out.2 h)) [.ref 1013] (vG t s h) := by
  unfold FG_takesFormula at hF
  refine xw_enter rfl (show plainName "FormulaShaper$Grammar" = true by decide +kernel) (Nat.le_of_ble_eq_true rfl) ?_
  refine xw_aload_n dG_takesFormula_0 rfl ?_
  refine xw_bipush (61) dG_takesFormula_1 (by decide) ?_
  obtain ⟨r411, er411, hF⟩ := xg_b hF
  refine xg_V1 (k1 := 0) (n1 := 0) (CG_takes er411) rfl rfl rfl dG_takesFormula_3 (kG_22 _) ⟨Nat.le_of_ble_eq_true rfl, Nat.le_of_ble_eq_true rfl⟩ rfl rfl rfl rfl (Nat.le_of_ble_eq_true rfl) (Nat.le_of_ble_eq_true rfl) (Nat.le_of_ble_eq_true rfl) (Nat.le_of_ble_eq_true rfl) (Nat.le_of_ble_eq_true rfl) ?_
  refine xw_if_eqB 30 dG_takesFormula_6 (by decide) (fun c412 => ?_) (fun c412 => ?_)
  · replace hF := xg_f c412 hF
    refine xw_iconst (0) dG_takesFormula_30 (by decide) ?_
    obtain rfl := Option.some.inj hF
    exact xw_ireturn dG_takesFormula_31 rfl (xb_nar false) (Nat.le_of_ble_eq_true rfl) (Nat.le_of_ble_eq_true rfl) ⟨rfl, rfl⟩
  · replace hF := xg_t c412 hF
    refine xw_aload_n dG_takesFormula_9 rfl ?_
    obtain ⟨r413, er413, hF⟩ := xg_b hF
    refine xg_V1 (k1 := 0) (n1 := 0) (CG_E er413) rfl rfl rfl dG_takesFormula_10 (kG_26 _) ⟨Nat.le_of_ble_eq_true rfl, Nat.le_of_ble_eq_true rfl⟩ rfl rfl rfl rfl (Nat.le_of_ble_eq_true rfl) (Nat.le_of_ble_eq_true rfl) (Nat.le_of_ble_eq_true rfl) (Nat.le_of_ble_eq_true rfl) (Nat.le_of_ble_eq_true rfl) ?_
    refine xw_if_eqB 30 dG_takesFormula_13 (by decide) (fun c414 => ?_) (fun c414 => ?_)
    · replace hF := xg_f c414 hF
      refine xw_iconst (0) dG_takesFormula_30 (by decide) ?_
      obtain rfl := Option.some.inj hF
      exact xw_ireturn dG_takesFormula_31 rfl (xb_nar false) (Nat.le_of_ble_eq_true rfl) (Nat.le_of_ble_eq_true rfl) ⟨rfl, rfl⟩
    · replace hF := xg_t c414 hF
      refine xw_aload_n dG_takesFormula_16 rfl ?_
      obtain ⟨r415, er415, hF⟩ := xg_b hF
      refine xg_V1 (k1 := 0) (n1 := 0) (CG_next er415) rfl rfl rfl dG_takesFormula_17 (kG_30 _) ⟨Nat.le_of_ble_eq_true rfl, Nat.le_of_ble_eq_true rfl⟩ rfl rfl rfl rfl (Nat.le_of_ble_eq_true rfl) (Nat.le_of_ble_eq_true rfl) (Nat.le_of_ble_eq_true rfl) (Nat.le_of_ble_eq_true rfl) (Nat.le_of_ble_eq_true rfl) ?_
      refine xw_sipush (256) dG_takesFormula_20 (by decide) ?_
      refine xw_icmp_ne 30 dG_takesFormula_23 (by decide) (fun c416 => ?_) (fun c416 => ?_)
      · replace hF := xg_f c416 hF
        refine xw_iconst (0) dG_takesFormula_30 (by decide) ?_
        obtain rfl := Option.some.inj hF
        exact xw_ireturn dG_takesFormula_31 rfl (xb_nar false) (Nat.le_of_ble_eq_true rfl) (Nat.le_of_ble_eq_true rfl) ⟨rfl, rfl⟩
      · replace hF := xg_t c416 hF
        refine xw_iconst (1) dG_takesFormula_26 (by decide) ?_
        refine xw_goto 31 dG_takesFormula_27 (by decide) ?_
        obtain rfl := Option.some.inj hF
        exact xw_ireturn dG_takesFormula_31 rfl (xb_nar true) (Nat.le_of_ble_eq_true rfl) (Nat.le_of_ble_eq_true rfl) ⟨rfl, rfl⟩
def FR_writeCorner_61  (l3 : Int32) (s : xBs) : Option xBs := (FB_add (48 + (l3 - l3 / 10 * 10)) s).bind fun r421 => some r421
def FR_writeCorner_37  (l0 : Int32) (s : xBs) : Option xBs := if ((sA_number l0) + 1) < 10 then (FR_writeCorner_61  ((sA_number l0) + 1) s) else ((FB_add (48 + (((sA_number l0) + 1) / 10)) s).bind fun r422 => FR_writeCorner_61  ((sA_number l0) + 1) r422)
def FR_writeCorner_13  (l0 : Int32) (l1 : Int32) (s : xBs) : Option xBs := (FB_add (65 + (sA_number l1)) s).bind fun r418 => if (sA_isFixed l0) = 0 then (FR_writeCorner_37  l0 r418) else ((FB_add 36 r418).bind fun r423 => FR_writeCorner_37  l0 r423)
/-- FormulaShaper$Reference.writeCorner -/
def FR_writeCorner  (x0 : Int32) (x1 : Int32) (s : xBs) : Option xBs := if (sA_isFixed x1) = 0 then (FR_writeCorner_13  x0 x1 s) else ((FB_add 36 s).bind fun r424 => FR_writeCorner_13  x0 x1 r424)
set_option maxRecDepth 20000 in
theorem CR_writeCorner_61 {w : xw_G} {h : xw_H} {a : Nat} (ha : 1000 ≤ a)  {l3 : Int32} {s : xBs} {out : xBs} {h0 : xw_H} (hF : FR_writeCorner_61  l3 s = some out) : xw_X w (mR_writeCorner { frames := 1, cells := 0, slots := 0, locals := 21 }) (xw_R none (vB a out h)) h0 0 0 61 [none, none, some (.ref a), some (.int l3)] [] (vB a s h) := by
  unfold FR_writeCorner_61 at hF
  refine xw_aload_n dR_writeCorner_61 rfl ?_
  refine xw_bipush (48) dR_writeCorner_62 (by decide) ?_
  refine xw_iload_n dR_writeCorner_64 rfl ?_
  refine xw_bipush (10) dR_writeCorner_65 (by decide) ?_
  refine xw_irem dR_writeCorner_67 (by decide) ?_
  refine xw_iadd dR_writeCorner_68 ?_
  obtain ⟨r421, er421, hF⟩ := xg_b hF
  refine xg_V0 (k1 := 0) (n1 := 0) (CB_add ha er421) rfl rfl rfl dR_writeCorner_69 (kR_63 _) ⟨Nat.le_of_ble_eq_true rfl, Nat.le_of_ble_eq_true rfl⟩ rfl rfl vB_o rfl (Nat.le_of_ble_eq_true rfl) (Nat.le_of_ble_eq_true rfl) (Nat.le_of_ble_eq_true rfl) (Nat.le_of_ble_eq_true rfl) (Nat.le_of_ble_eq_true rfl) ?_
  obtain rfl := Option.some.inj hF
  exact xw_return dR_writeCorner_72 rfl (Nat.le_of_ble_eq_true rfl) (Nat.le_of_ble_eq_true rfl) ⟨rfl, rfl⟩
set_option maxRecDepth 20000 in
theorem CR_writeCorner_37 {w : xw_G} {h : xw_H} {a : Nat} (ha : 1000 ≤ a)  {l0 : Int32} {s : xBs} {out : xBs} {h0 : xw_H} (hF : FR_writeCorner_37  l0 s = some out) : xw_X w (mR_writeCorner { frames := 1, cells := 0, slots := 0, locals := 21 }) (xw_R none (vB a out h)) h0 0 0 37 [some (.int l0), none, some (.ref a), none] [] (vB a s h) := by
  unfold FR_writeCorner_37 at hF
  refine xw_iload_n dR_writeCorner_37 rfl ?_
  refine xg_S1 (k1 := 0) (n1 := 0) (cA_number w) rfl rfl rfl dR_writeCorner_38 (kR_56 _) ⟨Nat.le_of_ble_eq_true rfl, Nat.le_of_ble_eq_true rfl⟩ rfl rfl (Nat.le_of_ble_eq_true rfl) (Nat.le_of_ble_eq_true rfl) (Nat.le_of_ble_eq_true rfl) (Nat.le_of_ble_eq_true rfl) (Nat.le_of_ble_eq_true rfl) ?_
  refine xw_iconst (1) dR_writeCorner_41 (by decide) ?_
  refine xw_iadd dR_writeCorner_42 ?_
  refine xw_istore_n dR_writeCorner_43 (Nat.le_of_ble_eq_true rfl) ?_
  refine xw_Ln (L' := [some (.int l0), none, some (.ref a), some (.int ((sA_number l0) + 1))]) rfl ?_
  refine xw_iload_n dR_writeCorner_44 rfl ?_
  refine xw_bipush (10) dR_writeCorner_45 (by decide) ?_
  refine xw_icmp_lt 61 dR_writeCorner_47 (by decide) (fun c420 => ?_) (fun c420 => ?_)
  · replace hF := xg_t c420 hF
    refine xw_drop (L' := [none, none, some (.ref a), some (.int ((sA_number l0) + 1))]) ⟨rfl, ⟨rfl, trivial⟩⟩ ?_
    exact CR_writeCorner_61 ha hF
  · replace hF := xg_f c420 hF
    refine xw_aload_n dR_writeCorner_50 rfl ?_
    refine xw_bipush (48) dR_writeCorner_51 (by decide) ?_
    refine xw_iload_n dR_writeCorner_53 rfl ?_
    refine xw_bipush (10) dR_writeCorner_54 (by decide) ?_
    refine xw_idiv dR_writeCorner_56 (by decide) ?_
    refine xw_iadd dR_writeCorner_57 ?_
    obtain ⟨r422, er422, hF⟩ := xg_b hF
    refine xg_V0 (k1 := 0) (n1 := 0) (CB_add ha er422) rfl rfl rfl dR_writeCorner_58 (kR_63 _) ⟨Nat.le_of_ble_eq_true rfl, Nat.le_of_ble_eq_true rfl⟩ rfl rfl vB_o rfl (Nat.le_of_ble_eq_true rfl) (Nat.le_of_ble_eq_true rfl) (Nat.le_of_ble_eq_true rfl) (Nat.le_of_ble_eq_true rfl) (Nat.le_of_ble_eq_true rfl) ?_
    refine xw_drop (L' := [none, none, some (.ref a), some (.int ((sA_number l0) + 1))]) ⟨rfl, ⟨rfl, trivial⟩⟩ ?_
    exact CR_writeCorner_61 ha hF
set_option maxRecDepth 20000 in
theorem CR_writeCorner_13 {w : xw_G} {h : xw_H} {a : Nat} (ha : 1000 ≤ a)  {l0 : Int32} {l1 : Int32} {s : xBs} {out : xBs} {h0 : xw_H} (hF : FR_writeCorner_13  l0 l1 s = some out) : xw_X w (mR_writeCorner { frames := 1, cells := 0, slots := 0, locals := 21 }) (xw_R none (vB a out h)) h0 0 0 13 [some (.int l0), some (.int l1), some (.ref a), none] [] (vB a s h) := by
  unfold FR_writeCorner_13 at hF
  refine xw_aload_n dR_writeCorner_13 rfl ?_
  refine xw_bipush (65) dR_writeCorner_14 (by decide) ?_
  refine xw_iload_n dR_writeCorner_16 rfl ?_
  refine xg_S1 (k1 := 0) (n1 := 0) (cA_number w) rfl rfl rfl dR_writeCorner_17 (kR_56 _) ⟨Nat.le_of_ble_eq_true rfl, Nat.le_of_ble_eq_true rfl⟩ rfl rfl (Nat.le_of_ble_eq_true rfl) (Nat.le_of_ble_eq_true rfl) (Nat.le_of_ble_eq_true rfl) (Nat.le_of_ble_eq_true rfl) (Nat.le_of_ble_eq_true rfl) ?_
  refine xw_iadd dR_writeCorner_20 ?_
  obtain ⟨r418, er418, hF⟩ := xg_b hF
  refine xg_V0 (k1 := 0) (n1 := 0) (CB_add ha er418) rfl rfl rfl dR_writeCorner_21 (kR_63 _) ⟨Nat.le_of_ble_eq_true rfl, Nat.le_of_ble_eq_true rfl⟩ rfl rfl vB_o rfl (Nat.le_of_ble_eq_true rfl) (Nat.le_of_ble_eq_true rfl) (Nat.le_of_ble_eq_true rfl) (Nat.le_of_ble_eq_true rfl) (Nat.le_of_ble_eq_true rfl) ?_
  refine xw_iload_n dR_writeCorner_24 rfl ?_
  refine xg_S1 (k1 := 0) (n1 := 0) (cA_isFixed w) rfl rfl rfl dR_writeCorner_25 (kR_52 _) ⟨Nat.le_of_ble_eq_true rfl, Nat.le_of_ble_eq_true rfl⟩ rfl rfl (Nat.le_of_ble_eq_true rfl) (Nat.le_of_ble_eq_true rfl) (Nat.le_of_ble_eq_true rfl) (Nat.le_of_ble_eq_true rfl) (Nat.le_of_ble_eq_true rfl) ?_
  refine xw_if_eq 37 dR_writeCorner_28 (by decide) (fun c419 => ?_) (fun c419 => ?_)
  · replace hF := xg_t c419 hF
    refine xw_drop (L' := [some (.int l0), none, some (.ref a), none]) ⟨rfl, ⟨rfl, trivial⟩⟩ ?_
    exact CR_writeCorner_37 ha hF
  · replace hF := xg_f c419 hF
    refine xw_aload_n dR_writeCorner_31 rfl ?_
    refine xw_bipush (36) dR_writeCorner_32 (by decide) ?_
    obtain ⟨r423, er423, hF⟩ := xg_b hF
    refine xg_V0 (k1 := 0) (n1 := 0) (CB_add ha er423) rfl rfl rfl dR_writeCorner_34 (kR_63 _) ⟨Nat.le_of_ble_eq_true rfl, Nat.le_of_ble_eq_true rfl⟩ rfl rfl vB_o rfl (Nat.le_of_ble_eq_true rfl) (Nat.le_of_ble_eq_true rfl) (Nat.le_of_ble_eq_true rfl) (Nat.le_of_ble_eq_true rfl) (Nat.le_of_ble_eq_true rfl) ?_
    refine xw_drop (L' := [some (.int l0), none, some (.ref a), none]) ⟨rfl, ⟨rfl, trivial⟩⟩ ?_
    exact CR_writeCorner_37 ha hF
set_option maxRecDepth 20000 in
theorem CR_writeCorner {w : xw_G} {h : xw_H} {a : Nat} (ha : 1000 ≤ a)  {x0 : Int32} {x1 : Int32} {s : xBs} {out : xBs} (hF : FR_writeCorner  x0 x1 s = some out) : xw_C w (mR_writeCorner { frames := 1, cells := 0, slots := 0, locals := 21 }) (xw_R none (vB a out h)) [.int x0, .int x1, .ref a] (vB a s h) := by
  unfold FR_writeCorner at hF
  refine xw_enter rfl (show plainName "FormulaShaper$Reference" = true by decide +kernel) (Nat.le_of_ble_eq_true rfl) ?_
  refine xw_iload_n dR_writeCorner_0 rfl ?_
  refine xg_S1 (k1 := 0) (n1 := 0) (cA_isFixed w) rfl rfl rfl dR_writeCorner_1 (kR_52 _) ⟨Nat.le_of_ble_eq_true rfl, Nat.le_of_ble_eq_true rfl⟩ rfl rfl (Nat.le_of_ble_eq_true rfl) (Nat.le_of_ble_eq_true rfl) (Nat.le_of_ble_eq_true rfl) (Nat.le_of_ble_eq_true rfl) (Nat.le_of_ble_eq_true rfl) ?_
  refine xw_if_eq 13 dR_writeCorner_4 (by decide) (fun c417 => ?_) (fun c417 => ?_)
  · replace hF := xg_t c417 hF
    exact CR_writeCorner_13 ha hF
  · replace hF := xg_f c417 hF
    refine xw_aload_n dR_writeCorner_7 rfl ?_
    refine xw_bipush (36) dR_writeCorner_8 (by decide) ?_
    obtain ⟨r424, er424, hF⟩ := xg_b hF
    refine xg_V0 (k1 := 0) (n1 := 0) (CB_add ha er424) rfl rfl rfl dR_writeCorner_10 (kR_63 _) ⟨Nat.le_of_ble_eq_true rfl, Nat.le_of_ble_eq_true rfl⟩ rfl rfl vB_o rfl (Nat.le_of_ble_eq_true rfl) (Nat.le_of_ble_eq_true rfl) (Nat.le_of_ble_eq_true rfl) (Nat.le_of_ble_eq_true rfl) (Nat.le_of_ble_eq_true rfl) ?_
    exact CR_writeCorner_13 ha hF
/-- FormulaShaper$Reference.write -/
def FR_write  (x0 : Int64) (s : xBs) : Option xBs := (FR_writeCorner (sA_first (sR_rows x0)) (sA_first (sR_columns x0)) s).bind fun r425 => if (sR_isPair x0) = 0 then (some r425) else ((FB_add 58 r425).bind fun r427 => (FR_writeCorner (sA_last (sR_rows x0)) (sA_last (sR_columns x0)) r427).bind fun r428 => some r428)
set_option maxRecDepth 20000 in
theorem CR_write {w : xw_G} {h : xw_H} {a : Nat} (ha : 1000 ≤ a)  {x0 : Int64} {s : xBs} {out : xBs} (hF : FR_write  x0 s = some out) : xw_C w (mR_write { frames := 2, cells := 0, slots := 0, locals := 44 }) (xw_R none (vB a out h)) [.long x0, .ref a] (vB a s h) := by
  unfold FR_write at hF
  refine xw_enter rfl (show plainName "FormulaShaper$Reference" = true by decide +kernel) (Nat.le_of_ble_eq_true rfl) ?_
  refine xw_lload_n dR_write_0 rfl ?_
  refine xg_S1 (k1 := 0) (n1 := 0) (cR_rows w) rfl rfl rfl dR_write_1 (kR_14 _) ⟨Nat.le_of_ble_eq_true rfl, Nat.le_of_ble_eq_true rfl⟩ rfl rfl (Nat.le_of_ble_eq_true rfl) (Nat.le_of_ble_eq_true rfl) (Nat.le_of_ble_eq_true rfl) (Nat.le_of_ble_eq_true rfl) (Nat.le_of_ble_eq_true rfl) ?_
  refine xw_istore_n dR_write_4 (Nat.le_of_ble_eq_true rfl) ?_
  refine xw_Ln (L' := [some (.long x0), none, some (.ref a), some (.int (sR_rows x0)), none]) rfl ?_
  refine xw_lload_n dR_write_5 rfl ?_
  refine xg_S1 (k1 := 0) (n1 := 0) (cR_columns w) rfl rfl rfl dR_write_6 (kR_24 _) ⟨Nat.le_of_ble_eq_true rfl, Nat.le_of_ble_eq_true rfl⟩ rfl rfl (Nat.le_of_ble_eq_true rfl) (Nat.le_of_ble_eq_true rfl) (Nat.le_of_ble_eq_true rfl) (Nat.le_of_ble_eq_true rfl) (Nat.le_of_ble_eq_true rfl) ?_
  refine xw_istore dR_write_9 (Nat.le_of_ble_eq_true rfl) ?_
  refine xw_Ln (L' := [some (.long x0), none, some (.ref a), some (.int (sR_rows x0)), some (.int (sR_columns x0))]) rfl ?_
  refine xw_iload_n dR_write_11 rfl ?_
  refine xg_S1 (k1 := 0) (n1 := 0) (cA_first w) rfl rfl rfl dR_write_12 (kR_42 _) ⟨Nat.le_of_ble_eq_true rfl, Nat.le_of_ble_eq_true rfl⟩ rfl rfl (Nat.le_of_ble_eq_true rfl) (Nat.le_of_ble_eq_true rfl) (Nat.le_of_ble_eq_true rfl) (Nat.le_of_ble_eq_true rfl) (Nat.le_of_ble_eq_true rfl) ?_
  refine xw_iload dR_write_15 rfl ?_
  refine xg_S1 (k1 := 0) (n1 := 0) (cA_first w) rfl rfl rfl dR_write_17 (kR_42 _) ⟨Nat.le_of_ble_eq_true rfl, Nat.le_of_ble_eq_true rfl⟩ rfl rfl (Nat.le_of_ble_eq_true rfl) (Nat.le_of_ble_eq_true rfl) (Nat.le_of_ble_eq_true rfl) (Nat.le_of_ble_eq_true rfl) (Nat.le_of_ble_eq_true rfl) ?_
  refine xw_aload_n dR_write_20 rfl ?_
  obtain ⟨r425, er425, hF⟩ := xg_b hF
  refine xg_S0 (k1 := 0) (n1 := 0) (CR_writeCorner ha er425) rfl rfl rfl dR_write_21 (kR_59 _) ⟨Nat.le_of_ble_eq_true rfl, Nat.le_of_ble_eq_true rfl⟩ rfl rfl (Nat.le_of_ble_eq_true rfl) (Nat.le_of_ble_eq_true rfl) (Nat.le_of_ble_eq_true rfl) (Nat.le_of_ble_eq_true rfl) (Nat.le_of_ble_eq_true rfl) ?_
  refine xw_lload_n dR_write_24 rfl ?_
  refine xg_S1 (k1 := 0) (n1 := 0) (cR_isPair w) rfl rfl rfl dR_write_25 (kR_34 _) ⟨Nat.le_of_ble_eq_true rfl, Nat.le_of_ble_eq_true rfl⟩ rfl rfl (Nat.le_of_ble_eq_true rfl) (Nat.le_of_ble_eq_true rfl) (Nat.le_of_ble_eq_true rfl) (Nat.le_of_ble_eq_true rfl) (Nat.le_of_ble_eq_true rfl) ?_
  refine xw_if_eq 50 dR_write_28 (by decide) (fun c426 => ?_) (fun c426 => ?_)
  · replace hF := xg_t c426 hF
    obtain rfl := Option.some.inj hF
    exact xw_return dR_write_50 rfl (Nat.le_of_ble_eq_true rfl) (Nat.le_of_ble_eq_true rfl) ⟨rfl, rfl⟩
  · replace hF := xg_f c426 hF
    refine xw_aload_n dR_write_31 rfl ?_
    refine xw_bipush (58) dR_write_32 (by decide) ?_
    obtain ⟨r427, er427, hF⟩ := xg_b hF
    refine xg_V0 (k1 := 0) (n1 := 0) (CB_add ha er427) rfl rfl rfl dR_write_34 (kR_63 _) ⟨Nat.le_of_ble_eq_true rfl, Nat.le_of_ble_eq_true rfl⟩ rfl rfl vB_o rfl (Nat.le_of_ble_eq_true rfl) (Nat.le_of_ble_eq_true rfl) (Nat.le_of_ble_eq_true rfl) (Nat.le_of_ble_eq_true rfl) (Nat.le_of_ble_eq_true rfl) ?_
    refine xw_iload_n dR_write_37 rfl ?_
    refine xg_S1 (k1 := 0) (n1 := 0) (cA_last w) rfl rfl rfl dR_write_38 (kR_49 _) ⟨Nat.le_of_ble_eq_true rfl, Nat.le_of_ble_eq_true rfl⟩ rfl rfl (Nat.le_of_ble_eq_true rfl) (Nat.le_of_ble_eq_true rfl) (Nat.le_of_ble_eq_true rfl) (Nat.le_of_ble_eq_true rfl) (Nat.le_of_ble_eq_true rfl) ?_
    refine xw_iload dR_write_41 rfl ?_
    refine xg_S1 (k1 := 0) (n1 := 0) (cA_last w) rfl rfl rfl dR_write_43 (kR_49 _) ⟨Nat.le_of_ble_eq_true rfl, Nat.le_of_ble_eq_true rfl⟩ rfl rfl (Nat.le_of_ble_eq_true rfl) (Nat.le_of_ble_eq_true rfl) (Nat.le_of_ble_eq_true rfl) (Nat.le_of_ble_eq_true rfl) (Nat.le_of_ble_eq_true rfl) ?_
    refine xw_aload_n dR_write_46 rfl ?_
    obtain ⟨r428, er428, hF⟩ := xg_b hF
    refine xg_S0 (k1 := 0) (n1 := 0) (CR_writeCorner ha er428) rfl rfl rfl dR_write_47 (kR_59 _) ⟨Nat.le_of_ble_eq_true rfl, Nat.le_of_ble_eq_true rfl⟩ rfl rfl (Nat.le_of_ble_eq_true rfl) (Nat.le_of_ble_eq_true rfl) (Nat.le_of_ble_eq_true rfl) (Nat.le_of_ble_eq_true rfl) (Nat.le_of_ble_eq_true rfl) ?_
    obtain rfl := Option.some.inj hF
    exact xw_return dR_write_50 rfl (Nat.le_of_ble_eq_true rfl) (Nat.le_of_ble_eq_true rfl) ⟨rfl, rfl⟩
def FF_writeTo_2 (fo : xFs) : Nat → Int32 → xBs → Option xBs
  | 0, _, _ => none
  | fu + 1, l2, s => if fo.2.1 ≤ l2 then (some s) else (if 0 ≤ l2 ∧ l2 < nI 1000 then (if (sR_isOne (fo.1 (l2).toNatClampNeg)) = 0 then (if 0 ≤ l2 ∧ l2 < nI 1000 then ((FB_add (Int64.toInt32 (fo.1 (l2).toNatClampNeg)) s).bind fun r433 => FF_writeTo_2 fo fu (l2 + 1) r433) else none) else (if 0 ≤ l2 ∧ l2 < nI 1000 then ((FR_write (fo.1 (l2).toNatClampNeg) s).bind fun r435 => FF_writeTo_2 fo fu (l2 + 1) r435) else none)) else none)
/-- FormulaShaper$Formula.writeTo -/
def FF_writeTo (fo : xFs)  (s : xBs) : Option xBs := FF_writeTo_2 fo xFuel 0 s
set_option maxRecDepth 20000 in
theorem CF_writeTo_2 {w : xw_G} {h : xw_H}  {fo : xFs} : ∀ (fu : Nat) {l2 : Int32} {s : xBs} {out : xBs} {h0 : xw_H}, FF_writeTo_2 fo fu l2 s = some out → xw_X w (mF_writeTo { frames := 3, cells := 0, slots := 0, locals := 68 }) (xw_R none (vW fo out h)) h0 0 0 2 [some (.ref 1008), some (.ref 1003), some (.int l2)] [] (vW fo s h) := by
  intro fu
  induction fu with
  | zero =>
    intro l2 s out h0 hF
    rw [FF_writeTo_2] at hF
    cases hF
  | succ fu ih =>
    intro l2 s out h0 hF
    rw [FF_writeTo_2] at hF
    refine xw_iload_n dF_writeTo_2 rfl ?_
    refine xw_aload_n dF_writeTo_3 rfl ?_
    refine xw_get dF_writeTo_4 fF_15 rfl rfl ?_
    refine xw_icmp_ge 52 dF_writeTo_7 (by decide) (fun c429 => ?_) (fun c429 => ?_)
    · replace hF := xg_t c429 hF
      obtain rfl := Option.some.inj hF
      exact xw_return dF_writeTo_52 rfl (Nat.le_of_ble_eq_true rfl) (Nat.le_of_ble_eq_true rfl) ⟨rfl, rfl⟩
    · replace hF := xg_f c429 hF
      refine xw_aload_n dF_writeTo_10 rfl ?_
      refine xw_get dF_writeTo_11 fF_9 rfl rfl ?_
      refine xw_iload_n dF_writeTo_14 rfl ?_
      obtain ⟨g430, hF⟩ := xg_g hF
      refine xg_laload g430 dF_writeTo_15 rfl (by decide) ?_
      refine xg_S1 (k1 := 0) (n1 := 0) (cR_isOne w) rfl rfl rfl dF_writeTo_16 (kF_34 _) ⟨Nat.le_of_ble_eq_true rfl, Nat.le_of_ble_eq_true rfl⟩ rfl rfl (Nat.le_of_ble_eq_true rfl) (Nat.le_of_ble_eq_true rfl) (Nat.le_of_ble_eq_true rfl) (Nat.le_of_ble_eq_true rfl) (Nat.le_of_ble_eq_true rfl) ?_
      refine xw_if_eq 35 dF_writeTo_19 (by decide) (fun c431 => ?_) (fun c431 => ?_)
      · replace hF := xg_t c431 hF
        refine xw_aload_n dF_writeTo_35 rfl ?_
        refine xw_aload_n dF_writeTo_36 rfl ?_
        refine xw_get dF_writeTo_37 fF_9 rfl rfl ?_
        refine xw_iload_n dF_writeTo_40 rfl ?_
        obtain ⟨g432, hF⟩ := xg_g hF
        refine xg_laload g432 dF_writeTo_41 rfl (by decide) ?_
        refine xw_l2i dF_writeTo_42 ?_
        obtain ⟨r433, er433, hF⟩ := xg_b hF
        refine xg_V0 (k1 := 0) (n1 := 0) (CB_add (a := 1003) (by decide) er433) (vW_B (fo := fo) (r := s) (h := h)) (vW_B (fo := fo) (r := r433) (h := h)).symm rfl dF_writeTo_43 (kF_75 _) ⟨Nat.le_of_ble_eq_true rfl, Nat.le_of_ble_eq_true rfl⟩ rfl rfl rfl rfl (Nat.le_of_ble_eq_true rfl) (Nat.le_of_ble_eq_true rfl) (Nat.le_of_ble_eq_true rfl) (Nat.le_of_ble_eq_true rfl) (Nat.le_of_ble_eq_true rfl) ?_
        refine xw_iinc ((l2 + 1)) dF_writeTo_46 rfl rfl (Nat.le_of_ble_eq_true rfl) ?_
        refine xw_Ln (L' := [some (.ref 1008), some (.ref 1003), some (.int (l2 + 1))]) rfl ?_
        refine xw_goto 2 dF_writeTo_49 (by decide) ?_
        exact ih hF
      · replace hF := xg_f c431 hF
        refine xw_aload_n dF_writeTo_22 rfl ?_
        refine xw_get dF_writeTo_23 fF_9 rfl rfl ?_
        refine xw_iload_n dF_writeTo_26 rfl ?_
        obtain ⟨g434, hF⟩ := xg_g hF
        refine xg_laload g434 dF_writeTo_27 rfl (by decide) ?_
        refine xw_aload_n dF_writeTo_28 rfl ?_
        obtain ⟨r435, er435, hF⟩ := xg_b hF
        refine xg_S0 (k1 := 0) (n1 := 0) (CR_write (a := 1003) (by decide) er435) (vW_B (fo := fo) (r := s) (h := h)) (vW_B (fo := fo) (r := r435) (h := h)).symm rfl dF_writeTo_29 (kF_71 _) ⟨Nat.le_of_ble_eq_true rfl, Nat.le_of_ble_eq_true rfl⟩ rfl rfl (Nat.le_of_ble_eq_true rfl) (Nat.le_of_ble_eq_true rfl) (Nat.le_of_ble_eq_true rfl) (Nat.le_of_ble_eq_true rfl) (Nat.le_of_ble_eq_true rfl) ?_
        refine xw_goto 46 dF_writeTo_32 (by decide) ?_
        refine xw_iinc ((l2 + 1)) dF_writeTo_46 rfl rfl (Nat.le_of_ble_eq_true rfl) ?_
        refine xw_Ln (L' := [some (.ref 1008), some (.ref 1003), some (.int (l2 + 1))]) rfl ?_
        refine xw_goto 2 dF_writeTo_49 (by decide) ?_
        exact ih hF
set_option maxRecDepth 20000 in
theorem CF_writeTo {w : xw_G} {h : xw_H}  {fo : xFs}  {s : xBs} {out : xBs} (hF : FF_writeTo fo  s = some out) : xw_C w (mF_writeTo { frames := 3, cells := 0, slots := 0, locals := 68 }) (xw_R none (vW fo out h)) [.ref 1008, .ref 1003] (vW fo s h) := by
  unfold FF_writeTo at hF
  refine xw_enter rfl (show plainName "FormulaShaper$Formula" = true by decide +kernel) (Nat.le_of_ble_eq_true rfl) ?_
  refine xw_iconst (0) dF_writeTo_0 (by decide) ?_
  refine xw_istore_n dF_writeTo_1 (Nat.le_of_ble_eq_true rfl) ?_
  refine xw_Ln (L' := [some (.ref 1008), some (.ref 1003), some (.int 0)]) rfl ?_
  exact CF_writeTo_2 xFuel hF
/-- FormulaShaper$Copying.ofRows -/
def FC_ofRows (q : Int32 × Int32) (x0 : Int32) : Option Int32 := some (sA_copied x0 q.1 80)
set_option maxRecDepth 20000 in
theorem CC_ofRows {w : xw_G} {h : xw_H}  {q : Int32 × Int32} {x0 : Int32} {out : Int32} (hF : FC_ofRows q x0 = some out) : xw_C w (mC_ofRows { frames := 3, cells := 0, slots := 0, locals := 68 }) (xw_R (some (.int out)) (vV (.inl q) h)) [.ref 1014, .int x0] (vV (.inl q) h) := by
  unfold FC_ofRows at hF
  refine xw_enter rfl (show plainName "FormulaShaper$Copying" = true by decide +kernel) (Nat.le_of_ble_eq_true rfl) ?_
  refine xw_iload_n dC_ofRows_0 rfl ?_
  refine xw_aload_n dC_ofRows_1 rfl ?_
  refine xw_get dC_ofRows_2 fC_9 rfl rfl ?_
  refine xw_bipush (80) dC_ofRows_5 (by decide) ?_
  refine xg_S1 (k1 := 0) (n1 := 0) (cA_copied w) rfl rfl rfl dC_ofRows_7 (kC_18 _) ⟨Nat.le_of_ble_eq_true rfl, Nat.le_of_ble_eq_true rfl⟩ rfl rfl (Nat.le_of_ble_eq_true rfl) (Nat.le_of_ble_eq_true rfl) (Nat.le_of_ble_eq_true rfl) (Nat.le_of_ble_eq_true rfl) (Nat.le_of_ble_eq_true rfl) ?_
  obtain rfl := Option.some.inj hF
  exact xw_ireturn dC_ofRows_10 rfl rfl (Nat.le_of_ble_eq_true rfl) (Nat.le_of_ble_eq_true rfl) ⟨rfl, rfl⟩
/-- FormulaShaper$Shifting.ofRows -/
def FH_ofRows (q : Bool × Int32 × Int32) (x0 : Int32) : Option Int32 := if q.1 = true then (some x0) else ((FA_shifted x0 q.2.1 q.2.2 80).bind fun r437 => some r437)
set_option maxRecDepth 20000 in
theorem CH_ofRows {w : xw_G} {h : xw_H}  {q : Bool × Int32 × Int32} {x0 : Int32} {out : Int32} (hF : FH_ofRows q x0 = some out) : xw_C w (mH_ofRows { frames := 3, cells := 0, slots := 0, locals := 67 }) (xw_R (some (.int out)) (vV (.inr q) h)) [.ref 1014, .int x0] (vV (.inr q) h) := by
  unfold FH_ofRows at hF
  refine xw_enter rfl (show plainName "FormulaShaper$Shifting" = true by decide +kernel) (Nat.le_of_ble_eq_true rfl) ?_
  refine xw_aload_n dH_ofRows_0 rfl ?_
  refine xw_get dH_ofRows_1 fH_9 rfl rfl ?_
  refine xw_if_eqB 11 dH_ofRows_4 (by decide) (fun c436 => ?_) (fun c436 => ?_)
  · replace hF := xg_f c436 hF
    refine xw_iload_n dH_ofRows_11 rfl ?_
    refine xw_aload_n dH_ofRows_12 rfl ?_
    refine xw_get dH_ofRows_13 fH_15 rfl rfl ?_
    refine xw_aload_n dH_ofRows_16 rfl ?_
    refine xw_get dH_ofRows_17 fH_19 rfl rfl ?_
    refine xw_bipush (80) dH_ofRows_20 (by decide) ?_
    obtain ⟨r437, er437, hF⟩ := xg_b hF
    refine xg_S1 (k1 := 0) (n1 := 0) (CA_shifted er437) rfl rfl rfl dH_ofRows_22 (kH_22 _) ⟨Nat.le_of_ble_eq_true rfl, Nat.le_of_ble_eq_true rfl⟩ rfl rfl (Nat.le_of_ble_eq_true rfl) (Nat.le_of_ble_eq_true rfl) (Nat.le_of_ble_eq_true rfl) (Nat.le_of_ble_eq_true rfl) (Nat.le_of_ble_eq_true rfl) ?_
    obtain rfl := Option.some.inj hF
    exact xw_ireturn dH_ofRows_25 rfl rfl (Nat.le_of_ble_eq_true rfl) (Nat.le_of_ble_eq_true rfl) ⟨rfl, rfl⟩
  · replace hF := xg_t c436 hF
    refine xw_iload_n dH_ofRows_7 rfl ?_
    refine xw_goto 25 dH_ofRows_8 (by decide) ?_
    obtain rfl := Option.some.inj hF
    exact xw_ireturn dH_ofRows_25 rfl rfl (Nat.le_of_ble_eq_true rfl) (Nat.le_of_ble_eq_true rfl) ⟨rfl, rfl⟩
/-- FormulaShaper$Copying.ofColumns -/
def FC_ofColumns (q : Int32 × Int32) (x0 : Int32) : Option Int32 := some (sA_copied x0 q.2 26)
set_option maxRecDepth 20000 in
theorem CC_ofColumns {w : xw_G} {h : xw_H}  {q : Int32 × Int32} {x0 : Int32} {out : Int32} (hF : FC_ofColumns q x0 = some out) : xw_C w (mC_ofColumns { frames := 3, cells := 0, slots := 0, locals := 68 }) (xw_R (some (.int out)) (vV (.inl q) h)) [.ref 1014, .int x0] (vV (.inl q) h) := by
  unfold FC_ofColumns at hF
  refine xw_enter rfl (show plainName "FormulaShaper$Copying" = true by decide +kernel) (Nat.le_of_ble_eq_true rfl) ?_
  refine xw_iload_n dC_ofColumns_0 rfl ?_
  refine xw_aload_n dC_ofColumns_1 rfl ?_
  refine xw_get dC_ofColumns_2 fC_15 rfl rfl ?_
  refine xw_bipush (26) dC_ofColumns_5 (by decide) ?_
  refine xg_S1 (k1 := 0) (n1 := 0) (cA_copied w) rfl rfl rfl dC_ofColumns_7 (kC_18 _) ⟨Nat.le_of_ble_eq_true rfl, Nat.le_of_ble_eq_true rfl⟩ rfl rfl (Nat.le_of_ble_eq_true rfl) (Nat.le_of_ble_eq_true rfl) (Nat.le_of_ble_eq_true rfl) (Nat.le_of_ble_eq_true rfl) (Nat.le_of_ble_eq_true rfl) ?_
  obtain rfl := Option.some.inj hF
  exact xw_ireturn dC_ofColumns_10 rfl rfl (Nat.le_of_ble_eq_true rfl) (Nat.le_of_ble_eq_true rfl) ⟨rfl, rfl⟩
/-- FormulaShaper$Shifting.ofColumns -/
def FH_ofColumns (q : Bool × Int32 × Int32) (x0 : Int32) : Option Int32 := if q.1 = true then ((FA_shifted x0 q.2.1 q.2.2 26).bind fun r439 => some r439) else (some x0)
set_option maxRecDepth 20000 in
theorem CH_ofColumns {w : xw_G} {h : xw_H}  {q : Bool × Int32 × Int32} {x0 : Int32} {out : Int32} (hF : FH_ofColumns q x0 = some out) : xw_C w (mH_ofColumns { frames := 3, cells := 0, slots := 0, locals := 67 }) (xw_R (some (.int out)) (vV (.inr q) h)) [.ref 1014, .int x0] (vV (.inr q) h) := by
  unfold FH_ofColumns at hF
  refine xw_enter rfl (show plainName "FormulaShaper$Shifting" = true by decide +kernel) (Nat.le_of_ble_eq_true rfl) ?_
  refine xw_aload_n dH_ofColumns_0 rfl ?_
  refine xw_get dH_ofColumns_1 fH_9 rfl rfl ?_
  refine xw_if_eqB 24 dH_ofColumns_4 (by decide) (fun c438 => ?_) (fun c438 => ?_)
  · replace hF := xg_f c438 hF
    refine xw_iload_n dH_ofColumns_24 rfl ?_
    obtain rfl := Option.some.inj hF
    exact xw_ireturn dH_ofColumns_25 rfl rfl (Nat.le_of_ble_eq_true rfl) (Nat.le_of_ble_eq_true rfl) ⟨rfl, rfl⟩
  · replace hF := xg_t c438 hF
    refine xw_iload_n dH_ofColumns_7 rfl ?_
    refine xw_aload_n dH_ofColumns_8 rfl ?_
    refine xw_get dH_ofColumns_9 fH_15 rfl rfl ?_
    refine xw_aload_n dH_ofColumns_12 rfl ?_
    refine xw_get dH_ofColumns_13 fH_19 rfl rfl ?_
    refine xw_bipush (26) dH_ofColumns_16 (by decide) ?_
    obtain ⟨r439, er439, hF⟩ := xg_b hF
    refine xg_S1 (k1 := 0) (n1 := 0) (CA_shifted er439) rfl rfl rfl dH_ofColumns_18 (kH_22 _) ⟨Nat.le_of_ble_eq_true rfl, Nat.le_of_ble_eq_true rfl⟩ rfl rfl (Nat.le_of_ble_eq_true rfl) (Nat.le_of_ble_eq_true rfl) (Nat.le_of_ble_eq_true rfl) (Nat.le_of_ble_eq_true rfl) (Nat.le_of_ble_eq_true rfl) ?_
    refine xw_goto 25 dH_ofColumns_21 (by decide) ?_
    obtain rfl := Option.some.inj hF
    exact xw_ireturn dH_ofColumns_25 rfl rfl (Nat.le_of_ble_eq_true rfl) (Nat.le_of_ble_eq_true rfl) ⟨rfl, rfl⟩
def FV_ofRows (m : xMv) (x : Int32) : Option Int32 := match m with
  | .inl q => FC_ofRows q x
  | .inr q => FH_ofRows q x
def FV_ofColumns (m : xMv) (x : Int32) : Option Int32 := match m with
  | .inl q => FC_ofColumns q x
  | .inr q => FH_ofColumns q x
theorem kC_ofRows (R : Room) : xw_KA "FormulaShaper$Reference" 18 ⟨"FormulaShaper$Move", "ofRows", "(I)I"⟩ (mC_ofRows R) 1 := ⟨tw_741, tw_26, tw_746, by decide, (show (parseMethodDescriptor "(I)I").map (fun d => d.parameters.length) = some 1 by decide +kernel), tw_745, tw_743, tw_744, tw_742, rfl⟩
theorem kH_ofRows (R : Room) : xw_KA "FormulaShaper$Reference" 18 ⟨"FormulaShaper$Move", "ofRows", "(I)I"⟩ (mH_ofRows R) 1 := ⟨tw_741, tw_28, tw_760, by decide, (show (parseMethodDescriptor "(I)I").map (fun d => d.parameters.length) = some 1 by decide +kernel), tw_759, tw_743, tw_758, tw_742, rfl⟩
theorem XV_ofRows {w : xw_G} {P : xw_P} {h0 h : xw_H} {L : List (Option Value)} {m : xMv} {x r : Int32} (hF : FV_ofRows m x = some r) (kk : xw_X w (mR_moved { frames := 8, cells := 0, slots := 0, locals := 300 }) P h0 0 0 8 L [.int r] (vV m h)) : xw_X w (mR_moved { frames := 8, cells := 0, slots := 0, locals := 300 }) P h0 0 0 5 L [.int x, .ref 1014] (vV m h) := by
  match m, hF with
  | .inl q, hF => exact xg_A1 (k1 := 0) (n1 := 0) (CC_ofRows hF) rfl rfl rfl dR_moved_5 (kC_ofRows _) ⟨Nat.le_of_ble_eq_true rfl, Nat.le_of_ble_eq_true rfl⟩ rfl rfl rfl rfl (Nat.le_of_ble_eq_true rfl) (Nat.le_of_ble_eq_true rfl) (Nat.le_of_ble_eq_true rfl) (Nat.le_of_ble_eq_true rfl) (Nat.le_of_ble_eq_true rfl) kk
  | .inr q, hF => exact xg_A1 (k1 := 0) (n1 := 0) (CH_ofRows hF) rfl rfl rfl dR_moved_5 (kH_ofRows _) ⟨Nat.le_of_ble_eq_true rfl, Nat.le_of_ble_eq_true rfl⟩ rfl rfl rfl rfl (Nat.le_of_ble_eq_true rfl) (Nat.le_of_ble_eq_true rfl) (Nat.le_of_ble_eq_true rfl) (Nat.le_of_ble_eq_true rfl) (Nat.le_of_ble_eq_true rfl) kk
theorem kC_ofColumns (R : Room) : xw_KA "FormulaShaper$Reference" 27 ⟨"FormulaShaper$Move", "ofColumns", "(I)I"⟩ (mC_ofColumns R) 1 := ⟨tw_767, tw_26, tw_772, by decide, (show (parseMethodDescriptor "(I)I").map (fun d => d.parameters.length) = some 1 by decide +kernel), tw_771, tw_769, tw_770, tw_768, rfl⟩
theorem kH_ofColumns (R : Room) : xw_KA "FormulaShaper$Reference" 27 ⟨"FormulaShaper$Move", "ofColumns", "(I)I"⟩ (mH_ofColumns R) 1 := ⟨tw_767, tw_28, tw_775, by decide, (show (parseMethodDescriptor "(I)I").map (fun d => d.parameters.length) = some 1 by decide +kernel), tw_774, tw_769, tw_773, tw_768, rfl⟩
theorem XV_ofColumns {w : xw_G} {P : xw_P} {h0 h : xw_H} {L : List (Option Value)} {m : xMv} {x r : Int32} (hF : FV_ofColumns m x = some r) (kk : xw_X w (mR_moved { frames := 8, cells := 0, slots := 0, locals := 300 }) P h0 0 0 17 L [.int r] (vV m h)) : xw_X w (mR_moved { frames := 8, cells := 0, slots := 0, locals := 300 }) P h0 0 0 14 L [.int x, .ref 1014] (vV m h) := by
  match m, hF with
  | .inl q, hF => exact xg_A1 (k1 := 0) (n1 := 0) (CC_ofColumns hF) rfl rfl rfl dR_moved_14 (kC_ofColumns _) ⟨Nat.le_of_ble_eq_true rfl, Nat.le_of_ble_eq_true rfl⟩ rfl rfl rfl rfl (Nat.le_of_ble_eq_true rfl) (Nat.le_of_ble_eq_true rfl) (Nat.le_of_ble_eq_true rfl) (Nat.le_of_ble_eq_true rfl) (Nat.le_of_ble_eq_true rfl) kk
  | .inr q, hF => exact xg_A1 (k1 := 0) (n1 := 0) (CH_ofColumns hF) rfl rfl rfl dR_moved_14 (kH_ofColumns _) ⟨Nat.le_of_ble_eq_true rfl, Nat.le_of_ble_eq_true rfl⟩ rfl rfl rfl rfl (Nat.le_of_ble_eq_true rfl) (Nat.le_of_ble_eq_true rfl) (Nat.le_of_ble_eq_true rfl) (Nat.le_of_ble_eq_true rfl) (Nat.le_of_ble_eq_true rfl) kk
/-- FormulaShaper$Reference.moved -/
def FR_moved (m : xMv) (x0 : Int64) : Option Int64 := (FV_ofRows m (sR_rows x0)).bind fun r440 => (FV_ofColumns m (sR_columns x0)).bind fun r441 => if r440 = (-1) then (some (-1)) else (if r441 = (-1) then (some (-1)) else (some (sR_of r440 r441 (sR_isPair x0))))
set_option maxRecDepth 20000 in
theorem CR_moved {w : xw_G} {h : xw_H}  {m : xMv} {x0 : Int64} {out : Int64} (hF : FR_moved m x0 = some out) : xw_C w (mR_moved { frames := 8, cells := 0, slots := 0, locals := 300 }) (xw_R (some (.long out)) (vV m h)) [.long x0, .ref 1014] (vV m h) := by
  unfold FR_moved at hF
  refine xw_enter rfl (show plainName "FormulaShaper$Reference" = true by decide +kernel) (Nat.le_of_ble_eq_true rfl) ?_
  refine xw_aload_n dR_moved_0 rfl ?_
  refine xw_lload_n dR_moved_1 rfl ?_
  refine xg_S1 (k1 := 0) (n1 := 0) (cR_rows w) rfl rfl rfl dR_moved_2 (kR_14 _) ⟨Nat.le_of_ble_eq_true rfl, Nat.le_of_ble_eq_true rfl⟩ rfl rfl (Nat.le_of_ble_eq_true rfl) (Nat.le_of_ble_eq_true rfl) (Nat.le_of_ble_eq_true rfl) (Nat.le_of_ble_eq_true rfl) (Nat.le_of_ble_eq_true rfl) ?_
  obtain ⟨r440, er440, hF⟩ := xg_b hF
  refine XV_ofRows er440 ?_
  refine xw_istore_n dR_moved_8 (Nat.le_of_ble_eq_true rfl) ?_
  refine xw_Ln (L' := [some (.long x0), none, some (.ref 1014), some (.int r440), none]) rfl ?_
  refine xw_aload_n dR_moved_9 rfl ?_
  refine xw_lload_n dR_moved_10 rfl ?_
  refine xg_S1 (k1 := 0) (n1 := 0) (cR_columns w) rfl rfl rfl dR_moved_11 (kR_24 _) ⟨Nat.le_of_ble_eq_true rfl, Nat.le_of_ble_eq_true rfl⟩ rfl rfl (Nat.le_of_ble_eq_true rfl) (Nat.le_of_ble_eq_true rfl) (Nat.le_of_ble_eq_true rfl) (Nat.le_of_ble_eq_true rfl) (Nat.le_of_ble_eq_true rfl) ?_
  obtain ⟨r441, er441, hF⟩ := xg_b hF
  refine XV_ofColumns er441 ?_
  refine xw_istore dR_moved_17 (Nat.le_of_ble_eq_true rfl) ?_
  refine xw_Ln (L' := [some (.long x0), none, some (.ref 1014), some (.int r440), some (.int r441)]) rfl ?_
  refine xw_iload_n dR_moved_19 rfl ?_
  refine xw_iconst (-1) dR_moved_20 (by decide) ?_
  refine xw_icmp_eq 30 dR_moved_21 (by decide) (fun c442 => ?_) (fun c442 => ?_)
  · replace hF := xg_t c442 hF
    refine xw_ldc2 dR_moved_30 tw_776 ?_
    refine xw_goto 46 dR_moved_33 (by decide) ?_
    obtain rfl := Option.some.inj hF
    exact xw_lreturn dR_moved_46 rfl (Nat.le_of_ble_eq_true rfl) (Nat.le_of_ble_eq_true rfl) ⟨rfl, rfl⟩
  · replace hF := xg_f c442 hF
    refine xw_iload dR_moved_24 rfl ?_
    refine xw_iconst (-1) dR_moved_26 (by decide) ?_
    refine xw_icmp_ne 36 dR_moved_27 (by decide) (fun c443 => ?_) (fun c443 => ?_)
    · replace hF := xg_f c443 hF
      refine xw_iload_n dR_moved_36 rfl ?_
      refine xw_iload dR_moved_37 rfl ?_
      refine xw_lload_n dR_moved_39 rfl ?_
      refine xg_S1 (k1 := 0) (n1 := 0) (cR_isPair w) rfl rfl rfl dR_moved_40 (kR_34 _) ⟨Nat.le_of_ble_eq_true rfl, Nat.le_of_ble_eq_true rfl⟩ rfl rfl (Nat.le_of_ble_eq_true rfl) (Nat.le_of_ble_eq_true rfl) (Nat.le_of_ble_eq_true rfl) (Nat.le_of_ble_eq_true rfl) (Nat.le_of_ble_eq_true rfl) ?_
      refine xg_S1 (k1 := 0) (n1 := 0) (cR_of w) rfl rfl rfl dR_moved_43 (kR_38 _) ⟨Nat.le_of_ble_eq_true rfl, Nat.le_of_ble_eq_true rfl⟩ rfl rfl (Nat.le_of_ble_eq_true rfl) (Nat.le_of_ble_eq_true rfl) (Nat.le_of_ble_eq_true rfl) (Nat.le_of_ble_eq_true rfl) (Nat.le_of_ble_eq_true rfl) ?_
      obtain rfl := Option.some.inj hF
      exact xw_lreturn dR_moved_46 rfl (Nat.le_of_ble_eq_true rfl) (Nat.le_of_ble_eq_true rfl) ⟨rfl, rfl⟩
    · replace hF := xg_t c443 hF
      refine xw_ldc2 dR_moved_30 tw_776 ?_
      refine xw_goto 46 dR_moved_33 (by decide) ?_
      obtain rfl := Option.some.inj hF
      exact xw_lreturn dR_moved_46 rfl (Nat.le_of_ble_eq_true rfl) (Nat.le_of_ble_eq_true rfl) ⟨rfl, rfl⟩
def FF_takeMoved_6 (fo : xFs) (m : xMv) : Nat → Int32 → xFs → Option xFs
  | 0, _, _ => none
  | fu + 1, l3, s => if fo.2.1 ≤ l3 then (some s) else (if 0 ≤ l3 ∧ l3 < nI 1000 then (if (sR_isOne (fo.1 (l3).toNatClampNeg)) = 0 then (if (lg_cmp (fo.1 (l3).toNatClampNeg) (-1)) = 0 then ((FF_addText 10 s).bind fun r452 => FF_takeMoved_6 fo m fu (l3 + 1) r452) else (if (sR_isOne (fo.1 (l3).toNatClampNeg)) = 0 then ((FF_add (fo.1 (l3).toNatClampNeg) 1 s).bind fun r450 => FF_takeMoved_6 fo m fu (l3 + 1) r450) else ((FF_addReference (fo.1 (l3).toNatClampNeg) s).bind fun r451 => FF_takeMoved_6 fo m fu (l3 + 1) r451))) else ((FR_moved m (fo.1 (l3).toNatClampNeg)).bind fun r453 => if (lg_cmp r453 (-1)) = 0 then ((FF_addText 10 s).bind fun r458 => FF_takeMoved_6 fo m fu (l3 + 1) r458) else (if (sR_isOne r453) = 0 then ((FF_add r453 1 s).bind fun r456 => FF_takeMoved_6 fo m fu (l3 + 1) r456) else ((FF_addReference r453 s).bind fun r457 => FF_takeMoved_6 fo m fu (l3 + 1) r457)))) else none)
/-- FormulaShaper$Formula.takeMoved -/
def FF_takeMoved (fo : xFs) (m : xMv)  (s : xFs) : Option xFs := (FF_clear s).bind fun r444 => FF_takeMoved_6 fo m xFuel 0 r444
set_option maxRecDepth 20000 in
theorem CF_takeMoved_6 {w : xw_G} {h : xw_H}  {fo : xFs} {m : xMv} : ∀ (fu : Nat) {l3 : Int32} {s : xFs} {out : xFs} {h0 : xw_H}, FF_takeMoved_6 fo m fu l3 s = some out → xw_X w (mF_takeMoved { frames := 9, cells := 0, slots := 0, locals := 324 }) (xw_R none (vM fo m out h)) h0 0 0 6 [some (.ref 1010), some (.ref 1008), some (.ref 1014), some (.int l3), none, none, none, none] [] (vM fo m s h) := by
  intro fu
  induction fu with
  | zero =>
    intro l3 s out h0 hF
    rw [FF_takeMoved_6] at hF
    cases hF
  | succ fu ih =>
    intro l3 s out h0 hF
    rw [FF_takeMoved_6] at hF
    refine xw_iload_n dF_takeMoved_6 rfl ?_
    refine xw_aload_n dF_takeMoved_7 rfl ?_
    refine xw_get dF_takeMoved_8 fF_15 rfl rfl ?_
    refine xw_icmp_ge 91 dF_takeMoved_11 (by decide) (fun c445 => ?_) (fun c445 => ?_)
    · replace hF := xg_t c445 hF
      obtain rfl := Option.some.inj hF
      exact xw_return dF_takeMoved_91 rfl (Nat.le_of_ble_eq_true rfl) (Nat.le_of_ble_eq_true rfl) ⟨rfl, rfl⟩
    · replace hF := xg_f c445 hF
      refine xw_aload_n dF_takeMoved_14 rfl ?_
      refine xw_get dF_takeMoved_15 fF_9 rfl rfl ?_
      refine xw_iload_n dF_takeMoved_18 rfl ?_
      obtain ⟨g446, hF⟩ := xg_g hF
      refine xg_laload g446 dF_takeMoved_19 rfl (by decide) ?_
      refine xw_lstore dF_takeMoved_20 (Nat.le_of_ble_eq_true rfl) ?_
      refine xw_Ln (L' := [some (.ref 1010), some (.ref 1008), some (.ref 1014), some (.int l3), some (.long (fo.1 (l3).toNatClampNeg)), none, none, none]) rfl ?_
      refine xw_lload dF_takeMoved_22 rfl ?_
      refine xg_S1 (k1 := 0) (n1 := 0) (cR_isOne w) rfl rfl rfl dF_takeMoved_24 (kF_34 _) ⟨Nat.le_of_ble_eq_true rfl, Nat.le_of_ble_eq_true rfl⟩ rfl rfl (Nat.le_of_ble_eq_true rfl) (Nat.le_of_ble_eq_true rfl) (Nat.le_of_ble_eq_true rfl) (Nat.le_of_ble_eq_true rfl) (Nat.le_of_ble_eq_true rfl) ?_
      refine xw_if_eq 39 dF_takeMoved_27 (by decide) (fun c447 => ?_) (fun c447 => ?_)
      · replace hF := xg_t c447 hF
        refine xw_lload dF_takeMoved_39 rfl ?_
        refine xw_lstore dF_takeMoved_41 (Nat.le_of_ble_eq_true rfl) ?_
        refine xw_Ln (L' := [some (.ref 1010), some (.ref 1008), some (.ref 1014), some (.int l3), some (.long (fo.1 (l3).toNatClampNeg)), none, some (.long (fo.1 (l3).toNatClampNeg)), none]) rfl ?_
        refine xw_lload dF_takeMoved_43 rfl ?_
        refine xw_ldc2 dF_takeMoved_45 tw_778 ?_
        refine xw_lcmp dF_takeMoved_48 ?_
        refine xw_if_ne 61 dF_takeMoved_49 (by decide) (fun c448 => ?_) (fun c448 => ?_)
        · replace hF := xg_f c448 hF
          refine xw_lload dF_takeMoved_61 rfl ?_
          refine xg_S1 (k1 := 0) (n1 := 0) (cR_isOne w) rfl rfl rfl dF_takeMoved_63 (kF_34 _) ⟨Nat.le_of_ble_eq_true rfl, Nat.le_of_ble_eq_true rfl⟩ rfl rfl (Nat.le_of_ble_eq_true rfl) (Nat.le_of_ble_eq_true rfl) (Nat.le_of_ble_eq_true rfl) (Nat.le_of_ble_eq_true rfl) (Nat.le_of_ble_eq_true rfl) ?_
          refine xw_if_eq 78 dF_takeMoved_66 (by decide) (fun c449 => ?_) (fun c449 => ?_)
          · replace hF := xg_t c449 hF
            refine xw_aload_n dF_takeMoved_78 rfl ?_
            refine xw_lload dF_takeMoved_79 rfl ?_
            refine xw_iconst (1) dF_takeMoved_81 (by decide) ?_
            obtain ⟨r450, er450, hF⟩ := xg_b hF
            refine xg_V0 (k1 := 0) (n1 := 0) (CF_add (a := 1010) (by decide) er450) (vM_F (fo := fo) (m := m) (o := s) (h := h)) (vM_F (fo := fo) (m := m) (o := r450) (h := h)).symm rfl dF_takeMoved_82 (kF_25 _) ⟨Nat.le_of_ble_eq_true rfl, Nat.le_of_ble_eq_true rfl⟩ rfl rfl rfl rfl (Nat.le_of_ble_eq_true rfl) (Nat.le_of_ble_eq_true rfl) (Nat.le_of_ble_eq_true rfl) (Nat.le_of_ble_eq_true rfl) (Nat.le_of_ble_eq_true rfl) ?_
            refine xw_iinc ((l3 + 1)) dF_takeMoved_85 rfl rfl (Nat.le_of_ble_eq_true rfl) ?_
            refine xw_Ln (L' := [some (.ref 1010), some (.ref 1008), some (.ref 1014), some (.int (l3 + 1)), some (.long (fo.1 (l3).toNatClampNeg)), none, some (.long (fo.1 (l3).toNatClampNeg)), none]) rfl ?_
            refine xw_goto 6 dF_takeMoved_88 (by decide) ?_
            refine xw_drop (L' := [some (.ref 1010), some (.ref 1008), some (.ref 1014), some (.int (l3 + 1)), none, none, none, none]) ⟨rfl, ⟨rfl, ⟨rfl, ⟨rfl, trivial⟩⟩⟩⟩ ?_
            exact ih hF
          · replace hF := xg_f c449 hF
            refine xw_aload_n dF_takeMoved_69 rfl ?_
            refine xw_lload dF_takeMoved_70 rfl ?_
            obtain ⟨r451, er451, hF⟩ := xg_b hF
            refine xg_V0 (k1 := 0) (n1 := 0) (CF_addReference (a := 1010) (by decide) er451) (vM_F (fo := fo) (m := m) (o := s) (h := h)) (vM_F (fo := fo) (m := m) (o := r451) (h := h)).symm rfl dF_takeMoved_72 (kF_53 _) ⟨Nat.le_of_ble_eq_true rfl, Nat.le_of_ble_eq_true rfl⟩ rfl rfl rfl rfl (Nat.le_of_ble_eq_true rfl) (Nat.le_of_ble_eq_true rfl) (Nat.le_of_ble_eq_true rfl) (Nat.le_of_ble_eq_true rfl) (Nat.le_of_ble_eq_true rfl) ?_
            refine xw_goto 85 dF_takeMoved_75 (by decide) ?_
            refine xw_iinc ((l3 + 1)) dF_takeMoved_85 rfl rfl (Nat.le_of_ble_eq_true rfl) ?_
            refine xw_Ln (L' := [some (.ref 1010), some (.ref 1008), some (.ref 1014), some (.int (l3 + 1)), some (.long (fo.1 (l3).toNatClampNeg)), none, some (.long (fo.1 (l3).toNatClampNeg)), none]) rfl ?_
            refine xw_goto 6 dF_takeMoved_88 (by decide) ?_
            refine xw_drop (L' := [some (.ref 1010), some (.ref 1008), some (.ref 1014), some (.int (l3 + 1)), none, none, none, none]) ⟨rfl, ⟨rfl, ⟨rfl, ⟨rfl, trivial⟩⟩⟩⟩ ?_
            exact ih hF
        · replace hF := xg_t c448 hF
          refine xw_aload_n dF_takeMoved_52 rfl ?_
          refine xw_ldcS 10 dF_takeMoved_53 (List.mem_of_getElem? (i := 10) rfl) (by decide) ?_
          obtain ⟨r452, er452, hF⟩ := xg_b hF
          refine xg_V0 (k1 := 0) (n1 := 0) (CF_addText (a := 1010) (by decide) er452) (vM_F (fo := fo) (m := m) (o := s) (h := h)) (vM_F (fo := fo) (m := m) (o := r452) (h := h)).symm rfl dF_takeMoved_55 (kF_49 _) ⟨Nat.le_of_ble_eq_true rfl, Nat.le_of_ble_eq_true rfl⟩ rfl rfl rfl rfl (Nat.le_of_ble_eq_true rfl) (Nat.le_of_ble_eq_true rfl) (Nat.le_of_ble_eq_true rfl) (Nat.le_of_ble_eq_true rfl) (Nat.le_of_ble_eq_true rfl) ?_
          refine xw_goto 85 dF_takeMoved_58 (by decide) ?_
          refine xw_iinc ((l3 + 1)) dF_takeMoved_85 rfl rfl (Nat.le_of_ble_eq_true rfl) ?_
          refine xw_Ln (L' := [some (.ref 1010), some (.ref 1008), some (.ref 1014), some (.int (l3 + 1)), some (.long (fo.1 (l3).toNatClampNeg)), none, some (.long (fo.1 (l3).toNatClampNeg)), none]) rfl ?_
          refine xw_goto 6 dF_takeMoved_88 (by decide) ?_
          refine xw_drop (L' := [some (.ref 1010), some (.ref 1008), some (.ref 1014), some (.int (l3 + 1)), none, none, none, none]) ⟨rfl, ⟨rfl, ⟨rfl, ⟨rfl, trivial⟩⟩⟩⟩ ?_
          exact ih hF
      · replace hF := xg_f c447 hF
        refine xw_lload dF_takeMoved_30 rfl ?_
        refine xw_aload_n dF_takeMoved_32 rfl ?_
        obtain ⟨r453, er453, hF⟩ := xg_b hF
        refine xg_S1 (k1 := 0) (n1 := 0) (CR_moved er453) (vM_V (fo := fo) (m := m) (o := s) (h := h)) (vM_V (fo := fo) (m := m) (o := s) (h := h)).symm rfl dF_takeMoved_33 (kF_43 _) ⟨Nat.le_of_ble_eq_true rfl, Nat.le_of_ble_eq_true rfl⟩ rfl rfl (Nat.le_of_ble_eq_true rfl) (Nat.le_of_ble_eq_true rfl) (Nat.le_of_ble_eq_true rfl) (Nat.le_of_ble_eq_true rfl) (Nat.le_of_ble_eq_true rfl) ?_
        refine xw_goto 41 dF_takeMoved_36 (by decide) ?_
        refine xw_lstore dF_takeMoved_41 (Nat.le_of_ble_eq_true rfl) ?_
        refine xw_Ln (L' := [some (.ref 1010), some (.ref 1008), some (.ref 1014), some (.int l3), some (.long (fo.1 (l3).toNatClampNeg)), none, some (.long r453), none]) rfl ?_
        refine xw_lload dF_takeMoved_43 rfl ?_
        refine xw_ldc2 dF_takeMoved_45 tw_778 ?_
        refine xw_lcmp dF_takeMoved_48 ?_
        refine xw_if_ne 61 dF_takeMoved_49 (by decide) (fun c454 => ?_) (fun c454 => ?_)
        · replace hF := xg_f c454 hF
          refine xw_lload dF_takeMoved_61 rfl ?_
          refine xg_S1 (k1 := 0) (n1 := 0) (cR_isOne w) rfl rfl rfl dF_takeMoved_63 (kF_34 _) ⟨Nat.le_of_ble_eq_true rfl, Nat.le_of_ble_eq_true rfl⟩ rfl rfl (Nat.le_of_ble_eq_true rfl) (Nat.le_of_ble_eq_true rfl) (Nat.le_of_ble_eq_true rfl) (Nat.le_of_ble_eq_true rfl) (Nat.le_of_ble_eq_true rfl) ?_
          refine xw_if_eq 78 dF_takeMoved_66 (by decide) (fun c455 => ?_) (fun c455 => ?_)
          · replace hF := xg_t c455 hF
            refine xw_aload_n dF_takeMoved_78 rfl ?_
            refine xw_lload dF_takeMoved_79 rfl ?_
            refine xw_iconst (1) dF_takeMoved_81 (by decide) ?_
            obtain ⟨r456, er456, hF⟩ := xg_b hF
            refine xg_V0 (k1 := 0) (n1 := 0) (CF_add (a := 1010) (by decide) er456) (vM_F (fo := fo) (m := m) (o := s) (h := h)) (vM_F (fo := fo) (m := m) (o := r456) (h := h)).symm rfl dF_takeMoved_82 (kF_25 _) ⟨Nat.le_of_ble_eq_true rfl, Nat.le_of_ble_eq_true rfl⟩ rfl rfl rfl rfl (Nat.le_of_ble_eq_true rfl) (Nat.le_of_ble_eq_true rfl) (Nat.le_of_ble_eq_true rfl) (Nat.le_of_ble_eq_true rfl) (Nat.le_of_ble_eq_true rfl) ?_
            refine xw_iinc ((l3 + 1)) dF_takeMoved_85 rfl rfl (Nat.le_of_ble_eq_true rfl) ?_
            refine xw_Ln (L' := [some (.ref 1010), some (.ref 1008), some (.ref 1014), some (.int (l3 + 1)), some (.long (fo.1 (l3).toNatClampNeg)), none, some (.long r453), none]) rfl ?_
            refine xw_goto 6 dF_takeMoved_88 (by decide) ?_
            refine xw_drop (L' := [some (.ref 1010), some (.ref 1008), some (.ref 1014), some (.int (l3 + 1)), none, none, none, none]) ⟨rfl, ⟨rfl, ⟨rfl, ⟨rfl, trivial⟩⟩⟩⟩ ?_
            exact ih hF
          · replace hF := xg_f c455 hF
            refine xw_aload_n dF_takeMoved_69 rfl ?_
            refine xw_lload dF_takeMoved_70 rfl ?_
            obtain ⟨r457, er457, hF⟩ := xg_b hF
            refine xg_V0 (k1 := 0) (n1 := 0) (CF_addReference (a := 1010) (by decide) er457) (vM_F (fo := fo) (m := m) (o := s) (h := h)) (vM_F (fo := fo) (m := m) (o := r457) (h := h)).symm rfl dF_takeMoved_72 (kF_53 _) ⟨Nat.le_of_ble_eq_true rfl, Nat.le_of_ble_eq_true rfl⟩ rfl rfl rfl rfl (Nat.le_of_ble_eq_true rfl) (Nat.le_of_ble_eq_true rfl) (Nat.le_of_ble_eq_true rfl) (Nat.le_of_ble_eq_true rfl) (Nat.le_of_ble_eq_true rfl) ?_
            refine xw_goto 85 dF_takeMoved_75 (by decide) ?_
            refine xw_iinc ((l3 + 1)) dF_takeMoved_85 rfl rfl (Nat.le_of_ble_eq_true rfl) ?_
            refine xw_Ln (L' := [some (.ref 1010), some (.ref 1008), some (.ref 1014), some (.int (l3 + 1)), some (.long (fo.1 (l3).toNatClampNeg)), none, some (.long r453), none]) rfl ?_
            refine xw_goto 6 dF_takeMoved_88 (by decide) ?_
            refine xw_drop (L' := [some (.ref 1010), some (.ref 1008), some (.ref 1014), some (.int (l3 + 1)), none, none, none, none]) ⟨rfl, ⟨rfl, ⟨rfl, ⟨rfl, trivial⟩⟩⟩⟩ ?_
            exact ih hF
        · replace hF := xg_t c454 hF
          refine xw_aload_n dF_takeMoved_52 rfl ?_
          refine xw_ldcS 10 dF_takeMoved_53 (List.mem_of_getElem? (i := 10) rfl) (by decide) ?_
          obtain ⟨r458, er458, hF⟩ := xg_b hF
          refine xg_V0 (k1 := 0) (n1 := 0) (CF_addText (a := 1010) (by decide) er458) (vM_F (fo := fo) (m := m) (o := s) (h := h)) (vM_F (fo := fo) (m := m) (o := r458) (h := h)).symm rfl dF_takeMoved_55 (kF_49 _) ⟨Nat.le_of_ble_eq_true rfl, Nat.le_of_ble_eq_true rfl⟩ rfl rfl rfl rfl (Nat.le_of_ble_eq_true rfl) (Nat.le_of_ble_eq_true rfl) (Nat.le_of_ble_eq_true rfl) (Nat.le_of_ble_eq_true rfl) (Nat.le_of_ble_eq_true rfl) ?_
          refine xw_goto 85 dF_takeMoved_58 (by decide) ?_
          refine xw_iinc ((l3 + 1)) dF_takeMoved_85 rfl rfl (Nat.le_of_ble_eq_true rfl) ?_
          refine xw_Ln (L' := [some (.ref 1010), some (.ref 1008), some (.ref 1014), some (.int (l3 + 1)), some (.long (fo.1 (l3).toNatClampNeg)), none, some (.long r453), none]) rfl ?_
          refine xw_goto 6 dF_takeMoved_88 (by decide) ?_
          refine xw_drop (L' := [some (.ref 1010), some (.ref 1008), some (.ref 1014), some (.int (l3 + 1)), none, none, none, none]) ⟨rfl, ⟨rfl, ⟨rfl, ⟨rfl, trivial⟩⟩⟩⟩ ?_
          exact ih hF
set_option maxRecDepth 20000 in
theorem CF_takeMoved {w : xw_G} {h : xw_H}  {fo : xFs} {m : xMv}  {s : xFs} {out : xFs} (hF : FF_takeMoved fo m  s = some out) : xw_C w (mF_takeMoved { frames := 9, cells := 0, slots := 0, locals := 324 }) (xw_R none (vM fo m out h)) [.ref 1010, .ref 1008, .ref 1014] (vM fo m s h) := by
  unfold FF_takeMoved at hF
  refine xw_enter rfl (show plainName "FormulaShaper$Formula" = true by decide +kernel) (Nat.le_of_ble_eq_true rfl) ?_
  refine xw_aload_n dF_takeMoved_0 rfl ?_
  obtain ⟨r444, er444, hF⟩ := xg_b hF
  refine xg_V0 (k1 := 0) (n1 := 0) (CF_clear (a := 1010) (by decide) er444) (vM_F (fo := fo) (m := m) (o := s) (h := h)) (vM_F (fo := fo) (m := m) (o := r444) (h := h)).symm rfl dF_takeMoved_1 (kF_40 _) ⟨Nat.le_of_ble_eq_true rfl, Nat.le_of_ble_eq_true rfl⟩ rfl rfl rfl rfl (Nat.le_of_ble_eq_true rfl) (Nat.le_of_ble_eq_true rfl) (Nat.le_of_ble_eq_true rfl) (Nat.le_of_ble_eq_true rfl) (Nat.le_of_ble_eq_true rfl) ?_
  refine xw_iconst (0) dF_takeMoved_4 (by decide) ?_
  refine xw_istore_n dF_takeMoved_5 (Nat.le_of_ble_eq_true rfl) ?_
  refine xw_Ln (L' := [some (.ref 1010), some (.ref 1008), some (.ref 1014), some (.int 0), none, none, none, none]) rfl ?_
  exact CF_takeMoved_6 xFuel hF
