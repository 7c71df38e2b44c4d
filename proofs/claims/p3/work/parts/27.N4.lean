/-- FormulaShaper$Grammar.place -/
def FG_place (t : xTs)  (s : xGs) : Option Int32 := (FT_placeAt s.1 t).bind fun r216 => some r216
set_option maxRecDepth 20000 in
theorem CG_place {w : xw_G} {h : xw_H}  {t : xTs}  {s : xGs} {out : Int32} (hF : FG_place t  s = some out) : xw_C w (mG_place { frames := 1, cells := 0, slots := 0, locals := 21 }) (xw_R (some (.int out)) (vG t s h)) [.ref 1013] (vG t s h) := by
  unfold FG_place at hF
  refine xw_enter rfl (show plainName "FormulaShaper$Grammar" = true by decide +kernel) (Nat.le_of_ble_eq_true rfl) ?_
  refine xw_aload_n dG_place_0 rfl ?_
  refine xw_get dG_place_1 fG_9 rfl rfl ?_
  refine xw_aload_n dG_place_4 rfl ?_
  refine xw_get dG_place_5 fG_15 rfl rfl ?_
  obtain ⟨r216, er216, hF⟩ := xg_b hF
  refine xg_V1 (k1 := 0) (n1 := 0) (CT_placeAt er216) (vG_T (t := t) (s := s) (h := h)) (vG_T (t := t) (s := s) (h := h)).symm rfl dG_place_8 (kG_36 _) ⟨Nat.le_of_ble_eq_true rfl, Nat.le_of_ble_eq_true rfl⟩ rfl rfl rfl rfl (Nat.le_of_ble_eq_true rfl) (Nat.le_of_ble_eq_true rfl) (Nat.le_of_ble_eq_true rfl) (Nat.le_of_ble_eq_true rfl) (Nat.le_of_ble_eq_true rfl) ?_
  obtain rfl := Option.some.inj hF
  exact xw_ireturn dG_place_11 rfl rfl (Nat.le_of_ble_eq_true rfl) (Nat.le_of_ble_eq_true rfl) ⟨rfl, rfl⟩
/-- FormulaShaper$Grammar.next -/
def FG_next (t : xTs)  (s : xGs) : Option Int32 := (FT_kindAt s.1 t).bind fun r217 => some r217
set_option maxRecDepth 20000 in
theorem CG_next {w : xw_G} {h : xw_H}  {t : xTs}  {s : xGs} {out : Int32} (hF : FG_next t  s = some out) : xw_C w (mG_next { frames := 1, cells := 0, slots := 0, locals := 21 }) (xw_R (some (.int out)) (vG t s h)) [.ref 1013] (vG t s h) := by
  unfold FG_next at hF
  refine xw_enter rfl (show plainName "FormulaShaper$Grammar" = true by decide +kernel) (Nat.le_of_ble_eq_true rfl) ?_
  refine xw_aload_n dG_next_0 rfl ?_
  refine xw_get dG_next_1 fG_9 rfl rfl ?_
  refine xw_aload_n dG_next_4 rfl ?_
  refine xw_get dG_next_5 fG_15 rfl rfl ?_
  obtain ⟨r217, er217, hF⟩ := xg_b hF
  refine xg_V1 (k1 := 0) (n1 := 0) (CT_kindAt er217) (vG_T (t := t) (s := s) (h := h)) (vG_T (t := t) (s := s) (h := h)).symm rfl dG_next_8 (kG_40 _) ⟨Nat.le_of_ble_eq_true rfl, Nat.le_of_ble_eq_true rfl⟩ rfl rfl rfl rfl (Nat.le_of_ble_eq_true rfl) (Nat.le_of_ble_eq_true rfl) (Nat.le_of_ble_eq_true rfl) (Nat.le_of_ble_eq_true rfl) (Nat.le_of_ble_eq_true rfl) ?_
  obtain rfl := Option.some.inj hF
  exact xw_ireturn dG_next_11 rfl rfl (Nat.le_of_ble_eq_true rfl) (Nat.le_of_ble_eq_true rfl) ⟨rfl, rfl⟩
/-- FormulaShaper$Grammar.nextIsOneOf -/
def FG_nextIsOneOf (t : xTs) (x0 : Nat) (s : xGs) : Option Bool := (FG_next t s).bind fun r218 => if 256 ≤ r218 then (some false) else ((FG_next t s).bind fun r220 => if x0 < xk_N then (if (xk_ix x0 (xg_c r220)) < 0 then (some false) else (some true)) else none)
set_option maxRecDepth 20000 in
theorem CG_nextIsOneOf {w : xw_G} {h : xw_H}  {t : xTs} {x0 : Nat} {s : xGs} {out : Bool} (hF : FG_nextIsOneOf t x0 s = some out) : xw_C w (mG_nextIsOneOf { frames := 4, cells := 0, slots := 0, locals := 91 }) (xw_R (some (.int (xb out))) (vG t s h)) [.ref 1013, .ref x0] (vG t s h) := by
  unfold FG_nextIsOneOf at hF
  refine xw_enter rfl (show plainName "FormulaShaper$Grammar" = true by decide +kernel) (Nat.le_of_ble_eq_true rfl) ?_
  refine xw_aload_n dG_nextIsOneOf_0 rfl ?_
  obtain ⟨r218, er218, hF⟩ := xg_b hF
  refine xg_V1 (k1 := 0) (n1 := 0) (CG_next er218) rfl rfl rfl dG_nextIsOneOf_1 (kG_30 _) ⟨Nat.le_of_ble_eq_true rfl, Nat.le_of_ble_eq_true rfl⟩ rfl rfl rfl rfl (Nat.le_of_ble_eq_true rfl) (Nat.le_of_ble_eq_true rfl) (Nat.le_of_ble_eq_true rfl) (Nat.le_of_ble_eq_true rfl) (Nat.le_of_ble_eq_true rfl) ?_
  refine xw_sipush (256) dG_nextIsOneOf_4 (by decide) ?_
  refine xw_icmp_ge 26 dG_nextIsOneOf_7 (by decide) (fun c219 => ?_) (fun c219 => ?_)
  · replace hF := xg_t c219 hF
    refine xw_iconst (0) dG_nextIsOneOf_26 (by decide) ?_
    obtain rfl := Option.some.inj hF
    exact xw_ireturn dG_nextIsOneOf_27 rfl (xb_nar false) (Nat.le_of_ble_eq_true rfl) (Nat.le_of_ble_eq_true rfl) ⟨rfl, rfl⟩
  · replace hF := xg_f c219 hF
    refine xw_aload_n dG_nextIsOneOf_10 rfl ?_
    refine xw_aload_n dG_nextIsOneOf_11 rfl ?_
    obtain ⟨r220, er220, hF⟩ := xg_b hF
    refine xg_V1 (k1 := 0) (n1 := 0) (CG_next er220) rfl rfl rfl dG_nextIsOneOf_12 (kG_30 _) ⟨Nat.le_of_ble_eq_true rfl, Nat.le_of_ble_eq_true rfl⟩ rfl rfl rfl rfl (Nat.le_of_ble_eq_true rfl) (Nat.le_of_ble_eq_true rfl) (Nat.le_of_ble_eq_true rfl) (Nat.le_of_ble_eq_true rfl) (Nat.le_of_ble_eq_true rfl) ?_
    refine xw_i2c dG_nextIsOneOf_15 ?_
    obtain ⟨g221, hF⟩ := xg_g hF
    refine xg_K1 (k1 := 0) (n1 := 0) (CQ_indexOf (w := w) g221) rfl rfl rfl dG_nextIsOneOf_16 (kG_43 _) ⟨Nat.le_of_ble_eq_true rfl, Nat.le_of_ble_eq_true rfl⟩ rfl rfl (xk_mO g221) (xk_lt9 g221) (Nat.le_of_ble_eq_true rfl) (Nat.le_of_ble_eq_true rfl) (Nat.le_of_ble_eq_true rfl) (Nat.le_of_ble_eq_true rfl) (Nat.le_of_ble_eq_true rfl) ?_
    refine xw_if_lt 26 dG_nextIsOneOf_19 (by decide) (fun c222 => ?_) (fun c222 => ?_)
    · replace hF := xg_t c222 hF
      refine xw_iconst (0) dG_nextIsOneOf_26 (by decide) ?_
      obtain rfl := Option.some.inj hF
      exact xw_ireturn dG_nextIsOneOf_27 rfl (xb_nar false) (Nat.le_of_ble_eq_true rfl) (Nat.le_of_ble_eq_true rfl) ⟨rfl, rfl⟩
    · replace hF := xg_f c222 hF
      refine xw_iconst (1) dG_nextIsOneOf_22 (by decide) ?_
      refine xw_goto 27 dG_nextIsOneOf_23 (by decide) ?_
      obtain rfl := Option.some.inj hF
      exact xw_ireturn dG_nextIsOneOf_27 rfl (xb_nar true) (Nat.le_of_ble_eq_true rfl) (Nat.le_of_ble_eq_true rfl) ⟨rfl, rfl⟩
/-- FormulaShaper$Grammar.nextIsWord -/
def FG_nextIsWord (t : xTs)  (s : xGs) : Option Bool := (FG_next t s).bind fun r223 => if r223 < 263 then (some false) else (some true)
set_option maxRecDepth 20000 in
theorem CG_nextIsWord {w : xw_G} {h : xw_H}  {t : xTs}  {s : xGs} {out : Bool} (hF : FG_nextIsWord t  s = some out) : xw_C w (mG_nextIsWord { frames := 2, cells := 0, slots := 0, locals := 41 }) (xw_R (some (.int (xb out))) (vG t s h)) [.ref 1013] (vG t s h) := by
  unfold FG_nextIsWord at hF
  refine xw_enter rfl (show plainName "FormulaShaper$Grammar" = true by decide +kernel) (Nat.le_of_ble_eq_true rfl) ?_
  refine xw_aload_n dG_nextIsWord_0 rfl ?_
  obtain ⟨r223, er223, hF⟩ := xg_b hF
  refine xg_V1 (k1 := 0) (n1 := 0) (CG_next er223) rfl rfl rfl dG_nextIsWord_1 (kG_30 _) ⟨Nat.le_of_ble_eq_true rfl, Nat.le_of_ble_eq_true rfl⟩ rfl rfl rfl rfl (Nat.le_of_ble_eq_true rfl) (Nat.le_of_ble_eq_true rfl) (Nat.le_of_ble_eq_true rfl) (Nat.le_of_ble_eq_true rfl) (Nat.le_of_ble_eq_true rfl) ?_
  refine xw_sipush (263) dG_nextIsWord_4 (by decide) ?_
  refine xw_icmp_lt 14 dG_nextIsWord_7 (by decide) (fun c224 => ?_) (fun c224 => ?_)
  · replace hF := xg_t c224 hF
    refine xw_iconst (0) dG_nextIsWord_14 (by decide) ?_
    obtain rfl := Option.some.inj hF
    exact xw_ireturn dG_nextIsWord_15 rfl (xb_nar false) (Nat.le_of_ble_eq_true rfl) (Nat.le_of_ble_eq_true rfl) ⟨rfl, rfl⟩
  · replace hF := xg_f c224 hF
    refine xw_iconst (1) dG_nextIsWord_10 (by decide) ?_
    refine xw_goto 15 dG_nextIsWord_11 (by decide) ?_
    obtain rfl := Option.some.inj hF
    exact xw_ireturn dG_nextIsWord_15 rfl (xb_nar true) (Nat.le_of_ble_eq_true rfl) (Nat.le_of_ble_eq_true rfl) ⟨rfl, rfl⟩
/-- FormulaShaper$Grammar.takes -/
def FG_takes (t : xTs) (x0 : Int32) (s : xGs) : Option (Bool × xGs) := (FT_kindAt s.1 t).bind fun r225 => if r225 = x0 then (some (true, ((s.1 + 1), s.2))) else (some (false, s))
set_option maxRecDepth 20000 in
theorem CG_takes {w : xw_G} {h : xw_H}  {t : xTs} {x0 : Int32} {s : xGs} {out : (Bool × xGs)} (hF : FG_takes t x0 s = some out) : xw_C w (mG_takes { frames := 1, cells := 0, slots := 0, locals := 21 }) (xw_R (some (.int (xb out.1))) (vG t out.2 h)) [.ref 1013, .int x0] (vG t s h) := by
  unfold FG_takes at hF
  refine xw_enter rfl (show plainName "FormulaShaper$Grammar" = true by decide +kernel) (Nat.le_of_ble_eq_true rfl) ?_
  refine xw_aload_n dG_takes_0 rfl ?_
  refine xw_get dG_takes_1 fG_9 rfl rfl ?_
  refine xw_aload_n dG_takes_4 rfl ?_
  refine xw_get dG_takes_5 fG_15 rfl rfl ?_
  obtain ⟨r225, er225, hF⟩ := xg_b hF
  refine xg_V1 (k1 := 0) (n1 := 0) (CT_kindAt er225) (vG_T (t := t) (s := s) (h := h)) (vG_T (t := t) (s := s) (h := h)).symm rfl dG_takes_8 (kG_40 _) ⟨Nat.le_of_ble_eq_true rfl, Nat.le_of_ble_eq_true rfl⟩ rfl rfl rfl rfl (Nat.le_of_ble_eq_true rfl) (Nat.le_of_ble_eq_true rfl) (Nat.le_of_ble_eq_true rfl) (Nat.le_of_ble_eq_true rfl) (Nat.le_of_ble_eq_true rfl) ?_
  refine xw_iload_n dG_takes_11 rfl ?_
  refine xw_icmp_ne 19 dG_takes_12 (by decide) (fun c226 => ?_) (fun c226 => ?_)
  · replace hF := xg_f c226 hF
    refine xw_iconst (0) dG_takes_19 (by decide) ?_
    refine xw_istore_n dG_takes_20 (Nat.le_of_ble_eq_true rfl) ?_
    refine xw_Ln (L' := [some (.ref 1013), some (.int x0), some (.int 0)]) rfl ?_
    refine xw_iload_n dG_takes_21 rfl ?_
    refine xw_if_eq 35 dG_takes_22 (by decide) (fun _ => ?_) (fun q => absurd q (by decide))
    refine xw_iload_n dG_takes_35 rfl ?_
    obtain rfl := Option.some.inj hF
    exact xw_ireturn dG_takes_36 rfl (xb_nar false) (Nat.le_of_ble_eq_true rfl) (Nat.le_of_ble_eq_true rfl) ⟨rfl, rfl⟩
  · replace hF := xg_t c226 hF
    refine xw_iconst (1) dG_takes_15 (by decide) ?_
    refine xw_goto 20 dG_takes_16 (by decide) ?_
    refine xw_istore_n dG_takes_20 (Nat.le_of_ble_eq_true rfl) ?_
    refine xw_Ln (L' := [some (.ref 1013), some (.int x0), some (.int 1)]) rfl ?_
    refine xw_iload_n dG_takes_21 rfl ?_
    refine xw_if_eq 35 dG_takes_22 (by decide) (fun q => absurd q (by decide)) (fun _ => ?_)
    refine xw_aload_n dG_takes_25 rfl ?_
    refine xw_dup_r dG_takes_26 ?_
    refine xw_get dG_takes_27 fG_15 rfl rfl ?_
    refine xw_iconst (1) dG_takes_30 (by decide) ?_
    refine xw_iadd dG_takes_31 ?_
    refine xg_put dG_takes_32 fG_15 rfl (by decide) (Nat.le_of_ble_eq_true rfl) (fun _ => rfl) (fun _ => rfl) vG_p ?_
    refine xw_iload_n dG_takes_35 rfl ?_
    obtain rfl := Option.some.inj hF
    exact xw_ireturn dG_takes_36 rfl (xb_nar true) (Nat.le_of_ble_eq_true rfl) (Nat.le_of_ble_eq_true rfl) ⟨rfl, rfl⟩
/-- FormulaShaper$Grammar.opens -/
def FG_opens (t : xTs) (x0 : Int32) (s : xGs) : Option (Bool × xGs) := if 12 ≤ s.2 then (some (false, s)) else ((FG_takes t x0 s).bind fun r230 => if r230.1 = true then (some (true, (r230.2.1, (r230.2.2 + 1)))) else (some (false, r230.2)))
set_option maxRecDepth 20000 in
theorem CG_opens {w : xw_G} {h : xw_H}  {t : xTs} {x0 : Int32} {s : xGs} {out : (Bool × xGs)} (hF : FG_opens t x0 s = some out) : xw_C w (mG_opens { frames := 2, cells := 0, slots := 0, locals := 43 }) (xw_R (some (.int (xb out.1))) (vG t out.2 h)) [.ref 1013, .int x0] (vG t s h) := by
  unfold FG_opens at hF
  refine xw_enter rfl (show plainName "FormulaShaper$Grammar" = true by decide +kernel) (Nat.le_of_ble_eq_true rfl) ?_
  refine xw_aload_n dG_opens_0 rfl ?_
  refine xw_get dG_opens_1 fG_19 rfl rfl ?_
  refine xw_bipush (12) dG_opens_4 (by decide) ?_
  refine xw_icmp_ge 17 dG_opens_6 (by decide) (fun c229 => ?_) (fun c229 => ?_)
  · replace hF := xg_t c229 hF
    refine xw_iconst (0) dG_opens_17 (by decide) ?_
    obtain rfl := Option.some.inj hF
    exact xw_ireturn dG_opens_18 rfl (xb_nar false) (Nat.le_of_ble_eq_true rfl) (Nat.le_of_ble_eq_true rfl) ⟨rfl, rfl⟩
  · replace hF := xg_f c229 hF
    refine xw_aload_n dG_opens_9 rfl ?_
    refine xw_iload_n dG_opens_10 rfl ?_
    obtain ⟨r230, er230, hF⟩ := xg_b hF
    refine xg_V1 (k1 := 0) (n1 := 0) (CG_takes er230) rfl rfl rfl dG_opens_11 (kG_22 _) ⟨Nat.le_of_ble_eq_true rfl, Nat.le_of_ble_eq_true rfl⟩ rfl rfl rfl rfl (Nat.le_of_ble_eq_true rfl) (Nat.le_of_ble_eq_true rfl) (Nat.le_of_ble_eq_true rfl) (Nat.le_of_ble_eq_true rfl) (Nat.le_of_ble_eq_true rfl) ?_
    refine xw_if_neB 19 dG_opens_14 (by decide) (fun c231 => ?_) (fun c231 => ?_)
    · replace hF := xg_t c231 hF
      refine xw_aload_n dG_opens_19 rfl ?_
      refine xw_dup_r dG_opens_20 ?_
      refine xw_get dG_opens_21 fG_19 rfl rfl ?_
      refine xw_iconst (1) dG_opens_24 (by decide) ?_
      refine xw_iadd dG_opens_25 ?_
      refine xg_put dG_opens_26 fG_19 rfl (by decide) (Nat.le_of_ble_eq_true rfl) (fun _ => rfl) (fun _ => rfl) vG_p ?_
      refine xw_iconst (1) dG_opens_29 (by decide) ?_
      obtain rfl := Option.some.inj hF
      exact xw_ireturn dG_opens_30 rfl (xb_nar true) (Nat.le_of_ble_eq_true rfl) (Nat.le_of_ble_eq_true rfl) ⟨rfl, rfl⟩
    · replace hF := xg_f c231 hF
      refine xw_iconst (0) dG_opens_17 (by decide) ?_
      obtain rfl := Option.some.inj hF
      exact xw_ireturn dG_opens_18 rfl (xb_nar false) (Nat.le_of_ble_eq_true rfl) (Nat.le_of_ble_eq_true rfl) ⟨rfl, rfl⟩
/-- FormulaShaper$Grammar.closes -/
def FG_closes (t : xTs) (x0 : Int32) (s : xGs) : Option (Bool × xGs) := (FG_takes t x0 s).bind fun r232 => if r232.1 = true then (some (true, (r232.2.1, (r232.2.2 - 1)))) else (some (false, r232.2))
set_option maxRecDepth 20000 in
theorem CG_closes {w : xw_G} {h : xw_H}  {t : xTs} {x0 : Int32} {s : xGs} {out : (Bool × xGs)} (hF : FG_closes t x0 s = some out) : xw_C w (mG_closes { frames := 2, cells := 0, slots := 0, locals := 43 }) (xw_R (some (.int (xb out.1))) (vG t out.2 h)) [.ref 1013, .int x0] (vG t s h) := by
  unfold FG_closes at hF
  refine xw_enter rfl (show plainName "FormulaShaper$Grammar" = true by decide +kernel) (Nat.le_of_ble_eq_true rfl) ?_
  refine xw_aload_n dG_closes_0 rfl ?_
  refine xw_iload_n dG_closes_1 rfl ?_
  obtain ⟨r232, er232, hF⟩ := xg_b hF
  refine xg_V1 (k1 := 0) (n1 := 0) (CG_takes er232) rfl rfl rfl dG_closes_2 (kG_22 _) ⟨Nat.le_of_ble_eq_true rfl, Nat.le_of_ble_eq_true rfl⟩ rfl rfl rfl rfl (Nat.le_of_ble_eq_true rfl) (Nat.le_of_ble_eq_true rfl) (Nat.le_of_ble_eq_true rfl) (Nat.le_of_ble_eq_true rfl) (Nat.le_of_ble_eq_true rfl) ?_
  refine xw_if_neB 10 dG_closes_5 (by decide) (fun c233 => ?_) (fun c233 => ?_)
  · replace hF := xg_t c233 hF
    refine xw_aload_n dG_closes_10 rfl ?_
    refine xw_dup_r dG_closes_11 ?_
    refine xw_get dG_closes_12 fG_19 rfl rfl ?_
    refine xw_iconst (1) dG_closes_15 (by decide) ?_
    refine xw_isub dG_closes_16 ?_
    refine xg_put dG_closes_17 fG_19 rfl (by decide) (Nat.le_of_ble_eq_true rfl) (fun _ => rfl) (fun _ => rfl) vG_p ?_
    refine xw_iconst (1) dG_closes_20 (by decide) ?_
    obtain rfl := Option.some.inj hF
    exact xw_ireturn dG_closes_21 rfl (xb_nar true) (Nat.le_of_ble_eq_true rfl) (Nat.le_of_ble_eq_true rfl) ⟨rfl, rfl⟩
  · replace hF := xg_f c233 hF
    refine xw_iconst (0) dG_closes_8 (by decide) ?_
    obtain rfl := Option.some.inj hF
    exact xw_ireturn dG_closes_9 rfl (xb_nar false) (Nat.le_of_ble_eq_true rfl) (Nat.le_of_ble_eq_true rfl) ⟨rfl, rfl⟩
/-- FormulaShaper$Grammar.takesConstant -/
def FG_takesConstant (t : xTs)  (s : xGs) : Option (Bool × xGs) := (FG_takes t 258 s).bind fun r234 => if r234.1 = true then (some (true, r234.2)) else ((FG_takes t 259 r234.2).bind fun r236 => if r236.1 = true then (some (true, r236.2)) else ((FG_takes t 260 r236.2).bind fun r238 => if r238.1 = true then (some (true, r238.2)) else ((FG_takes t 261 r238.2).bind fun r240 => if r240.1 = true then (some (true, r240.2)) else (some (false, r240.2)))))
set_option maxRecDepth 20000 in
theorem CG_takesConstant {w : xw_G} {h : xw_H}  {t : xTs}  {s : xGs} {out : (Bool × xGs)} (hF : FG_takesConstant t  s = some out) : xw_C w (mG_takesConstant { frames := 2, cells := 0, slots := 0, locals := 43 }) (xw_R (some (.int (xb out.1))) (vG t out.2 h)) [.ref 1013] (vG t s h) := by
  unfold FG_takesConstant at hF
  refine xw_enter rfl (show plainName "FormulaShaper$Grammar" = true by decide +kernel) (Nat.le_of_ble_eq_true rfl) ?_
  refine xw_aload_n dG_takesConstant_0 rfl ?_
  refine xw_sipush (258) dG_takesConstant_1 (by decide) ?_
  obtain ⟨r234, er234, hF⟩ := xg_b hF
  refine xg_V1 (k1 := 0) (n1 := 0) (CG_takes er234) rfl rfl rfl dG_takesConstant_4 (kG_22 _) ⟨Nat.le_of_ble_eq_true rfl, Nat.le_of_ble_eq_true rfl⟩ rfl rfl rfl rfl (Nat.le_of_ble_eq_true rfl) (Nat.le_of_ble_eq_true rfl) (Nat.le_of_ble_eq_true rfl) (Nat.le_of_ble_eq_true rfl) (Nat.le_of_ble_eq_true rfl) ?_
  refine xw_if_neB 40 dG_takesConstant_7 (by decide) (fun c235 => ?_) (fun c235 => ?_)
  · replace hF := xg_t c235 hF
    refine xw_iconst (1) dG_takesConstant_40 (by decide) ?_
    refine xw_goto 45 dG_takesConstant_41 (by decide) ?_
    obtain rfl := Option.some.inj hF
    exact xw_ireturn dG_takesConstant_45 rfl (xb_nar true) (Nat.le_of_ble_eq_true rfl) (Nat.le_of_ble_eq_true rfl) ⟨rfl, rfl⟩
  · replace hF := xg_f c235 hF
    refine xw_aload_n dG_takesConstant_10 rfl ?_
    refine xw_sipush (259) dG_takesConstant_11 (by decide) ?_
    obtain ⟨r236, er236, hF⟩ := xg_b hF
    refine xg_V1 (k1 := 0) (n1 := 0) (CG_takes er236) rfl rfl rfl dG_takesConstant_14 (kG_22 _) ⟨Nat.le_of_ble_eq_true rfl, Nat.le_of_ble_eq_true rfl⟩ rfl rfl rfl rfl (Nat.le_of_ble_eq_true rfl) (Nat.le_of_ble_eq_true rfl) (Nat.le_of_ble_eq_true rfl) (Nat.le_of_ble_eq_true rfl) (Nat.le_of_ble_eq_true rfl) ?_
    refine xw_if_neB 40 dG_takesConstant_17 (by decide) (fun c237 => ?_) (fun c237 => ?_)
    · replace hF := xg_t c237 hF
      refine xw_iconst (1) dG_takesConstant_40 (by decide) ?_
      refine xw_goto 45 dG_takesConstant_41 (by decide) ?_
      obtain rfl := Option.some.inj hF
      exact xw_ireturn dG_takesConstant_45 rfl (xb_nar true) (Nat.le_of_ble_eq_true rfl) (Nat.le_of_ble_eq_true rfl) ⟨rfl, rfl⟩
    · replace hF := xg_f c237 hF
      refine xw_aload_n dG_takesConstant_20 rfl ?_
      refine xw_sipush (260) dG_takesConstant_21 (by decide) ?_
      obtain ⟨r238, er238, hF⟩ := xg_b hF
      refine xg_V1 (k1 := 0) (n1 := 0) (CG_takes er238) rfl rfl rfl dG_takesConstant_24 (kG_22 _) ⟨Nat.le_of_ble_eq_true rfl, Nat.le_of_ble_eq_true rfl⟩ rfl rfl rfl rfl (Nat.le_of_ble_eq_true rfl) (Nat.le_of_ble_eq_true rfl) (Nat.le_of_ble_eq_true rfl) (Nat.le_of_ble_eq_true rfl) (Nat.le_of_ble_eq_true rfl) ?_
      refine xw_if_neB 40 dG_takesConstant_27 (by decide) (fun c239 => ?_) (fun c239 => ?_)
      · replace hF := xg_t c239 hF
        refine xw_iconst (1) dG_takesConstant_40 (by decide) ?_
        refine xw_goto 45 dG_takesConstant_41 (by decide) ?_
        obtain rfl := Option.some.inj hF
        exact xw_ireturn dG_takesConstant_45 rfl (xb_nar true) (Nat.le_of_ble_eq_true rfl) (Nat.le_of_ble_eq_true rfl) ⟨rfl, rfl⟩
      · replace hF := xg_f c239 hF
        refine xw_aload_n dG_takesConstant_30 rfl ?_
        refine xw_sipush (261) dG_takesConstant_31 (by decide) ?_
        obtain ⟨r240, er240, hF⟩ := xg_b hF
        refine xg_V1 (k1 := 0) (n1 := 0) (CG_takes er240) rfl rfl rfl dG_takesConstant_34 (kG_22 _) ⟨Nat.le_of_ble_eq_true rfl, Nat.le_of_ble_eq_true rfl⟩ rfl rfl rfl rfl (Nat.le_of_ble_eq_true rfl) (Nat.le_of_ble_eq_true rfl) (Nat.le_of_ble_eq_true rfl) (Nat.le_of_ble_eq_true rfl) (Nat.le_of_ble_eq_true rfl) ?_
        refine xw_if_eqB 44 dG_takesConstant_37 (by decide) (fun c241 => ?_) (fun c241 => ?_)
        · replace hF := xg_f c241 hF
          refine xw_iconst (0) dG_takesConstant_44 (by decide) ?_
          obtain rfl := Option.some.inj hF
          exact xw_ireturn dG_takesConstant_45 rfl (xb_nar false) (Nat.le_of_ble_eq_true rfl) (Nat.le_of_ble_eq_true rfl) ⟨rfl, rfl⟩
        · replace hF := xg_t c241 hF
          refine xw_iconst (1) dG_takesConstant_40 (by decide) ?_
          refine xw_goto 45 dG_takesConstant_41 (by decide) ?_
          obtain rfl := Option.some.inj hF
          exact xw_ireturn dG_takesConstant_45 rfl (xb_nar true) (Nat.le_of_ble_eq_true rfl) (Nat.le_of_ble_eq_true rfl) ⟨rfl, rfl⟩
/-- FormulaShaper$Grammar.takesLiteral -/
def FG_takesLiteral (t : xTs)  (s : xGs) : Option (Bool × xGs) := (FG_takes t 45 s).bind fun r242 => if r242.1 = true then ((FG_takes t 258 r242.2).bind fun r245 => some (r245.1, r245.2)) else ((FG_takesConstant t r242.2).bind fun r244 => some (r244.1, r244.2))
set_option maxRecDepth 20000 in
theorem CG_takesLiteral {w : xw_G} {h : xw_H}  {t : xTs}  {s : xGs} {out : (Bool × xGs)} (hF : FG_takesLiteral t  s = some out) : xw_C w (mG_takesLiteral { frames := 3, cells := 0, slots := 0, locals := 63 }) (xw_R (some (.int (xb out.1))) (vG t out.2 h)) [.ref 1013] (vG t s h) := by
  unfold FG_takesLiteral at hF
  refine xw_enter rfl (show plainName "FormulaShaper$Grammar" = true by decide +kernel) (Nat.le_of_ble_eq_true rfl) ?_
  refine xw_aload_n dG_takesLiteral_0 rfl ?_
  refine xw_bipush (45) dG_takesLiteral_1 (by decide) ?_
  obtain ⟨r242, er242, hF⟩ := xg_b hF
  refine xg_V1 (k1 := 0) (n1 := 0) (CG_takes er242) rfl rfl rfl dG_takesLiteral_3 (kG_22 _) ⟨Nat.le_of_ble_eq_true rfl, Nat.le_of_ble_eq_true rfl⟩ rfl rfl rfl rfl (Nat.le_of_ble_eq_true rfl) (Nat.le_of_ble_eq_true rfl) (Nat.le_of_ble_eq_true rfl) (Nat.le_of_ble_eq_true rfl) (Nat.le_of_ble_eq_true rfl) ?_
  refine xw_if_eqB 19 dG_takesLiteral_6 (by decide) (fun c243 => ?_) (fun c243 => ?_)
  · replace hF := xg_f c243 hF
    refine xw_aload_n dG_takesLiteral_19 rfl ?_
    obtain ⟨r244, er244, hF⟩ := xg_b hF
    refine xg_V1 (k1 := 0) (n1 := 0) (CG_takesConstant er244) rfl rfl rfl dG_takesLiteral_20 (kG_93 _) ⟨Nat.le_of_ble_eq_true rfl, Nat.le_of_ble_eq_true rfl⟩ rfl rfl rfl rfl (Nat.le_of_ble_eq_true rfl) (Nat.le_of_ble_eq_true rfl) (Nat.le_of_ble_eq_true rfl) (Nat.le_of_ble_eq_true rfl) (Nat.le_of_ble_eq_true rfl) ?_
    obtain rfl := Option.some.inj hF
    exact xw_ireturn dG_takesLiteral_23 rfl (xb_nar r244.1) (Nat.le_of_ble_eq_true rfl) (Nat.le_of_ble_eq_true rfl) ⟨rfl, rfl⟩
  · replace hF := xg_t c243 hF
    refine xw_aload_n dG_takesLiteral_9 rfl ?_
    refine xw_sipush (258) dG_takesLiteral_10 (by decide) ?_
    obtain ⟨r245, er245, hF⟩ := xg_b hF
    refine xg_V1 (k1 := 0) (n1 := 0) (CG_takes er245) rfl rfl rfl dG_takesLiteral_13 (kG_22 _) ⟨Nat.le_of_ble_eq_true rfl, Nat.le_of_ble_eq_true rfl⟩ rfl rfl rfl rfl (Nat.le_of_ble_eq_true rfl) (Nat.le_of_ble_eq_true rfl) (Nat.le_of_ble_eq_true rfl) (Nat.le_of_ble_eq_true rfl) (Nat.le_of_ble_eq_true rfl) ?_
    refine xw_goto 23 dG_takesLiteral_16 (by decide) ?_
    obtain rfl := Option.some.inj hF
    exact xw_ireturn dG_takesLiteral_23 rfl (xb_nar r245.1) (Nat.le_of_ble_eq_true rfl) (Nat.le_of_ble_eq_true rfl) ⟨rfl, rfl⟩
/-- FormulaShaper$Grammar.takesWord -/
def FG_takesWord (t : xTs)  (s : xGs) : Option (Bool × xGs) := (FG_nextIsWord t s).bind fun r246 => if r246 = true then (some (r246, ((s.1 + 1), s.2))) else (some (r246, s))
set_option maxRecDepth 20000 in
theorem CG_takesWord {w : xw_G} {h : xw_H}  {t : xTs}  {s : xGs} {out : (Bool × xGs)} (hF : FG_takesWord t  s = some out) : xw_C w (mG_takesWord { frames := 3, cells := 0, slots := 0, locals := 61 }) (xw_R (some (.int (xb out.1))) (vG t out.2 h)) [.ref 1013] (vG t s h) := by
  unfold FG_takesWord at hF
  refine xw_enter rfl (show plainName "FormulaShaper$Grammar" = true by decide +kernel) (Nat.le_of_ble_eq_true rfl) ?_
  refine xw_aload_n dG_takesWord_0 rfl ?_
  obtain ⟨r246, er246, hF⟩ := xg_b hF
  refine xg_V1 (k1 := 0) (n1 := 0) (CG_nextIsWord er246) rfl rfl rfl dG_takesWord_1 (kG_87 _) ⟨Nat.le_of_ble_eq_true rfl, Nat.le_of_ble_eq_true rfl⟩ rfl rfl rfl rfl (Nat.le_of_ble_eq_true rfl) (Nat.le_of_ble_eq_true rfl) (Nat.le_of_ble_eq_true rfl) (Nat.le_of_ble_eq_true rfl) (Nat.le_of_ble_eq_true rfl) ?_
  refine xw_istore_n dG_takesWord_4 (Nat.le_of_ble_eq_true rfl) ?_
  refine xw_Ln (L' := [some (.ref 1013), some (.int (xb r246))]) rfl ?_
  refine xw_iload_n dG_takesWord_5 rfl ?_
  refine xw_if_eqB 19 dG_takesWord_6 (by decide) (fun c247 => ?_) (fun c247 => ?_)
  · replace hF := xg_f c247 hF
    refine xw_iload_n dG_takesWord_19 rfl ?_
    obtain rfl := Option.some.inj hF
    exact xw_ireturn dG_takesWord_20 rfl (xb_nar r246) (Nat.le_of_ble_eq_true rfl) (Nat.le_of_ble_eq_true rfl) ⟨rfl, rfl⟩
  · replace hF := xg_t c247 hF
    refine xw_aload_n dG_takesWord_9 rfl ?_
    refine xw_dup_r dG_takesWord_10 ?_
    refine xw_get dG_takesWord_11 fG_15 rfl rfl ?_
    refine xw_iconst (1) dG_takesWord_14 (by decide) ?_
    refine xw_iadd dG_takesWord_15 ?_
    refine xg_put dG_takesWord_16 fG_15 rfl (by decide) (Nat.le_of_ble_eq_true rfl) (fun _ => rfl) (fun _ => rfl) vG_p ?_
    refine xw_iload_n dG_takesWord_19 rfl ?_
    obtain rfl := Option.some.inj hF
    exact xw_ireturn dG_takesWord_20 rfl (xb_nar r246) (Nat.le_of_ble_eq_true rfl) (Nat.le_of_ble_eq_true rfl) ⟨rfl, rfl⟩
def FG_skipAll_2 (t : xTs) : Nat → Nat → Int32 → xGs → Option xGs
  | 0, _, _, _ => none
  | fu + 1, l1, l2, s => if 2000 ≤ l2 then (some s) else ((FG_nextIsOneOf t l1 s).bind fun r249 => if r249 = true then (FG_skipAll_2 t fu l1 (l2 + 1) ((s.1 + 1), s.2)) else (some s))
/-- FormulaShaper$Grammar.skipAll -/
def FG_skipAll (t : xTs) (x0 : Nat) (s : xGs) : Option xGs := FG_skipAll_2 t xFuel x0 0 s
set_option maxRecDepth 20000 in
theorem CG_skipAll_2 {w : xw_G} {h : xw_H}  {t : xTs} : ∀ (fu : Nat) {l1 : Nat} {l2 : Int32} {s : xGs} {out : xGs} {h0 : xw_H}, FG_skipAll_2 t fu l1 l2 s = some out → xw_X w (mG_skipAll { frames := 5, cells := 0, slots := 0, locals := 112 }) (xw_R none (vG t out h)) h0 0 0 2 [some (.ref 1013), some (.ref l1), some (.int l2)] [] (vG t s h) := by
  intro fu
  induction fu with
  | zero =>
    intro l1 l2 s out h0 hF
    rw [FG_skipAll_2] at hF
    cases hF
  | succ fu ih =>
    intro l1 l2 s out h0 hF
    rw [FG_skipAll_2] at hF
    refine xw_iload_n dG_skipAll_2 rfl ?_
    refine xw_sipush (2000) dG_skipAll_3 (by decide) ?_
    refine xw_icmp_ge 33 dG_skipAll_6 (by decide) (fun c248 => ?_) (fun c248 => ?_)
    · replace hF := xg_t c248 hF
      obtain rfl := Option.some.inj hF
      exact xw_return dG_skipAll_33 rfl (Nat.le_of_ble_eq_true rfl) (Nat.le_of_ble_eq_true rfl) ⟨rfl, rfl⟩
    · replace hF := xg_f c248 hF
      refine xw_aload_n dG_skipAll_9 rfl ?_
      refine xw_aload_n dG_skipAll_10 rfl ?_
      obtain ⟨r249, er249, hF⟩ := xg_b hF
      refine xg_V1 (k1 := 0) (n1 := 0) (CG_nextIsOneOf er249) rfl rfl rfl dG_skipAll_11 (kG_53 _) ⟨Nat.le_of_ble_eq_true rfl, Nat.le_of_ble_eq_true rfl⟩ rfl rfl rfl rfl (Nat.le_of_ble_eq_true rfl) (Nat.le_of_ble_eq_true rfl) (Nat.le_of_ble_eq_true rfl) (Nat.le_of_ble_eq_true rfl) (Nat.le_of_ble_eq_true rfl) ?_
      refine xw_if_eqB 33 dG_skipAll_14 (by decide) (fun c250 => ?_) (fun c250 => ?_)
      · replace hF := xg_f c250 hF
        obtain rfl := Option.some.inj hF
        exact xw_return dG_skipAll_33 rfl (Nat.le_of_ble_eq_true rfl) (Nat.le_of_ble_eq_true rfl) ⟨rfl, rfl⟩
      · replace hF := xg_t c250 hF
        refine xw_aload_n dG_skipAll_17 rfl ?_
        refine xw_dup_r dG_skipAll_18 ?_
        refine xw_get dG_skipAll_19 fG_15 rfl rfl ?_
        refine xw_iconst (1) dG_skipAll_22 (by decide) ?_
        refine xw_iadd dG_skipAll_23 ?_
        refine xg_put dG_skipAll_24 fG_15 rfl (by decide) (Nat.le_of_ble_eq_true rfl) (fun _ => rfl) (fun _ => rfl) vG_p ?_
        refine xw_iinc ((l2 + 1)) dG_skipAll_27 rfl rfl (Nat.le_of_ble_eq_true rfl) ?_
        refine xw_Ln (L' := [some (.ref 1013), some (.ref l1), some (.int (l2 + 1))]) rfl ?_
        refine xw_goto 2 dG_skipAll_30 (by decide) ?_
        exact ih hF
set_option maxRecDepth 20000 in
theorem CG_skipAll {w : xw_G} {h : xw_H}  {t : xTs} {x0 : Nat} {s : xGs} {out : xGs} (hF : FG_skipAll t x0 s = some out) : xw_C w (mG_skipAll { frames := 5, cells := 0, slots := 0, locals := 112 }) (xw_R none (vG t out h)) [.ref 1013, .ref x0] (vG t s h) := by
  unfold FG_skipAll at hF
  refine xw_enter rfl (show plainName "FormulaShaper$Grammar" = true by decide +kernel) (Nat.le_of_ble_eq_true rfl) ?_
  refine xw_iconst (0) dG_skipAll_0 (by decide) ?_
  refine xw_istore_n dG_skipAll_1 (Nat.le_of_ble_eq_true rfl) ?_
  refine xw_Ln (L' := [some (.ref 1013), some (.ref x0), some (.int 0)]) rfl ?_
  exact CG_skipAll_2 xFuel hF
/-- FormulaShaper$Grammar.isWordWithComma -/
def FG_isWordWithComma (t : xTs)  (s : xGs) : Option Bool := (FG_nextIsWord t s).bind fun r251 => if r251 = true then ((FT_kindAt (s.1 + 1) t).bind fun r253 => if r253 = 44 then (some true) else (some false)) else (some false)
set_option maxRecDepth 20000 in
theorem CG_isWordWithComma {w : xw_G} {h : xw_H}  {t : xTs}  {s : xGs} {out : Bool} (hF : FG_isWordWithComma t  s = some out) : xw_C w (mG_isWordWithComma { frames := 3, cells := 0, slots := 0, locals := 61 }) (xw_R (some (.int (xb out))) (vG t s h)) [.ref 1013] (vG t s h) := by
  unfold FG_isWordWithComma at hF
  refine xw_enter rfl (show plainName "FormulaShaper$Grammar" = true by decide +kernel) (Nat.le_of_ble_eq_true rfl) ?_
  refine xw_aload_n dG_isWordWithComma_0 rfl ?_
  obtain ⟨r251, er251, hF⟩ := xg_b hF
  refine xg_V1 (k1 := 0) (n1 := 0) (CG_nextIsWord er251) rfl rfl rfl dG_isWordWithComma_1 (kG_87 _) ⟨Nat.le_of_ble_eq_true rfl, Nat.le_of_ble_eq_true rfl⟩ rfl rfl rfl rfl (Nat.le_of_ble_eq_true rfl) (Nat.le_of_ble_eq_true rfl) (Nat.le_of_ble_eq_true rfl) (Nat.le_of_ble_eq_true rfl) (Nat.le_of_ble_eq_true rfl) ?_
  refine xw_if_eqB 29 dG_isWordWithComma_4 (by decide) (fun c252 => ?_) (fun c252 => ?_)
  · replace hF := xg_f c252 hF
    refine xw_iconst (0) dG_isWordWithComma_29 (by decide) ?_
    obtain rfl := Option.some.inj hF
    exact xw_ireturn dG_isWordWithComma_30 rfl (xb_nar false) (Nat.le_of_ble_eq_true rfl) (Nat.le_of_ble_eq_true rfl) ⟨rfl, rfl⟩
  · replace hF := xg_t c252 hF
    refine xw_aload_n dG_isWordWithComma_7 rfl ?_
    refine xw_get dG_isWordWithComma_8 fG_9 rfl rfl ?_
    refine xw_aload_n dG_isWordWithComma_11 rfl ?_
    refine xw_get dG_isWordWithComma_12 fG_15 rfl rfl ?_
    refine xw_iconst (1) dG_isWordWithComma_15 (by decide) ?_
    refine xw_iadd dG_isWordWithComma_16 ?_
    obtain ⟨r253, er253, hF⟩ := xg_b hF
    refine xg_V1 (k1 := 0) (n1 := 0) (CT_kindAt er253) (vG_T (t := t) (s := s) (h := h)) (vG_T (t := t) (s := s) (h := h)).symm rfl dG_isWordWithComma_17 (kG_40 _) ⟨Nat.le_of_ble_eq_true rfl, Nat.le_of_ble_eq_true rfl⟩ rfl rfl rfl rfl (Nat.le_of_ble_eq_true rfl) (Nat.le_of_ble_eq_true rfl) (Nat.le_of_ble_eq_true rfl) (Nat.le_of_ble_eq_true rfl) (Nat.le_of_ble_eq_true rfl) ?_
    refine xw_bipush (44) dG_isWordWithComma_20 (by decide) ?_
    refine xw_icmp_ne 29 dG_isWordWithComma_22 (by decide) (fun c254 => ?_) (fun c254 => ?_)
    · replace hF := xg_f c254 hF
      refine xw_iconst (0) dG_isWordWithComma_29 (by decide) ?_
      obtain rfl := Option.some.inj hF
      exact xw_ireturn dG_isWordWithComma_30 rfl (xb_nar false) (Nat.le_of_ble_eq_true rfl) (Nat.le_of_ble_eq_true rfl) ⟨rfl, rfl⟩
    · replace hF := xg_t c254 hF
      refine xw_iconst (1) dG_isWordWithComma_25 (by decide) ?_
      refine xw_goto 30 dG_isWordWithComma_26 (by decide) ?_
      obtain rfl := Option.some.inj hF
      exact xw_ireturn dG_isWordWithComma_30 rfl (xb_nar true) (Nat.le_of_ble_eq_true rfl) (Nat.le_of_ble_eq_true rfl) ⟨rfl, rfl⟩
def FG_skipParameters_2 (t : xTs) : Nat → Int32 → xGs → Option xGs
  | 0, _, _ => none
  | fu + 1, l1, s => if 5 ≤ l1 then (some s) else ((FG_isWordWithComma t s).bind fun r256 => if r256 = true then (FG_skipParameters_2 t fu (l1 + 1) ((s.1 + 2), s.2)) else (some s))
/-- FormulaShaper$Grammar.skipParameters -/
def FG_skipParameters (t : xTs)  (s : xGs) : Option xGs := FG_skipParameters_2 t xFuel 0 s
set_option maxRecDepth 20000 in
theorem CG_skipParameters_2 {w : xw_G} {h : xw_H}  {t : xTs} : ∀ (fu : Nat) {l1 : Int32} {s : xGs} {out : xGs} {h0 : xw_H}, FG_skipParameters_2 t fu l1 s = some out → xw_X w (mG_skipParameters { frames := 4, cells := 0, slots := 0, locals := 81 }) (xw_R none (vG t out h)) h0 0 0 2 [some (.ref 1013), some (.int l1)] [] (vG t s h) := by
  intro fu
  induction fu with
  | zero =>
    intro l1 s out h0 hF
    rw [FG_skipParameters_2] at hF
    cases hF
  | succ fu ih =>
    intro l1 s out h0 hF
    rw [FG_skipParameters_2] at hF
    refine xw_iload_n dG_skipParameters_2 rfl ?_
    refine xw_iconst (5) dG_skipParameters_3 (by decide) ?_
    refine xw_icmp_ge 30 dG_skipParameters_4 (by decide) (fun c255 => ?_) (fun c255 => ?_)
    · replace hF := xg_t c255 hF
      obtain rfl := Option.some.inj hF
      exact xw_return dG_skipParameters_30 rfl (Nat.le_of_ble_eq_true rfl) (Nat.le_of_ble_eq_true rfl) ⟨rfl, rfl⟩
    · replace hF := xg_f c255 hF
      refine xw_aload_n dG_skipParameters_7 rfl ?_
      obtain ⟨r256, er256, hF⟩ := xg_b hF
      refine xg_V1 (k1 := 0) (n1 := 0) (CG_isWordWithComma er256) rfl rfl rfl dG_skipParameters_8 (kG_121 _) ⟨Nat.le_of_ble_eq_true rfl, Nat.le_of_ble_eq_true rfl⟩ rfl rfl rfl rfl (Nat.le_of_ble_eq_true rfl) (Nat.le_of_ble_eq_true rfl) (Nat.le_of_ble_eq_true rfl) (Nat.le_of_ble_eq_true rfl) (Nat.le_of_ble_eq_true rfl) ?_
      refine xw_if_eqB 30 dG_skipParameters_11 (by decide) (fun c257 => ?_) (fun c257 => ?_)
      · replace hF := xg_f c257 hF
        obtain rfl := Option.some.inj hF
        exact xw_return dG_skipParameters_30 rfl (Nat.le_of_ble_eq_true rfl) (Nat.le_of_ble_eq_true rfl) ⟨rfl, rfl⟩
      · replace hF := xg_t c257 hF
        refine xw_aload_n dG_skipParameters_14 rfl ?_
        refine xw_dup_r dG_skipParameters_15 ?_
        refine xw_get dG_skipParameters_16 fG_15 rfl rfl ?_
        refine xw_iconst (2) dG_skipParameters_19 (by decide) ?_
        refine xw_iadd dG_skipParameters_20 ?_
        refine xg_put dG_skipParameters_21 fG_15 rfl (by decide) (Nat.le_of_ble_eq_true rfl) (fun _ => rfl) (fun _ => rfl) vG_p ?_
        refine xw_iinc ((l1 + 1)) dG_skipParameters_24 rfl rfl (Nat.le_of_ble_eq_true rfl) ?_
        refine xw_Ln (L' := [some (.ref 1013), some (.int (l1 + 1))]) rfl ?_
        refine xw_goto 2 dG_skipParameters_27 (by decide) ?_
        exact ih hF
set_option maxRecDepth 20000 in
theorem CG_skipParameters {w : xw_G} {h : xw_H}  {t : xTs}  {s : xGs} {out : xGs} (hF : FG_skipParameters t  s = some out) : xw_C w (mG_skipParameters { frames := 4, cells := 0, slots := 0, locals := 81 }) (xw_R none (vG t out h)) [.ref 1013] (vG t s h) := by
  unfold FG_skipParameters at hF
  refine xw_enter rfl (show plainName "FormulaShaper$Grammar" = true by decide +kernel) (Nat.le_of_ble_eq_true rfl) ?_
  refine xw_iconst (0) dG_skipParameters_0 (by decide) ?_
  refine xw_istore_n dG_skipParameters_1 (Nat.le_of_ble_eq_true rfl) ?_
  refine xw_Ln (L' := [some (.ref 1013), some (.int 0)]) rfl ?_
  exact CG_skipParameters_2 xFuel hF
def FG_takesRows_6 (t : xTs) : Nat → Int32 → Int32 → Int32 → xGs → Option (Bool × xGs)
  | 0, _, _, _, _ => none
  | fu + 1, l1, l2, l3, s => if 2000 ≤ l3 then (some (false, s)) else ((FG_takesLiteral t s).bind fun r259 => if r259.1 = true then (if l1 = 0 then (if l1 = 0 then ((FG_takes t 59 r259.2).bind fun r264 => if r264.1 = true then (FG_takesRows_6 t fu (l2 + 1) 0 (l3 + 1) r264.2) else ((FG_takes t 44 r264.2).bind fun r267 => if r267.1 = true then (FG_takesRows_6 t fu l1 (l2 + 1) (l3 + 1) r267.2) else (some (true, r267.2)))) else (if (l2 + 1) = l1 then ((FG_takes t 59 r259.2).bind fun r275 => if r275.1 = true then (FG_takesRows_6 t fu (l2 + 1) 0 (l3 + 1) r275.2) else ((FG_takes t 44 r275.2).bind fun r278 => if r278.1 = true then (FG_takesRows_6 t fu l1 (l2 + 1) (l3 + 1) r278.2) else (some (true, r278.2)))) else ((FG_takes t 44 r259.2).bind fun r272 => if r272.1 = true then (FG_takesRows_6 t fu l1 (l2 + 1) (l3 + 1) r272.2) else (some (false, r272.2))))) else (if l1 ≤ (l2 + 1) then (if l1 = 0 then ((FG_takes t 59 r259.2).bind fun r283 => if r283.1 = true then (FG_takesRows_6 t fu (l2 + 1) 0 (l3 + 1) r283.2) else (some (true, r283.2))) else (if (l2 + 1) = l1 then ((FG_takes t 59 r259.2).bind fun r290 => if r290.1 = true then (FG_takesRows_6 t fu (l2 + 1) 0 (l3 + 1) r290.2) else (some (true, r290.2))) else (some (false, r259.2)))) else (if l1 = 0 then ((FG_takes t 59 r259.2).bind fun r295 => if r295.1 = true then (FG_takesRows_6 t fu (l2 + 1) 0 (l3 + 1) r295.2) else ((FG_takes t 44 r295.2).bind fun r298 => if r298.1 = true then (FG_takesRows_6 t fu l1 (l2 + 1) (l3 + 1) r298.2) else (some (true, r298.2)))) else (if (l2 + 1) = l1 then ((FG_takes t 59 r259.2).bind fun r306 => if r306.1 = true then (FG_takesRows_6 t fu (l2 + 1) 0 (l3 + 1) r306.2) else ((FG_takes t 44 r306.2).bind fun r309 => if r309.1 = true then (FG_takesRows_6 t fu l1 (l2 + 1) (l3 + 1) r309.2) else (some (true, r309.2)))) else ((FG_takes t 44 r259.2).bind fun r303 => if r303.1 = true then (FG_takesRows_6 t fu l1 (l2 + 1) (l3 + 1) r303.2) else (some (false, r303.2))))))) else (some (false, r259.2)))
/-- FormulaShaper$Grammar.takesRows -/
def FG_takesRows (t : xTs)  (s : xGs) : Option (Bool × xGs) := FG_takesRows_6 t xFuel 0 0 0 s
set_option maxRecDepth 20000 in
theorem CG_takesRows_6 {w : xw_G} {h : xw_H}  {t : xTs} : ∀ (fu : Nat) {l1 : Int32} {l2 : Int32} {l3 : Int32} {s : xGs} {out : (Bool × xGs)} {h0 : xw_H}, FG_takesRows_6 t fu l1 l2 l3 s = some out → xw_X w (mG_takesRows { frames := 4, cells := 0, slots := 0, locals := 83 }) (xw_R (some (.int (xb out.1))) (vG t out.2 h)) h0 0 0 6 [some (.ref 1013), some (.int l1), some (.int l2), some (.int l3), none, none] [] (vG t s h) := by
  intro fu
  induction fu with
  | zero =>
    intro l1 l2 l3 s out h0 hF
    rw [FG_takesRows_6] at hF
    cases hF
  | succ fu ih =>
    intro l1 l2 l3 s out h0 hF
    rw [FG_takesRows_6] at hF
    refine xw_iload_n dG_takesRows_6 rfl ?_
    refine xw_sipush (2000) dG_takesRows_7 (by decide) ?_
    refine xw_icmp_ge 101 dG_takesRows_10 (by decide) (fun c258 => ?_) (fun c258 => ?_)
    · replace hF := xg_t c258 hF
      refine xw_iconst (0) dG_takesRows_101 (by decide) ?_
      obtain rfl := Option.some.inj hF
      exact xw_ireturn dG_takesRows_102 rfl (xb_nar false) (Nat.le_of_ble_eq_true rfl) (Nat.le_of_ble_eq_true rfl) ⟨rfl, rfl⟩
    · replace hF := xg_f c258 hF
      refine xw_aload_n dG_takesRows_13 rfl ?_
      obtain ⟨r259, er259, hF⟩ := xg_b hF
      refine xg_V1 (k1 := 0) (n1 := 0) (CG_takesLiteral er259) rfl rfl rfl dG_takesRows_14 (kG_127 _) ⟨Nat.le_of_ble_eq_true rfl, Nat.le_of_ble_eq_true rfl⟩ rfl rfl rfl rfl (Nat.le_of_ble_eq_true rfl) (Nat.le_of_ble_eq_true rfl) (Nat.le_of_ble_eq_true rfl) (Nat.le_of_ble_eq_true rfl) (Nat.le_of_ble_eq_true rfl) ?_
      refine xw_if_neB 22 dG_takesRows_17 (by decide) (fun c260 => ?_) (fun c260 => ?_)
      · replace hF := xg_t c260 hF
        refine xw_iinc ((l2 + 1)) dG_takesRows_22 rfl rfl (Nat.le_of_ble_eq_true rfl) ?_
        refine xw_Ln (L' := [some (.ref 1013), some (.int l1), some (.int (l2 + 1)), some (.int l3), none, none]) rfl ?_
        refine xw_iload_n dG_takesRows_25 rfl ?_
        refine xw_if_eq 34 dG_takesRows_26 (by decide) (fun c261 => ?_) (fun c261 => ?_)
        · replace hF := xg_t c261 hF
          refine xw_iconst (1) dG_takesRows_34 (by decide) ?_
          refine xw_goto 39 dG_takesRows_35 (by decide) ?_
          refine xw_istore dG_takesRows_39 (Nat.le_of_ble_eq_true rfl) ?_
          refine xw_Ln (L' := [some (.ref 1013), some (.int l1), some (.int (l2 + 1)), some (.int l3), some (.int 1), none]) rfl ?_
          refine xw_iload_n dG_takesRows_41 rfl ?_
          refine xw_if_eq 50 dG_takesRows_42 (by decide) (fun c262 => ?_) (fun c262 => ?_)
          · replace hF := xg_t c262 hF
            refine xw_iconst (1) dG_takesRows_50 (by decide) ?_
            refine xw_goto 55 dG_takesRows_51 (by decide) ?_
            refine xw_istore dG_takesRows_55 (Nat.le_of_ble_eq_true rfl) ?_
            refine xw_Ln (L' := [some (.ref 1013), some (.int l1), some (.int (l2 + 1)), some (.int l3), some (.int 1), some (.int 1)]) rfl ?_
            refine xw_iload dG_takesRows_57 rfl ?_
            refine xw_if_eq 78 dG_takesRows_59 (by decide) (fun q => absurd q (by decide)) (fun _ => ?_)
            refine xw_aload_n dG_takesRows_62 rfl ?_
            refine xw_bipush (59) dG_takesRows_63 (by decide) ?_
            obtain ⟨r264, er264, hF⟩ := xg_b hF
            refine xg_V1 (k1 := 0) (n1 := 0) (CG_takes er264) rfl rfl rfl dG_takesRows_65 (kG_22 _) ⟨Nat.le_of_ble_eq_true rfl, Nat.le_of_ble_eq_true rfl⟩ rfl rfl rfl rfl (Nat.le_of_ble_eq_true rfl) (Nat.le_of_ble_eq_true rfl) (Nat.le_of_ble_eq_true rfl) (Nat.le_of_ble_eq_true rfl) (Nat.le_of_ble_eq_true rfl) ?_
            refine xw_if_eqB 78 dG_takesRows_68 (by decide) (fun c265 => ?_) (fun c265 => ?_)
            · replace hF := xg_f c265 hF
              refine xw_iload dG_takesRows_78 rfl ?_
              refine xw_if_eq 92 dG_takesRows_80 (by decide) (fun q => absurd q (by decide)) (fun _ => ?_)
              refine xw_aload_n dG_takesRows_83 rfl ?_
              refine xw_bipush (44) dG_takesRows_84 (by decide) ?_
              obtain ⟨r267, er267, hF⟩ := xg_b hF
              refine xg_V1 (k1 := 0) (n1 := 0) (CG_takes er267) rfl rfl rfl dG_takesRows_86 (kG_22 _) ⟨Nat.le_of_ble_eq_true rfl, Nat.le_of_ble_eq_true rfl⟩ rfl rfl rfl rfl (Nat.le_of_ble_eq_true rfl) (Nat.le_of_ble_eq_true rfl) (Nat.le_of_ble_eq_true rfl) (Nat.le_of_ble_eq_true rfl) (Nat.le_of_ble_eq_true rfl) ?_
              refine xw_if_neB 95 dG_takesRows_89 (by decide) (fun c268 => ?_) (fun c268 => ?_)
              · replace hF := xg_t c268 hF
                refine xw_iinc ((l3 + 1)) dG_takesRows_95 rfl rfl (Nat.le_of_ble_eq_true rfl) ?_
                refine xw_Ln (L' := [some (.ref 1013), some (.int l1), some (.int (l2 + 1)), some (.int (l3 + 1)), some (.int 1), some (.int 1)]) rfl ?_
                refine xw_goto 6 dG_takesRows_98 (by decide) ?_
                refine xw_drop (L' := [some (.ref 1013), some (.int l1), some (.int (l2 + 1)), some (.int (l3 + 1)), none, none]) ⟨rfl, ⟨rfl, ⟨rfl, ⟨rfl, trivial⟩⟩⟩⟩ ?_
                exact ih hF
              · replace hF := xg_f c268 hF
                refine xw_iload dG_takesRows_92 rfl ?_
                obtain rfl := Option.some.inj hF
                exact xw_ireturn dG_takesRows_94 rfl (xb_nar true) (Nat.le_of_ble_eq_true rfl) (Nat.le_of_ble_eq_true rfl) ⟨rfl, rfl⟩
            · replace hF := xg_t c265 hF
              refine xw_iload_n dG_takesRows_71 rfl ?_
              refine xw_istore_n dG_takesRows_72 (Nat.le_of_ble_eq_true rfl) ?_
              refine xw_Ln (L' := [some (.ref 1013), some (.int (l2 + 1)), some (.int (l2 + 1)), some (.int l3), some (.int 1), some (.int 1)]) rfl ?_
              refine xw_iconst (0) dG_takesRows_73 (by decide) ?_
              refine xw_istore_n dG_takesRows_74 (Nat.le_of_ble_eq_true rfl) ?_
              refine xw_Ln (L' := [some (.ref 1013), some (.int (l2 + 1)), some (.int 0), some (.int l3), some (.int 1), some (.int 1)]) rfl ?_
              refine xw_goto 95 dG_takesRows_75 (by decide) ?_
              refine xw_iinc ((l3 + 1)) dG_takesRows_95 rfl rfl (Nat.le_of_ble_eq_true rfl) ?_
              refine xw_Ln (L' := [some (.ref 1013), some (.int (l2 + 1)), some (.int 0), some (.int (l3 + 1)), some (.int 1), some (.int 1)]) rfl ?_
              refine xw_goto 6 dG_takesRows_98 (by decide) ?_
              refine xw_drop (L' := [some (.ref 1013), some (.int (l2 + 1)), some (.int 0), some (.int (l3 + 1)), none, none]) ⟨rfl, ⟨rfl, ⟨rfl, ⟨rfl, trivial⟩⟩⟩⟩ ?_
              exact ih hF
          · replace hF := xg_f c262 hF
            refine xw_iload_n dG_takesRows_45 rfl ?_
            refine xw_iload_n dG_takesRows_46 rfl ?_
            refine xw_icmp_ne 54 dG_takesRows_47 (by decide) (fun c269 => ?_) (fun c269 => ?_)
            · replace hF := xg_f c269 hF
              refine xw_iconst (0) dG_takesRows_54 (by decide) ?_
              refine xw_istore dG_takesRows_55 (Nat.le_of_ble_eq_true rfl) ?_
              refine xw_Ln (L' := [some (.ref 1013), some (.int l1), some (.int (l2 + 1)), some (.int l3), some (.int 1), some (.int 0)]) rfl ?_
              refine xw_iload dG_takesRows_57 rfl ?_
              refine xw_if_eq 78 dG_takesRows_59 (by decide) (fun _ => ?_) (fun q => absurd q (by decide))
              refine xw_iload dG_takesRows_78 rfl ?_
              refine xw_if_eq 92 dG_takesRows_80 (by decide) (fun q => absurd q (by decide)) (fun _ => ?_)
              refine xw_aload_n dG_takesRows_83 rfl ?_
              refine xw_bipush (44) dG_takesRows_84 (by decide) ?_
              obtain ⟨r272, er272, hF⟩ := xg_b hF
              refine xg_V1 (k1 := 0) (n1 := 0) (CG_takes er272) rfl rfl rfl dG_takesRows_86 (kG_22 _) ⟨Nat.le_of_ble_eq_true rfl, Nat.le_of_ble_eq_true rfl⟩ rfl rfl rfl rfl (Nat.le_of_ble_eq_true rfl) (Nat.le_of_ble_eq_true rfl) (Nat.le_of_ble_eq_true rfl) (Nat.le_of_ble_eq_true rfl) (Nat.le_of_ble_eq_true rfl) ?_
              refine xw_if_neB 95 dG_takesRows_89 (by decide) (fun c273 => ?_) (fun c273 => ?_)
              · replace hF := xg_t c273 hF
                refine xw_iinc ((l3 + 1)) dG_takesRows_95 rfl rfl (Nat.le_of_ble_eq_true rfl) ?_
                refine xw_Ln (L' := [some (.ref 1013), some (.int l1), some (.int (l2 + 1)), some (.int (l3 + 1)), some (.int 1), some (.int 0)]) rfl ?_
                refine xw_goto 6 dG_takesRows_98 (by decide) ?_
                refine xw_drop (L' := [some (.ref 1013), some (.int l1), some (.int (l2 + 1)), some (.int (l3 + 1)), none, none]) ⟨rfl, ⟨rfl, ⟨rfl, ⟨rfl, trivial⟩⟩⟩⟩ ?_
                exact ih hF
              · replace hF := xg_f c273 hF
                refine xw_iload dG_takesRows_92 rfl ?_
                obtain rfl := Option.some.inj hF
                exact xw_ireturn dG_takesRows_94 rfl (xb_nar false) (Nat.le_of_ble_eq_true rfl) (Nat.le_of_ble_eq_true rfl) ⟨rfl, rfl⟩
            · replace hF := xg_t c269 hF
              refine xw_iconst (1) dG_takesRows_50 (by decide) ?_
              refine xw_goto 55 dG_takesRows_51 (by decide) ?_
              refine xw_istore dG_takesRows_55 (Nat.le_of_ble_eq_true rfl) ?_
              refine xw_Ln (L' := [some (.ref 1013), some (.int l1), some (.int (l2 + 1)), some (.int l3), some (.int 1), some (.int 1)]) rfl ?_
              refine xw_iload dG_takesRows_57 rfl ?_
              refine xw_if_eq 78 dG_takesRows_59 (by decide) (fun q => absurd q (by decide)) (fun _ => ?_)
              refine xw_aload_n dG_takesRows_62 rfl ?_
              refine xw_bipush (59) dG_takesRows_63 (by decide) ?_
              obtain ⟨r275, er275, hF⟩ := xg_b hF
              refine xg_V1 (k1 := 0) (n1 := 0) (CG_takes er275) rfl rfl rfl dG_takesRows_65 (kG_22 _) ⟨Nat.le_of_ble_eq_true rfl, Nat.le_of_ble_eq_true rfl⟩ rfl rfl rfl rfl (Nat.le_of_ble_eq_true rfl) (Nat.le_of_ble_eq_true rfl) (Nat.le_of_ble_eq_true rfl) (Nat.le_of_ble_eq_true rfl) (Nat.le_of_ble_eq_true rfl) ?_
              refine xw_if_eqB 78 dG_takesRows_68 (by decide) (fun c276 => ?_) (fun c276 => ?_)
              · replace hF := xg_f c276 hF
                refine xw_iload dG_takesRows_78 rfl ?_
                refine xw_if_eq 92 dG_takesRows_80 (by decide) (fun q => absurd q (by decide)) (fun _ => ?_)
                refine xw_aload_n dG_takesRows_83 rfl ?_
                refine xw_bipush (44) dG_takesRows_84 (by decide) ?_
                obtain ⟨r278, er278, hF⟩ := xg_b hF
                refine xg_V1 (k1 := 0) (n1 := 0) (CG_takes er278) rfl rfl rfl dG_takesRows_86 (kG_22 _) ⟨Nat.le_of_ble_eq_true rfl, Nat.le_of_ble_eq_true rfl⟩ rfl rfl rfl rfl (Nat.le_of_ble_eq_true rfl) (Nat.le_of_ble_eq_true rfl) (Nat.le_of_ble_eq_true rfl) (Nat.le_of_ble_eq_true rfl) (Nat.le_of_ble_eq_true rfl) ?_
                refine xw_if_neB 95 dG_takesRows_89 (by decide) (fun c279 => ?_) (fun c279 => ?_)
                · replace hF := xg_t c279 hF
                  refine xw_iinc ((l3 + 1)) dG_takesRows_95 rfl rfl (Nat.le_of_ble_eq_true rfl) ?_
                  refine xw_Ln (L' := [some (.ref 1013), some (.int l1), some (.int (l2 + 1)), some (.int (l3 + 1)), some (.int 1), some (.int 1)]) rfl ?_
                  refine xw_goto 6 dG_takesRows_98 (by decide) ?_
                  refine xw_drop (L' := [some (.ref 1013), some (.int l1), some (.int (l2 + 1)), some (.int (l3 + 1)), none, none]) ⟨rfl, ⟨rfl, ⟨rfl, ⟨rfl, trivial⟩⟩⟩⟩ ?_
                  exact ih hF
                · replace hF := xg_f c279 hF
                  refine xw_iload dG_takesRows_92 rfl ?_
                  obtain rfl := Option.some.inj hF
                  exact xw_ireturn dG_takesRows_94 rfl (xb_nar true) (Nat.le_of_ble_eq_true rfl) (Nat.le_of_ble_eq_true rfl) ⟨rfl, rfl⟩
              · replace hF := xg_t c276 hF
                refine xw_iload_n dG_takesRows_71 rfl ?_
                refine xw_istore_n dG_takesRows_72 (Nat.le_of_ble_eq_true rfl) ?_
                refine xw_Ln (L' := [some (.ref 1013), some (.int (l2 + 1)), some (.int (l2 + 1)), some (.int l3), some (.int 1), some (.int 1)]) rfl ?_
                refine xw_iconst (0) dG_takesRows_73 (by decide) ?_
                refine xw_istore_n dG_takesRows_74 (Nat.le_of_ble_eq_true rfl) ?_
                refine xw_Ln (L' := [some (.ref 1013), some (.int (l2 + 1)), some (.int 0), some (.int l3), some (.int 1), some (.int 1)]) rfl ?_
                refine xw_goto 95 dG_takesRows_75 (by decide) ?_
                refine xw_iinc ((l3 + 1)) dG_takesRows_95 rfl rfl (Nat.le_of_ble_eq_true rfl) ?_
                refine xw_Ln (L' := [some (.ref 1013), some (.int (l2 + 1)), some (.int 0), some (.int (l3 + 1)), some (.int 1), some (.int 1)]) rfl ?_
                refine xw_goto 6 dG_takesRows_98 (by decide) ?_
                refine xw_drop (L' := [some (.ref 1013), some (.int (l2 + 1)), some (.int 0), some (.int (l3 + 1)), none, none]) ⟨rfl, ⟨rfl, ⟨rfl, ⟨rfl, trivial⟩⟩⟩⟩ ?_
                exact ih hF
        · replace hF := xg_f c261 hF
          refine xw_iload_n dG_takesRows_29 rfl ?_
          refine xw_iload_n dG_takesRows_30 rfl ?_
          refine xw_icmp_ge 38 dG_takesRows_31 (by decide) (fun c280 => ?_) (fun c280 => ?_)
          · replace hF := xg_t c280 hF
            refine xw_iconst (0) dG_takesRows_38 (by decide) ?_
            refine xw_istore dG_takesRows_39 (Nat.le_of_ble_eq_true rfl) ?_
            refine xw_Ln (L' := [some (.ref 1013), some (.int l1), some (.int (l2 + 1)), some (.int l3), some (.int 0), none]) rfl ?_
            refine xw_iload_n dG_takesRows_41 rfl ?_
            refine xw_if_eq 50 dG_takesRows_42 (by decide) (fun c281 => ?_) (fun c281 => ?_)
            · replace hF := xg_t c281 hF
              refine xw_iconst (1) dG_takesRows_50 (by decide) ?_
              refine xw_goto 55 dG_takesRows_51 (by decide) ?_
              refine xw_istore dG_takesRows_55 (Nat.le_of_ble_eq_true rfl) ?_
              refine xw_Ln (L' := [some (.ref 1013), some (.int l1), some (.int (l2 + 1)), some (.int l3), some (.int 0), some (.int 1)]) rfl ?_
              refine xw_iload dG_takesRows_57 rfl ?_
              refine xw_if_eq 78 dG_takesRows_59 (by decide) (fun q => absurd q (by decide)) (fun _ => ?_)
              refine xw_aload_n dG_takesRows_62 rfl ?_
              refine xw_bipush (59) dG_takesRows_63 (by decide) ?_
              obtain ⟨r283, er283, hF⟩ := xg_b hF
              refine xg_V1 (k1 := 0) (n1 := 0) (CG_takes er283) rfl rfl rfl dG_takesRows_65 (kG_22 _) ⟨Nat.le_of_ble_eq_true rfl, Nat.le_of_ble_eq_true rfl⟩ rfl rfl rfl rfl (Nat.le_of_ble_eq_true rfl) (Nat.le_of_ble_eq_true rfl) (Nat.le_of_ble_eq_true rfl) (Nat.le_of_ble_eq_true rfl) (Nat.le_of_ble_eq_true rfl) ?_
              refine xw_if_eqB 78 dG_takesRows_68 (by decide) (fun c284 => ?_) (fun c284 => ?_)
              · replace hF := xg_f c284 hF
                refine xw_iload dG_takesRows_78 rfl ?_
                refine xw_if_eq 92 dG_takesRows_80 (by decide) (fun _ => ?_) (fun q => absurd q (by decide))
                refine xw_iload dG_takesRows_92 rfl ?_
                obtain rfl := Option.some.inj hF
                exact xw_ireturn dG_takesRows_94 rfl (xb_nar true) (Nat.le_of_ble_eq_true rfl) (Nat.le_of_ble_eq_true rfl) ⟨rfl, rfl⟩
              · replace hF := xg_t c284 hF
                refine xw_iload_n dG_takesRows_71 rfl ?_
                refine xw_istore_n dG_takesRows_72 (Nat.le_of_ble_eq_true rfl) ?_
                refine xw_Ln (L' := [some (.ref 1013), some (.int (l2 + 1)), some (.int (l2 + 1)), some (.int l3), some (.int 0), some (.int 1)]) rfl ?_
                refine xw_iconst (0) dG_takesRows_73 (by decide) ?_
                refine xw_istore_n dG_takesRows_74 (Nat.le_of_ble_eq_true rfl) ?_
                refine xw_Ln (L' := [some (.ref 1013), some (.int (l2 + 1)), some (.int 0), some (.int l3), some (.int 0), some (.int 1)]) rfl ?_
                refine xw_goto 95 dG_takesRows_75 (by decide) ?_
                refine xw_iinc ((l3 + 1)) dG_takesRows_95 rfl rfl (Nat.le_of_ble_eq_true rfl) ?_
                refine xw_Ln (L' := [some (.ref 1013), some (.int (l2 + 1)), some (.int 0), some (.int (l3 + 1)), some (.int 0), some (.int 1)]) rfl ?_
                refine xw_goto 6 dG_takesRows_98 (by decide) ?_
                refine xw_drop (L' := [some (.ref 1013), some (.int (l2 + 1)), some (.int 0), some (.int (l3 + 1)), none, none]) ⟨rfl, ⟨rfl, ⟨rfl, ⟨rfl, trivial⟩⟩⟩⟩ ?_
                exact ih hF
            · replace hF := xg_f c281 hF
              refine xw_iload_n dG_takesRows_45 rfl ?_
              refine xw_iload_n dG_takesRows_46 rfl ?_
              refine xw_icmp_ne 54 dG_takesRows_47 (by decide) (fun c286 => ?_) (fun c286 => ?_)
              · replace hF := xg_f c286 hF
                refine xw_iconst (0) dG_takesRows_54 (by decide) ?_
                refine xw_istore dG_takesRows_55 (Nat.le_of_ble_eq_true rfl) ?_
                refine xw_Ln (L' := [some (.ref 1013), some (.int l1), some (.int (l2 + 1)), some (.int l3), some (.int 0), some (.int 0)]) rfl ?_
                refine xw_iload dG_takesRows_57 rfl ?_
                refine xw_if_eq 78 dG_takesRows_59 (by decide) (fun _ => ?_) (fun q => absurd q (by decide))
                refine xw_iload dG_takesRows_78 rfl ?_
                refine xw_if_eq 92 dG_takesRows_80 (by decide) (fun _ => ?_) (fun q => absurd q (by decide))
                refine xw_iload dG_takesRows_92 rfl ?_
                obtain rfl := Option.some.inj hF
                exact xw_ireturn dG_takesRows_94 rfl (xb_nar false) (Nat.le_of_ble_eq_true rfl) (Nat.le_of_ble_eq_true rfl) ⟨rfl, rfl⟩
              · replace hF := xg_t c286 hF
                refine xw_iconst (1) dG_takesRows_50 (by decide) ?_
                refine xw_goto 55 dG_takesRows_51 (by decide) ?_
                refine xw_istore dG_takesRows_55 (Nat.le_of_ble_eq_true rfl) ?_
                refine xw_Ln (L' := [some (.ref 1013), some (.int l1), some (.int (l2 + 1)), some (.int l3), some (.int 0), some (.int 1)]) rfl ?_
                refine xw_iload dG_takesRows_57 rfl ?_
                refine xw_if_eq 78 dG_takesRows_59 (by decide) (fun q => absurd q (by decide)) (fun _ => ?_)
                refine xw_aload_n dG_takesRows_62 rfl ?_
                refine xw_bipush (59) dG_takesRows_63 (by decide) ?_
                obtain ⟨r290, er290, hF⟩ := xg_b hF
                refine xg_V1 (k1 := 0) (n1 := 0) (CG_takes er290) rfl rfl rfl dG_takesRows_65 (kG_22 _) ⟨Nat.le_of_ble_eq_true rfl, Nat.le_of_ble_eq_true rfl⟩ rfl rfl rfl rfl (Nat.le_of_ble_eq_true rfl) (Nat.le_of_ble_eq_true rfl) (Nat.le_of_ble_eq_true rfl) (Nat.le_of_ble_eq_true rfl) (Nat.le_of_ble_eq_true rfl) ?_
                refine xw_if_eqB 78 dG_takesRows_68 (by decide) (fun c291 => ?_) (fun c291 => ?_)
                · replace hF := xg_f c291 hF
                  refine xw_iload dG_takesRows_78 rfl ?_
                  refine xw_if_eq 92 dG_takesRows_80 (by decide) (fun _ => ?_) (fun q => absurd q (by decide))
                  refine xw_iload dG_takesRows_92 rfl ?_
                  obtain rfl := Option.some.inj hF
                  exact xw_ireturn dG_takesRows_94 rfl (xb_nar true) (Nat.le_of_ble_eq_true rfl) (Nat.le_of_ble_eq_true rfl) ⟨rfl, rfl⟩
                · replace hF := xg_t c291 hF
                  refine xw_iload_n dG_takesRows_71 rfl ?_
                  refine xw_istore_n dG_takesRows_72 (Nat.le_of_ble_eq_true rfl) ?_
                  refine xw_Ln (L' := [some (.ref 1013), some (.int (l2 + 1)), some (.int (l2 + 1)), some (.int l3), some (.int 0), some (.int 1)]) rfl ?_
                  refine xw_iconst (0) dG_takesRows_73 (by decide) ?_
                  refine xw_istore_n dG_takesRows_74 (Nat.le_of_ble_eq_true rfl) ?_
                  refine xw_Ln (L' := [some (.ref 1013), some (.int (l2 + 1)), some (.int 0), some (.int l3), some (.int 0), some (.int 1)]) rfl ?_
                  refine xw_goto 95 dG_takesRows_75 (by decide) ?_
                  refine xw_iinc ((l3 + 1)) dG_takesRows_95 rfl rfl (Nat.le_of_ble_eq_true rfl) ?_
                  refine xw_Ln (L' := [some (.ref 1013), some (.int (l2 + 1)), some (.int 0), some (.int (l3 + 1)), some (.int 0), some (.int 1)]) rfl ?_
                  refine xw_goto 6 dG_takesRows_98 (by decide) ?_
                  refine xw_drop (L' := [some (.ref 1013), some (.int (l2 + 1)), some (.int 0), some (.int (l3 + 1)), none, none]) ⟨rfl, ⟨rfl, ⟨rfl, ⟨rfl, trivial⟩⟩⟩⟩ ?_
                  exact ih hF
          · replace hF := xg_f c280 hF
            refine xw_iconst (1) dG_takesRows_34 (by decide) ?_
            refine xw_goto 39 dG_takesRows_35 (by decide) ?_
            refine xw_istore dG_takesRows_39 (Nat.le_of_ble_eq_true rfl) ?_
            refine xw_Ln (L' := [some (.ref 1013), some (.int l1), some (.int (l2 + 1)), some (.int l3), some (.int 1), none]) rfl ?_
            refine xw_iload_n dG_takesRows_41 rfl ?_
            refine xw_if_eq 50 dG_takesRows_42 (by decide) (fun c293 => ?_) (fun c293 => ?_)
            · replace hF := xg_t c293 hF
              refine xw_iconst (1) dG_takesRows_50 (by decide) ?_
              refine xw_goto 55 dG_takesRows_51 (by decide) ?_
              refine xw_istore dG_takesRows_55 (Nat.le_of_ble_eq_true rfl) ?_
              refine xw_Ln (L' := [some (.ref 1013), some (.int l1), some (.int (l2 + 1)), some (.int l3), some (.int 1), some (.int 1)]) rfl ?_
              refine xw_iload dG_takesRows_57 rfl ?_
              refine xw_if_eq 78 dG_takesRows_59 (by decide) (fun q => absurd q (by decide)) (fun _ => ?_)
              refine xw_aload_n dG_takesRows_62 rfl ?_
              refine xw_bipush (59) dG_takesRows_63 (by decide) ?_
              obtain ⟨r295, er295, hF⟩ := xg_b hF
              refine xg_V1 (k1 := 0) (n1 := 0) (CG_takes er295) rfl rfl rfl dG_takesRows_65 (kG_22 _) ⟨Nat.le_of_ble_eq_true rfl, Nat.le_of_ble_eq_true rfl⟩ rfl rfl rfl rfl (Nat.le_of_ble_eq_true rfl) (Nat.le_of_ble_eq_true rfl) (Nat.le_of_ble_eq_true rfl) (Nat.le_of_ble_eq_true rfl) (Nat.le_of_ble_eq_true rfl) ?_
              refine xw_if_eqB 78 dG_takesRows_68 (by decide) (fun c296 => ?_) (fun c296 => ?_)
              · replace hF := xg_f c296 hF
                refine xw_iload dG_takesRows_78 rfl ?_
                refine xw_if_eq 92 dG_takesRows_80 (by decide) (fun q => absurd q (by decide)) (fun _ => ?_)
                refine xw_aload_n dG_takesRows_83 rfl ?_
                refine xw_bipush (44) dG_takesRows_84 (by decide) ?_
                obtain ⟨r298, er298, hF⟩ := xg_b hF
                refine xg_V1 (k1 := 0) (n1 := 0) (CG_takes er298) rfl rfl rfl dG_takesRows_86 (kG_22 _) ⟨Nat.le_of_ble_eq_true rfl, Nat.le_of_ble_eq_true rfl⟩ rfl rfl rfl rfl (Nat.le_of_ble_eq_true rfl) (Nat.le_of_ble_eq_true rfl) (Nat.le_of_ble_eq_true rfl) (Nat.le_of_ble_eq_true rfl) (Nat.le_of_ble_eq_true rfl) ?_
                refine xw_if_neB 95 dG_takesRows_89 (by decide) (fun c299 => ?_) (fun c299 => ?_)
                · replace hF := xg_t c299 hF
                  refine xw_iinc ((l3 + 1)) dG_takesRows_95 rfl rfl (Nat.le_of_ble_eq_true rfl) ?_
                  refine xw_Ln (L' := [some (.ref 1013), some (.int l1), some (.int (l2 + 1)), some (.int (l3 + 1)), some (.int 1), some (.int 1)]) rfl ?_
                  refine xw_goto 6 dG_takesRows_98 (by decide) ?_
                  refine xw_drop (L' := [some (.ref 1013), some (.int l1), some (.int (l2 + 1)), some (.int (l3 + 1)), none, none]) ⟨rfl, ⟨rfl, ⟨rfl, ⟨rfl, trivial⟩⟩⟩⟩ ?_
                  exact ih hF
                · replace hF := xg_f c299 hF
                  refine xw_iload dG_takesRows_92 rfl ?_
                  obtain rfl := Option.some.inj hF
                  exact xw_ireturn dG_takesRows_94 rfl (xb_nar true) (Nat.le_of_ble_eq_true rfl) (Nat.le_of_ble_eq_true rfl) ⟨rfl, rfl⟩
              · replace hF := xg_t c296 hF
                refine xw_iload_n dG_takesRows_71 rfl ?_
                refine xw_istore_n dG_takesRows_72 (Nat.le_of_ble_eq_true rfl) ?_
                refine xw_Ln (L' := [some (.ref 1013), some (.int (l2 + 1)), some (.int (l2 + 1)), some (.int l3), some (.int 1), some (.int 1)]) rfl ?_
                refine xw_iconst (0) dG_takesRows_73 (by decide) ?_
                refine xw_istore_n dG_takesRows_74 (Nat.le_of_ble_eq_true rfl) ?_
                refine xw_Ln (L' := [some (.ref 1013), some (.int (l2 + 1)), some (.int 0), some (.int l3), some (.int 1), some (.int 1)]) rfl ?_
                refine xw_goto 95 dG_takesRows_75 (by decide) ?_
                refine xw_iinc ((l3 + 1)) dG_takesRows_95 rfl rfl (Nat.le_of_ble_eq_true rfl) ?_
                refine xw_Ln (L' := [some (.ref 1013), some (.int (l2 + 1)), some (.int 0), some (.int (l3 + 1)), some (.int 1), some (.int 1)]) rfl ?_
                refine xw_goto 6 dG_takesRows_98 (by decide) ?_
                refine xw_drop (L' := [some (.ref 1013), some (.int (l2 + 1)), some (.int 0), some (.int (l3 + 1)), none, none]) ⟨rfl, ⟨rfl, ⟨rfl, ⟨rfl, trivial⟩⟩⟩⟩ ?_
                exact ih hF
            · replace hF := xg_f c293 hF
              refine xw_iload_n dG_takesRows_45 rfl ?_
              refine xw_iload_n dG_takesRows_46 rfl ?_
              refine xw_icmp_ne 54 dG_takesRows_47 (by decide) (fun c300 => ?_) (fun c300 => ?_)
              · replace hF := xg_f c300 hF
                refine xw_iconst (0) dG_takesRows_54 (by decide) ?_
                refine xw_istore dG_takesRows_55 (Nat.le_of_ble_eq_true rfl) ?_
                refine xw_Ln (L' := [some (.ref 1013), some (.int l1), some (.int (l2 + 1)), some (.int l3), some (.int 1), some (.int 0)]) rfl ?_
                refine xw_iload dG_takesRows_57 rfl ?_
                refine xw_if_eq 78 dG_takesRows_59 (by decide) (fun _ => ?_) (fun q => absurd q (by decide))
                refine xw_iload dG_takesRows_78 rfl ?_
                refine xw_if_eq 92 dG_takesRows_80 (by decide) (fun q => absurd q (by decide)) (fun _ => ?_)
                refine xw_aload_n dG_takesRows_83 rfl ?_
                refine xw_bipush (44) dG_takesRows_84 (by decide) ?_
                obtain ⟨r303, er303, hF⟩ := xg_b hF
                refine xg_V1 (k1 := 0) (n1 := 0) (CG_takes er303) rfl rfl rfl dG_takesRows_86 (kG_22 _) ⟨Nat.le_of_ble_eq_true rfl, Nat.le_of_ble_eq_true rfl⟩ rfl rfl rfl rfl (Nat.le_of_ble_eq_true rfl) (Nat.le_of_ble_eq_true rfl) (Nat.le_of_ble_eq_true rfl) (Nat.le_of_ble_eq_true rfl) (Nat.le_of_ble_eq_true rfl) ?_
                refine xw_if_neB 95 dG_takesRows_89 (by decide) (fun c304 => ?_) (fun c304 => ?_)
                · replace hF := xg_t c304 hF
                  refine xw_iinc ((l3 + 1)) dG_takesRows_95 rfl rfl (Nat.le_of_ble_eq_true rfl) ?_
                  refine xw_Ln (L' := [some (.ref 1013), some (.int l1), some (.int (l2 + 1)), some (.int (l3 + 1)), some (.int 1), some (.int 0)]) rfl ?_
                  refine xw_goto 6 dG_takesRows_98 (by decide) ?_
                  refine xw_drop (L' := [some (.ref 1013), some (.int l1), some (.int (l2 + 1)), some (.int (l3 + 1)), none, none]) ⟨rfl, ⟨rfl, ⟨rfl, ⟨rfl, trivial⟩⟩⟩⟩ ?_
                  exact ih hF
                · replace hF := xg_f c304 hF
                  refine xw_iload dG_takesRows_92 rfl ?_
                  obtain rfl := Option.some.inj hF
                  exact xw_ireturn dG_takesRows_94 rfl (xb_nar false) (Nat.le_of_ble_eq_true rfl) (Nat.le_of_ble_eq_true rfl) ⟨rfl, rfl⟩
              · replace hF := xg_t c300 hF
                refine xw_iconst (1) dG_takesRows_50 (by decide) ?_
                refine xw_goto 55 dG_takesRows_51 (by decide) ?_
                refine xw_istore dG_takesRows_55 (Nat.le_of_ble_eq_true rfl) ?_
                refine xw_Ln (L' := [some (.ref 1013), some (.int l1), some (.int (l2 + 1)), some (.int l3), some (.int 1), some (.int 1)]) rfl ?_
                refine xw_iload dG_takesRows_57 rfl ?_
                refine xw_if_eq 78 dG_takesRows_59 (by decide) (fun q => absurd q (by decide)) (fun _ => ?_)
                refine xw_aload_n dG_takesRows_62 rfl ?_
                refine xw_bipush (59) dG_takesRows_63 (by decide) ?_
                obtain ⟨r306, er306, hF⟩ := xg_b hF
                refine xg_V1 (k1 := 0) (n1 := 0) (CG_takes er306) rfl rfl rfl dG_takesRows_65 (kG_22 _) ⟨Nat.le_of_ble_eq_true rfl, Nat.le_of_ble_eq_true rfl⟩ rfl rfl rfl rfl (Nat.le_of_ble_eq_true rfl) (Nat.le_of_ble_eq_true rfl) (Nat.le_of_ble_eq_true rfl) (Nat.le_of_ble_eq_true rfl) (Nat.le_of_ble_eq_true rfl) ?_
                refine xw_if_eqB 78 dG_takesRows_68 (by decide) (fun c307 => ?_) (fun c307 => ?_)
                · replace hF := xg_f c307 hF
                  refine xw_iload dG_takesRows_78 rfl ?_
                  refine xw_if_eq 92 dG_takesRows_80 (by decide) (fun q => absurd q (by decide)) (fun _ => ?_)
                  refine xw_aload_n dG_takesRows_83 rfl ?_
                  refine xw_bipush (44) dG_takesRows_84 (by decide) ?_
                  obtain ⟨r309, er309, hF⟩ := xg_b hF
                  refine xg_V1 (k1 := 0) (n1 := 0) (CG_takes er309) rfl rfl rfl dG_takesRows_86 (kG_22 _) ⟨Nat.le_of_ble_eq_true rfl, Nat.le_of_ble_eq_true rfl⟩ rfl rfl rfl rfl (Nat.le_of_ble_eq_true rfl) (Nat.le_of_ble_eq_true rfl) (Nat.le_of_ble_eq_true rfl) (Nat.le_of_ble_eq_true rfl) (Nat.le_of_ble_eq_true rfl) ?_
                  refine xw_if_neB 95 dG_takesRows_89 (by decide) (fun c310 => ?_) (fun c310 => ?_)
                  · replace hF := xg_t c310 hF
                    refine xw_iinc ((l3 + 1)) dG_takesRows_95 rfl rfl (Nat.le_of_ble_eq_true rfl) ?_
                    refine xw_Ln (L' := [some (.ref 1013), some (.int l1), some (.int (l2 + 1)), some (.int (l3 + 1)), some (.int 1), some (.int 1)]) rfl ?_
                    refine xw_goto 6 dG_takesRows_98 (by decide) ?_
                    refine xw_drop (L' := [some (.ref 1013), some (.int l1), some (.int (l2 + 1)), some (.int (l3 + 1)), none, none]) ⟨rfl, ⟨rfl, ⟨rfl, ⟨rfl, trivial⟩⟩⟩⟩ ?_
                    exact ih hF
                  · replace hF := xg_f c310 hF
                    refine xw_iload dG_takesRows_92 rfl ?_
                    obtain rfl := Option.some.inj hF
                    exact xw_ireturn dG_takesRows_94 rfl (xb_nar true) (Nat.le_of_ble_eq_true rfl) (Nat.le_of_ble_eq_true rfl) ⟨rfl, rfl⟩
                · replace hF := xg_t c307 hF
                  refine xw_iload_n dG_takesRows_71 rfl ?_
                  refine xw_istore_n dG_takesRows_72 (Nat.le_of_ble_eq_true rfl) ?_
                  refine xw_Ln (L' := [some (.ref 1013), some (.int (l2 + 1)), some (.int (l2 + 1)), some (.int l3), some (.int 1), some (.int 1)]) rfl ?_
                  refine xw_iconst (0) dG_takesRows_73 (by decide) ?_
                  refine xw_istore_n dG_takesRows_74 (Nat.le_of_ble_eq_true rfl) ?_
                  refine xw_Ln (L' := [some (.ref 1013), some (.int (l2 + 1)), some (.int 0), some (.int l3), some (.int 1), some (.int 1)]) rfl ?_
                  refine xw_goto 95 dG_takesRows_75 (by decide) ?_
                  refine xw_iinc ((l3 + 1)) dG_takesRows_95 rfl rfl (Nat.le_of_ble_eq_true rfl) ?_
                  refine xw_Ln (L' := [some (.ref 1013), some (.int (l2 + 1)), some (.int 0), some (.int (l3 + 1)), some (.int 1), some (.int 1)]) rfl ?_
                  refine xw_goto 6 dG_takesRows_98 (by decide) ?_
                  refine xw_drop (L' := [some (.ref 1013), some (.int (l2 + 1)), some (.int 0), some (.int (l3 + 1)), none, none]) ⟨rfl, ⟨rfl, ⟨rfl, ⟨rfl, trivial⟩⟩⟩⟩ ?_
                  exact ih hF
      · replace hF := xg_f c260 hF
        refine xw_iconst (0) dG_takesRows_20 (by decide) ?_
        obtain rfl := Option.some.inj hF
        exact xw_ireturn dG_takesRows_21 rfl (xb_nar false) (Nat.le_of_ble_eq_true rfl) (Nat.le_of_ble_eq_true rfl) ⟨rfl, rfl⟩
set_option maxRecDepth 20000 in
theorem CG_takesRows {w : xw_G} {h : xw_H}  {t : xTs}  {s : xGs} {out : (Bool × xGs)} (hF : FG_takesRows t  s = some out) : xw_C w (mG_takesRows { frames := 4, cells := 0, slots := 0, locals := 83 }) (xw_R (some (.int (xb out.1))) (vG t out.2 h)) [.ref 1013] (vG t s h) := by
  unfold FG_takesRows at hF
  refine xw_enter rfl (show plainName "FormulaShaper$Grammar" = true by decide +kernel) (Nat.le_of_ble_eq_true rfl) ?_
  refine xw_iconst (0) dG_takesRows_0 (by decide) ?_
  refine xw_istore_n dG_takesRows_1 (Nat.le_of_ble_eq_true rfl) ?_
  refine xw_Ln (L' := [some (.ref 1013), some (.int 0), none, none, none, none]) rfl ?_
  refine xw_iconst (0) dG_takesRows_2 (by decide) ?_
  refine xw_istore_n dG_takesRows_3 (Nat.le_of_ble_eq_true rfl) ?_
  refine xw_Ln (L' := [some (.ref 1013), some (.int 0), some (.int 0), none, none, none]) rfl ?_
  refine xw_iconst (0) dG_takesRows_4 (by decide) ?_
  refine xw_istore_n dG_takesRows_5 (Nat.le_of_ble_eq_true rfl) ?_
  refine xw_Ln (L' := [some (.ref 1013), some (.int 0), some (.int 0), some (.int 0), none, none]) rfl ?_
  exact CG_takesRows_6 xFuel hF
/-- what the methods of the Grammar that call each other mean, to a depth -/
abbrev xGf : Type := (xTs → xGs → Option (Bool × xGs)) × (xTs → xGs → Option (Bool × xGs)) × (xTs → xGs → Option (Bool × xGs)) × (xTs → xGs → Option (Bool × xGs)) × (xTs → Nat → xGs → Option (Bool × xGs)) × (xTs → Int32 → Int32 → xGs → Option (Bool × xGs)) × (xTs → xGs → Option (Bool × xGs))
abbrev xRG (d : Nat) : Room := { frames := d + 20, cells := 0, slots := 0, locals := 60 * d + 400 }
theorem xRG_fit {μ : xw_M} {d : Nat} (h : μ.2.2.2.2.1 = xRG d) (h2 : μ.2.2.1 ≤ 20) : xw_fit (xRG (d + 1)) μ := by
  unfold xw_fit
  rw [h]
  exact ⟨by show d + 20 + 1 ≤ d + 1 + 20; omega, by show 8 + (μ.2.2.1 + 11) + (60 * d + 400) ≤ 60 * (d + 1) + 400; omega⟩
theorem xRG_fit0 {μ : xw_M} {d : Nat} (h : μ.2.2.2.2.1.frames + 1 ≤ 20) (h2 : 8 + (μ.2.2.1 + 11) + μ.2.2.2.2.1.locals ≤ 400) : xw_fit (xRG d) μ := ⟨by show _ ≤ d + 20; omega, by show _ ≤ 60 * d + 400; omega⟩
def xGok (w : xw_G) (p : xGf) (d : Nat) : Prop := (∀ {h : xw_H} {t : xTs} {s : xGs} {out : Bool × xGs}, p.1 t  s = some out → xw_C w (mG_takesExpression (xRG d)) (xw_R (some (.int (xb out.1))) (vG t out.2 h)) [.ref 1013] (vG t s h)) ∧ (∀ {h : xw_H} {t : xTs} {s : xGs} {out : Bool × xGs}, p.2.1 t  s = some out → xw_C w (mG_takesOperand (xRG d)) (xw_R (some (.int (xb out.1))) (vG t out.2 h)) [.ref 1013] (vG t s h)) ∧ (∀ {h : xw_H} {t : xTs} {s : xGs} {out : Bool × xGs}, p.2.2.1 t  s = some out → xw_C w (mG_takesAtom (xRG d)) (xw_R (some (.int (xb out.1))) (vG t out.2 h)) [.ref 1013] (vG t s h)) ∧ (∀ {h : xw_H} {t : xTs} {s : xGs} {out : Bool × xGs}, p.2.2.2.1 t  s = some out → xw_C w (mG_takesName (xRG d)) (xw_R (some (.int (xb out.1))) (vG t out.2 h)) [.ref 1013] (vG t s h)) ∧ (∀ {h : xw_H} {t : xTs} {x0 : Nat} {s : xGs} {out : Bool × xGs}, p.2.2.2.2.1 t x0 s = some out → xw_C w (mG_takesCall (xRG d)) (xw_R (some (.int (xb out.1))) (vG t out.2 h)) [.ref 1013, .ref (100 + x0)] (vG t s h)) ∧ (∀ {h : xw_H} {t : xTs} {x0 : Int32} {x1 : Int32} {s : xGs} {out : Bool × xGs}, p.2.2.2.2.2.1 t x0 x1 s = some out → xw_C w (mG_takesList (xRG d)) (xw_R (some (.int (xb out.1))) (vG t out.2 h)) [.ref 1013, .int x0, .int x1] (vG t s h)) ∧ (∀ {h : xw_H} {t : xTs} {s : xGs} {out : Bool × xGs}, p.2.2.2.2.2.2 t  s = some out → xw_C w (mG_takesBindings (xRG d)) (xw_R (some (.int (xb out.1))) (vG t out.2 h)) [.ref 1013] (vG t s h))
def FG_takesExpression_7 (p : xGf) (t : xTs) : Nat → Bool → Int32 → xGs → Option (Bool × xGs)
  | 0, _, _, _ => none
  | fu + 1, l1, l2, s => if 2000 ≤ l2 then (some (l1, s)) else (if l1 = true then ((FG_nextIsOneOf t 11 s).bind fun r314 => if r314 = true then ((p.2.1 t ((s.1 + 1), s.2)).bind fun r316 => FG_takesExpression_7 p t fu r316.1 (l2 + 1) r316.2) else (some (l1, s))) else (some (l1, s)))
/-- FormulaShaper$Grammar.takesExpression -/
def FG_takesExpression (p : xGf) (t : xTs)  (s : xGs) : Option (Bool × xGs) := (p.2.1 t s).bind fun r311 => FG_takesExpression_7 p t xFuel r311.1 0 r311.2
set_option maxRecDepth 20000 in
theorem CG_takesExpression_7 {w : xw_G} {p : xGf} {d : Nat} (hp : xGok w p d) {h : xw_H}  {t : xTs} : ∀ (fu : Nat) {l1 : Bool} {l2 : Int32} {s : xGs} {out : (Bool × xGs)} {h0 : xw_H}, FG_takesExpression_7 p t fu l1 l2 s = some out → xw_X w (mG_takesExpression (xRG (d + 1))) (xw_R (some (.int (xb out.1))) (vG t out.2 h)) h0 0 0 7 [some (.ref 1013), some (.int (xb l1)), some (.int l2)] [] (vG t s h) := by
  intro fu
  induction fu with
  | zero =>
    intro l1 l2 s out h0 hF
    rw [FG_takesExpression_7] at hF
    cases hF
  | succ fu ih =>
    intro l1 l2 s out h0 hF
    rw [FG_takesExpression_7] at hF
    refine xw_iload_n dG_takesExpression_7 rfl ?_
    refine xw_sipush (2000) dG_takesExpression_8 (by decide) ?_
    refine xw_icmp_ge 48 dG_takesExpression_11 (by decide) (fun c312 => ?_) (fun c312 => ?_)
    · replace hF := xg_t c312 hF
      refine xw_iload_n dG_takesExpression_48 rfl ?_
      obtain rfl := Option.some.inj hF
      exact xw_ireturn dG_takesExpression_49 rfl (xb_nar l1) (Nat.le_of_ble_eq_true rfl) (Nat.le_of_ble_eq_true rfl) ⟨rfl, rfl⟩
    · replace hF := xg_f c312 hF
      refine xw_iload_n dG_takesExpression_14 rfl ?_
      refine xw_if_eqB 48 dG_takesExpression_15 (by decide) (fun c313 => ?_) (fun c313 => ?_)
      · replace hF := xg_f c313 hF
        refine xw_iload_n dG_takesExpression_48 rfl ?_
        obtain rfl := Option.some.inj hF
        exact xw_ireturn dG_takesExpression_49 rfl (xb_nar l1) (Nat.le_of_ble_eq_true rfl) (Nat.le_of_ble_eq_true rfl) ⟨rfl, rfl⟩
      · replace hF := xg_t c313 hF
        refine xw_aload_n dG_takesExpression_18 rfl ?_
        refine xw_ldcS 11 dG_takesExpression_19 (List.mem_of_getElem? (i := 11) rfl) (by decide) ?_
        obtain ⟨r314, er314, hF⟩ := xg_b hF
        refine xg_V1 (k1 := 0) (n1 := 0) (CG_nextIsOneOf er314) rfl rfl rfl dG_takesExpression_21 (kG_53 _) (xRG_fit0 (Nat.le_of_ble_eq_true rfl) (Nat.le_of_ble_eq_true rfl)) rfl rfl rfl rfl (Nat.le_of_ble_eq_true rfl) (Nat.le_of_ble_eq_true rfl) (Nat.le_of_ble_eq_true rfl) (Nat.le_of_ble_eq_true rfl) (Nat.le_of_ble_eq_true rfl) ?_
        refine xw_if_eqB 48 dG_takesExpression_24 (by decide) (fun c315 => ?_) (fun c315 => ?_)
        · replace hF := xg_f c315 hF
          refine xw_iload_n dG_takesExpression_48 rfl ?_
          obtain rfl := Option.some.inj hF
          exact xw_ireturn dG_takesExpression_49 rfl (xb_nar l1) (Nat.le_of_ble_eq_true rfl) (Nat.le_of_ble_eq_true rfl) ⟨rfl, rfl⟩
        · replace hF := xg_t c315 hF
          refine xw_aload_n dG_takesExpression_27 rfl ?_
          refine xw_dup_r dG_takesExpression_28 ?_
          refine xw_get dG_takesExpression_29 fG_15 rfl rfl ?_
          refine xw_iconst (1) dG_takesExpression_32 (by decide) ?_
          refine xw_iadd dG_takesExpression_33 ?_
          refine xg_put dG_takesExpression_34 fG_15 rfl (by decide) (Nat.le_of_ble_eq_true rfl) (fun _ => rfl) (fun _ => rfl) vG_p ?_
          refine xw_aload_n dG_takesExpression_37 rfl ?_
          obtain ⟨r316, er316, hF⟩ := xg_b hF
          refine xg_V1 (k1 := 0) (n1 := 0) (hp.2.1 er316) rfl rfl rfl dG_takesExpression_38 (kG_48 _) (xRG_fit rfl (Nat.le_of_ble_eq_true rfl)) rfl rfl rfl rfl (Nat.le_of_ble_eq_true rfl) (Nat.le_of_ble_eq_true rfl) (Nat.le_of_ble_eq_true rfl) (Nat.le_of_ble_eq_true rfl) (Nat.le_of_ble_eq_true rfl) ?_
          refine xw_istore_n dG_takesExpression_41 (Nat.le_of_ble_eq_true rfl) ?_
          refine xw_Ln (L' := [some (.ref 1013), some (.int (xb r316.1)), some (.int l2)]) rfl ?_
          refine xw_iinc ((l2 + 1)) dG_takesExpression_42 rfl rfl (Nat.le_of_ble_eq_true rfl) ?_
          refine xw_Ln (L' := [some (.ref 1013), some (.int (xb r316.1)), some (.int (l2 + 1))]) rfl ?_
          refine xw_goto 7 dG_takesExpression_45 (by decide) ?_
          exact ih hF
set_option maxRecDepth 20000 in
theorem CG_takesExpression {w : xw_G} {p : xGf} {d : Nat} (hp : xGok w p d) {h : xw_H}  {t : xTs}  {s : xGs} {out : (Bool × xGs)} (hF : FG_takesExpression p t  s = some out) : xw_C w (mG_takesExpression (xRG (d + 1))) (xw_R (some (.int (xb out.1))) (vG t out.2 h)) [.ref 1013] (vG t s h) := by
  unfold FG_takesExpression at hF
  refine xw_enter rfl (show plainName "FormulaShaper$Grammar" = true by decide +kernel) (Nat.le_of_ble_eq_true rfl) ?_
  refine xw_aload_n dG_takesExpression_0 rfl ?_
  obtain ⟨r311, er311, hF⟩ := xg_b hF
  refine xg_V1 (k1 := 0) (n1 := 0) (hp.2.1 er311) rfl rfl rfl dG_takesExpression_1 (kG_48 _) (xRG_fit rfl (Nat.le_of_ble_eq_true rfl)) rfl rfl rfl rfl (Nat.le_of_ble_eq_true rfl) (Nat.le_of_ble_eq_true rfl) (Nat.le_of_ble_eq_true rfl) (Nat.le_of_ble_eq_true rfl) (Nat.le_of_ble_eq_true rfl) ?_
  refine xw_istore_n dG_takesExpression_4 (Nat.le_of_ble_eq_true rfl) ?_
  refine xw_Ln (L' := [some (.ref 1013), some (.int (xb r311.1)), none]) rfl ?_
  refine xw_iconst (0) dG_takesExpression_5 (by decide) ?_
  refine xw_istore_n dG_takesExpression_6 (Nat.le_of_ble_eq_true rfl) ?_
  refine xw_Ln (L' := [some (.ref 1013), some (.int (xb r311.1)), some (.int 0)]) rfl ?_
  exact CG_takesExpression_7 (hp := hp) xFuel hF
def FG_takesOperand_13 (p : xGf) (t : xTs) : Nat → Bool → Int32 → xGs → Option (Bool × xGs)
  | 0, _, _, _ => none
  | fu + 1, l1, l2, s => if 2000 ≤ l2 then (if l1 = true then ((FG_skipAll t 13 s).bind fun r321 => some (l1, r321)) else (some (l1, s))) else (if l1 = true then ((FG_next t s).bind fun r325 => if r325 = 40 then ((p.2.2.2.2.1 t 9 s).bind fun r329 => FG_takesOperand_13 p t fu r329.1 (l2 + 1) r329.2) else (if l1 = true then ((FG_skipAll t 13 s).bind fun r328 => some (l1, r328)) else (some (l1, s)))) else (if l1 = true then ((FG_skipAll t 13 s).bind fun r324 => some (l1, r324)) else (some (l1, s))))
/-- FormulaShaper$Grammar.takesOperand -/
def FG_takesOperand (p : xGf) (t : xTs)  (s : xGs) : Option (Bool × xGs) := (FG_skipAll t 12 s).bind fun r317 => (p.2.2.1 t r317).bind fun r318 => FG_takesOperand_13 p t xFuel r318.1 0 r318.2
set_option maxRecDepth 20000 in
theorem CG_takesOperand_13 {w : xw_G} {p : xGf} {d : Nat} (hp : xGok w p d) {h : xw_H}  {t : xTs} : ∀ (fu : Nat) {l1 : Bool} {l2 : Int32} {s : xGs} {out : (Bool × xGs)} {h0 : xw_H}, FG_takesOperand_13 p t fu l1 l2 s = some out → xw_X w (mG_takesOperand (xRG (d + 1))) (xw_R (some (.int (xb out.1))) (vG t out.2 h)) h0 0 0 13 [some (.ref 1013), some (.int (xb l1)), some (.int l2)] [] (vG t s h) := by
  intro fu
  induction fu with
  | zero =>
    intro l1 l2 s out h0 hF
    rw [FG_takesOperand_13] at hF
    cases hF
  | succ fu ih =>
    intro l1 l2 s out h0 hF
    rw [FG_takesOperand_13] at hF
    refine xw_iload_n dG_takesOperand_13 rfl ?_
    refine xw_sipush (2000) dG_takesOperand_14 (by decide) ?_
    refine xw_icmp_ge 47 dG_takesOperand_17 (by decide) (fun c319 => ?_) (fun c319 => ?_)
    · replace hF := xg_t c319 hF
      refine xw_iload_n dG_takesOperand_47 rfl ?_
      refine xw_if_eqB 57 dG_takesOperand_48 (by decide) (fun c320 => ?_) (fun c320 => ?_)
      · replace hF := xg_f c320 hF
        refine xw_iload_n dG_takesOperand_57 rfl ?_
        obtain rfl := Option.some.inj hF
        exact xw_ireturn dG_takesOperand_58 rfl (xb_nar l1) (Nat.le_of_ble_eq_true rfl) (Nat.le_of_ble_eq_true rfl) ⟨rfl, rfl⟩
      · replace hF := xg_t c320 hF
        refine xw_aload_n dG_takesOperand_51 rfl ?_
        refine xw_ldcS 13 dG_takesOperand_52 (List.mem_of_getElem? (i := 13) rfl) (by decide) ?_
        obtain ⟨r321, er321, hF⟩ := xg_b hF
        refine xg_V0 (k1 := 0) (n1 := 0) (CG_skipAll er321) rfl rfl rfl dG_takesOperand_54 (kG_59 _) (xRG_fit0 (Nat.le_of_ble_eq_true rfl) (Nat.le_of_ble_eq_true rfl)) rfl rfl rfl rfl (Nat.le_of_ble_eq_true rfl) (Nat.le_of_ble_eq_true rfl) (Nat.le_of_ble_eq_true rfl) (Nat.le_of_ble_eq_true rfl) (Nat.le_of_ble_eq_true rfl) ?_
        refine xw_iload_n dG_takesOperand_57 rfl ?_
        obtain rfl := Option.some.inj hF
        exact xw_ireturn dG_takesOperand_58 rfl (xb_nar l1) (Nat.le_of_ble_eq_true rfl) (Nat.le_of_ble_eq_true rfl) ⟨rfl, rfl⟩
    · replace hF := xg_f c319 hF
      refine xw_iload_n dG_takesOperand_20 rfl ?_
      refine xw_if_eqB 47 dG_takesOperand_21 (by decide) (fun c322 => ?_) (fun c322 => ?_)
      · replace hF := xg_f c322 hF
        refine xw_iload_n dG_takesOperand_47 rfl ?_
        refine xw_if_eqB 57 dG_takesOperand_48 (by decide) (fun c323 => ?_) (fun c323 => ?_)
        · replace hF := xg_f c323 hF
          refine xw_iload_n dG_takesOperand_57 rfl ?_
          obtain rfl := Option.some.inj hF
          exact xw_ireturn dG_takesOperand_58 rfl (xb_nar l1) (Nat.le_of_ble_eq_true rfl) (Nat.le_of_ble_eq_true rfl) ⟨rfl, rfl⟩
        · replace hF := xg_t c323 hF
          refine xw_aload_n dG_takesOperand_51 rfl ?_
          refine xw_ldcS 13 dG_takesOperand_52 (List.mem_of_getElem? (i := 13) rfl) (by decide) ?_
          obtain ⟨r324, er324, hF⟩ := xg_b hF
          refine xg_V0 (k1 := 0) (n1 := 0) (CG_skipAll er324) rfl rfl rfl dG_takesOperand_54 (kG_59 _) (xRG_fit0 (Nat.le_of_ble_eq_true rfl) (Nat.le_of_ble_eq_true rfl)) rfl rfl rfl rfl (Nat.le_of_ble_eq_true rfl) (Nat.le_of_ble_eq_true rfl) (Nat.le_of_ble_eq_true rfl) (Nat.le_of_ble_eq_true rfl) (Nat.le_of_ble_eq_true rfl) ?_
          refine xw_iload_n dG_takesOperand_57 rfl ?_
          obtain rfl := Option.some.inj hF
          exact xw_ireturn dG_takesOperand_58 rfl (xb_nar l1) (Nat.le_of_ble_eq_true rfl) (Nat.le_of_ble_eq_true rfl) ⟨rfl, rfl⟩
      · replace hF := xg_t c322 hF
        refine xw_aload_n dG_takesOperand_24 rfl ?_
        obtain ⟨r325, er325, hF⟩ := xg_b hF
        refine xg_V1 (k1 := 0) (n1 := 0) (CG_next er325) rfl rfl rfl dG_takesOperand_25 (kG_30 _) (xRG_fit0 (Nat.le_of_ble_eq_true rfl) (Nat.le_of_ble_eq_true rfl)) rfl rfl rfl rfl (Nat.le_of_ble_eq_true rfl) (Nat.le_of_ble_eq_true rfl) (Nat.le_of_ble_eq_true rfl) (Nat.le_of_ble_eq_true rfl) (Nat.le_of_ble_eq_true rfl) ?_
        refine xw_bipush (40) dG_takesOperand_28 (by decide) ?_
        refine xw_icmp_ne 47 dG_takesOperand_30 (by decide) (fun c326 => ?_) (fun c326 => ?_)
        · replace hF := xg_f c326 hF
          refine xw_iload_n dG_takesOperand_47 rfl ?_
          refine xw_if_eqB 57 dG_takesOperand_48 (by decide) (fun c327 => ?_) (fun c327 => ?_)
          · replace hF := xg_f c327 hF
            refine xw_iload_n dG_takesOperand_57 rfl ?_
            obtain rfl := Option.some.inj hF
            exact xw_ireturn dG_takesOperand_58 rfl (xb_nar l1) (Nat.le_of_ble_eq_true rfl) (Nat.le_of_ble_eq_true rfl) ⟨rfl, rfl⟩
          · replace hF := xg_t c327 hF
            refine xw_aload_n dG_takesOperand_51 rfl ?_
            refine xw_ldcS 13 dG_takesOperand_52 (List.mem_of_getElem? (i := 13) rfl) (by decide) ?_
            obtain ⟨r328, er328, hF⟩ := xg_b hF
            refine xg_V0 (k1 := 0) (n1 := 0) (CG_skipAll er328) rfl rfl rfl dG_takesOperand_54 (kG_59 _) (xRG_fit0 (Nat.le_of_ble_eq_true rfl) (Nat.le_of_ble_eq_true rfl)) rfl rfl rfl rfl (Nat.le_of_ble_eq_true rfl) (Nat.le_of_ble_eq_true rfl) (Nat.le_of_ble_eq_true rfl) (Nat.le_of_ble_eq_true rfl) (Nat.le_of_ble_eq_true rfl) ?_
            refine xw_iload_n dG_takesOperand_57 rfl ?_
            obtain rfl := Option.some.inj hF
            exact xw_ireturn dG_takesOperand_58 rfl (xb_nar l1) (Nat.le_of_ble_eq_true rfl) (Nat.le_of_ble_eq_true rfl) ⟨rfl, rfl⟩
        · replace hF := xg_t c326 hF
          refine xw_aload_n dG_takesOperand_33 rfl ?_
          refine xw_getsK dG_takesOperand_34 tw_618 (List.mem_of_getElem? (i := 2) rfl) rfl ?_
          obtain ⟨r329, er329, hF⟩ := xg_b hF
          refine xg_V1 (k1 := 0) (n1 := 0) (hp.2.2.2.2.1 er329) rfl rfl rfl dG_takesOperand_37 (kG_72 _) (xRG_fit rfl (Nat.le_of_ble_eq_true rfl)) rfl rfl rfl rfl (Nat.le_of_ble_eq_true rfl) (Nat.le_of_ble_eq_true rfl) (Nat.le_of_ble_eq_true rfl) (Nat.le_of_ble_eq_true rfl) (Nat.le_of_ble_eq_true rfl) ?_
          refine xw_istore_n dG_takesOperand_40 (Nat.le_of_ble_eq_true rfl) ?_
          refine xw_Ln (L' := [some (.ref 1013), some (.int (xb r329.1)), some (.int l2)]) rfl ?_
          refine xw_iinc ((l2 + 1)) dG_takesOperand_41 rfl rfl (Nat.le_of_ble_eq_true rfl) ?_
          refine xw_Ln (L' := [some (.ref 1013), some (.int (xb r329.1)), some (.int (l2 + 1))]) rfl ?_
          refine xw_goto 13 dG_takesOperand_44 (by decide) ?_
          exact ih hF
set_option maxRecDepth 20000 in
theorem CG_takesOperand {w : xw_G} {p : xGf} {d : Nat} (hp : xGok w p d) {h : xw_H}  {t : xTs}  {s : xGs} {out : (Bool × xGs)} (hF : FG_takesOperand p t  s = some out) : xw_C w (mG_takesOperand (xRG (d + 1))) (xw_R (some (.int (xb out.1))) (vG t out.2 h)) [.ref 1013] (vG t s h) := by
  unfold FG_takesOperand at hF
  refine xw_enter rfl (show plainName "FormulaShaper$Grammar" = true by decide +kernel) (Nat.le_of_ble_eq_true rfl) ?_
  refine xw_aload_n dG_takesOperand_0 rfl ?_
  refine xw_ldcS 12 dG_takesOperand_1 (List.mem_of_getElem? (i := 12) rfl) (by decide) ?_
  obtain ⟨r317, er317, hF⟩ := xg_b hF
  refine xg_V0 (k1 := 0) (n1 := 0) (CG_skipAll er317) rfl rfl rfl dG_takesOperand_3 (kG_59 _) (xRG_fit0 (Nat.le_of_ble_eq_true rfl) (Nat.le_of_ble_eq_true rfl)) rfl rfl rfl rfl (Nat.le_of_ble_eq_true rfl) (Nat.le_of_ble_eq_true rfl) (Nat.le_of_ble_eq_true rfl) (Nat.le_of_ble_eq_true rfl) (Nat.le_of_ble_eq_true rfl) ?_
  refine xw_aload_n dG_takesOperand_6 rfl ?_
  obtain ⟨r318, er318, hF⟩ := xg_b hF
  refine xg_V1 (k1 := 0) (n1 := 0) (hp.2.2.1 er318) rfl rfl rfl dG_takesOperand_7 (kG_63 _) (xRG_fit rfl (Nat.le_of_ble_eq_true rfl)) rfl rfl rfl rfl (Nat.le_of_ble_eq_true rfl) (Nat.le_of_ble_eq_true rfl) (Nat.le_of_ble_eq_true rfl) (Nat.le_of_ble_eq_true rfl) (Nat.le_of_ble_eq_true rfl) ?_
  refine xw_istore_n dG_takesOperand_10 (Nat.le_of_ble_eq_true rfl) ?_
  refine xw_Ln (L' := [some (.ref 1013), some (.int (xb r318.1)), none]) rfl ?_
  refine xw_iconst (0) dG_takesOperand_11 (by decide) ?_
  refine xw_istore_n dG_takesOperand_12 (Nat.le_of_ble_eq_true rfl) ?_
  refine xw_Ln (L' := [some (.ref 1013), some (.int (xb r318.1)), some (.int 0)]) rfl ?_
  exact CG_takesOperand_13 (hp := hp) xFuel hF
/-- FormulaShaper$Grammar.takesAtom -/
def FG_takesAtom (p : xGf) (t : xTs)  (s : xGs) : Option (Bool × xGs) := (FG_next t s).bind fun r330 => if r330 = 40 then ((FG_opens t 40 s).bind fun r347 => if r347.1 = true then ((p.1 t r347.2).bind fun r349 => if r349.1 = true then ((FG_closes t 41 r349.2).bind fun r351 => if r351.1 = true then (some (true, r351.2)) else (some (false, r351.2))) else (some (false, r349.2))) else (some (false, r347.2))) else ((FG_next t s).bind fun r332 => if r332 = 123 then ((FG_opens t 123 s).bind fun r341 => if r341.1 = true then ((FG_takesRows t r341.2).bind fun r343 => if r343.1 = true then ((FG_closes t 125 r343.2).bind fun r345 => if r345.1 = true then (some (true, r345.2)) else (some (false, r345.2))) else (some (false, r343.2))) else (some (false, r341.2))) else ((FG_nextIsWord t s).bind fun r334 => if r334 = true then ((p.2.2.2.1 t s).bind fun r340 => some (r340.1, r340.2)) else ((FG_takes t 262 s).bind fun r336 => if r336.1 = true then (some (true, r336.2)) else ((FG_takesConstant t r336.2).bind fun r338 => if r338.1 = true then (some (true, r338.2)) else (some (false, r338.2))))))
set_option maxRecDepth 20000 in
theorem CG_takesAtom {w : xw_G} {p : xGf} {d : Nat} (hp : xGok w p d) {h : xw_H}  {t : xTs}  {s : xGs} {out : (Bool × xGs)} (hF : FG_takesAtom p t  s = some out) : xw_C w (mG_takesAtom (xRG (d + 1))) (xw_R (some (.int (xb out.1))) (vG t out.2 h)) [.ref 1013] (vG t s h) := by
  unfold FG_takesAtom at hF
  refine xw_enter rfl (show plainName "FormulaShaper$Grammar" = true by decide +kernel) (Nat.le_of_ble_eq_true rfl) ?_
  refine xw_aload_n dG_takesAtom_0 rfl ?_
  obtain ⟨r330, er330, hF⟩ := xg_b hF
  refine xg_V1 (k1 := 0) (n1 := 0) (CG_next er330) rfl rfl rfl dG_takesAtom_1 (kG_30 _) (xRG_fit0 (Nat.le_of_ble_eq_true rfl) (Nat.le_of_ble_eq_true rfl)) rfl rfl rfl rfl (Nat.le_of_ble_eq_true rfl) (Nat.le_of_ble_eq_true rfl) (Nat.le_of_ble_eq_true rfl) (Nat.le_of_ble_eq_true rfl) (Nat.le_of_ble_eq_true rfl) ?_
  refine xw_bipush (40) dG_takesAtom_4 (by decide) ?_
  refine xw_icmp_ne 40 dG_takesAtom_6 (by decide) (fun c331 => ?_) (fun c331 => ?_)
  · replace hF := xg_f c331 hF
    refine xw_aload_n dG_takesAtom_40 rfl ?_
    obtain ⟨r332, er332, hF⟩ := xg_b hF
    refine xg_V1 (k1 := 0) (n1 := 0) (CG_next er332) rfl rfl rfl dG_takesAtom_41 (kG_30 _) (xRG_fit0 (Nat.le_of_ble_eq_true rfl) (Nat.le_of_ble_eq_true rfl)) rfl rfl rfl rfl (Nat.le_of_ble_eq_true rfl) (Nat.le_of_ble_eq_true rfl) (Nat.le_of_ble_eq_true rfl) (Nat.le_of_ble_eq_true rfl) (Nat.le_of_ble_eq_true rfl) ?_
    refine xw_bipush (123) dG_takesAtom_44 (by decide) ?_
    refine xw_icmp_ne 80 dG_takesAtom_46 (by decide) (fun c333 => ?_) (fun c333 => ?_)
    · replace hF := xg_f c333 hF
      refine xw_aload_n dG_takesAtom_80 rfl ?_
      obtain ⟨r334, er334, hF⟩ := xg_b hF
      refine xg_V1 (k1 := 0) (n1 := 0) (CG_nextIsWord er334) rfl rfl rfl dG_takesAtom_81 (kG_87 _) (xRG_fit0 (Nat.le_of_ble_eq_true rfl) (Nat.le_of_ble_eq_true rfl)) rfl rfl rfl rfl (Nat.le_of_ble_eq_true rfl) (Nat.le_of_ble_eq_true rfl) (Nat.le_of_ble_eq_true rfl) (Nat.le_of_ble_eq_true rfl) (Nat.le_of_ble_eq_true rfl) ?_
      refine xw_if_eqB 92 dG_takesAtom_84 (by decide) (fun c335 => ?_) (fun c335 => ?_)
      · replace hF := xg_f c335 hF
        refine xw_aload_n dG_takesAtom_92 rfl ?_
        refine xw_sipush (262) dG_takesAtom_93 (by decide) ?_
        obtain ⟨r336, er336, hF⟩ := xg_b hF
        refine xg_V1 (k1 := 0) (n1 := 0) (CG_takes er336) rfl rfl rfl dG_takesAtom_96 (kG_22 _) (xRG_fit0 (Nat.le_of_ble_eq_true rfl) (Nat.le_of_ble_eq_true rfl)) rfl rfl rfl rfl (Nat.le_of_ble_eq_true rfl) (Nat.le_of_ble_eq_true rfl) (Nat.le_of_ble_eq_true rfl) (Nat.le_of_ble_eq_true rfl) (Nat.le_of_ble_eq_true rfl) ?_
        refine xw_if_neB 109 dG_takesAtom_99 (by decide) (fun c337 => ?_) (fun c337 => ?_)
        · replace hF := xg_t c337 hF
          refine xw_iconst (1) dG_takesAtom_109 (by decide) ?_
          refine xw_goto 114 dG_takesAtom_110 (by decide) ?_
          obtain rfl := Option.some.inj hF
          exact xw_ireturn dG_takesAtom_114 rfl (xb_nar true) (Nat.le_of_ble_eq_true rfl) (Nat.le_of_ble_eq_true rfl) ⟨rfl, rfl⟩
        · replace hF := xg_f c337 hF
          refine xw_aload_n dG_takesAtom_102 rfl ?_
          obtain ⟨r338, er338, hF⟩ := xg_b hF
          refine xg_V1 (k1 := 0) (n1 := 0) (CG_takesConstant er338) rfl rfl rfl dG_takesAtom_103 (kG_93 _) (xRG_fit0 (Nat.le_of_ble_eq_true rfl) (Nat.le_of_ble_eq_true rfl)) rfl rfl rfl rfl (Nat.le_of_ble_eq_true rfl) (Nat.le_of_ble_eq_true rfl) (Nat.le_of_ble_eq_true rfl) (Nat.le_of_ble_eq_true rfl) (Nat.le_of_ble_eq_true rfl) ?_
          refine xw_if_eqB 113 dG_takesAtom_106 (by decide) (fun c339 => ?_) (fun c339 => ?_)
          · replace hF := xg_f c339 hF
            refine xw_iconst (0) dG_takesAtom_113 (by decide) ?_
            obtain rfl := Option.some.inj hF
            exact xw_ireturn dG_takesAtom_114 rfl (xb_nar false) (Nat.le_of_ble_eq_true rfl) (Nat.le_of_ble_eq_true rfl) ⟨rfl, rfl⟩
          · replace hF := xg_t c339 hF
            refine xw_iconst (1) dG_takesAtom_109 (by decide) ?_
            refine xw_goto 114 dG_takesAtom_110 (by decide) ?_
            obtain rfl := Option.some.inj hF
            exact xw_ireturn dG_takesAtom_114 rfl (xb_nar true) (Nat.le_of_ble_eq_true rfl) (Nat.le_of_ble_eq_true rfl) ⟨rfl, rfl⟩
      · replace hF := xg_t c335 hF
        refine xw_aload_n dG_takesAtom_87 rfl ?_
        obtain ⟨r340, er340, hF⟩ := xg_b hF
        refine xg_V1 (k1 := 0) (n1 := 0) (hp.2.2.2.1 er340) rfl rfl rfl dG_takesAtom_88 (kG_90 _) (xRG_fit rfl (Nat.le_of_ble_eq_true rfl)) rfl rfl rfl rfl (Nat.le_of_ble_eq_true rfl) (Nat.le_of_ble_eq_true rfl) (Nat.le_of_ble_eq_true rfl) (Nat.le_of_ble_eq_true rfl) (Nat.le_of_ble_eq_true rfl) ?_
        obtain rfl := Option.some.inj hF
        exact xw_ireturn dG_takesAtom_91 rfl (xb_nar r340.1) (Nat.le_of_ble_eq_true rfl) (Nat.le_of_ble_eq_true rfl) ⟨rfl, rfl⟩
    · replace hF := xg_t c333 hF
      refine xw_aload_n dG_takesAtom_49 rfl ?_
      refine xw_bipush (123) dG_takesAtom_50 (by decide) ?_
      obtain ⟨r341, er341, hF⟩ := xg_b hF
      refine xg_V1 (k1 := 0) (n1 := 0) (CG_opens er341) rfl rfl rfl dG_takesAtom_52 (kG_78 _) (xRG_fit0 (Nat.le_of_ble_eq_true rfl) (Nat.le_of_ble_eq_true rfl)) rfl rfl rfl rfl (Nat.le_of_ble_eq_true rfl) (Nat.le_of_ble_eq_true rfl) (Nat.le_of_ble_eq_true rfl) (Nat.le_of_ble_eq_true rfl) (Nat.le_of_ble_eq_true rfl) ?_
      refine xw_if_eqB 78 dG_takesAtom_55 (by decide) (fun c342 => ?_) (fun c342 => ?_)
      · replace hF := xg_f c342 hF
        refine xw_iconst (0) dG_takesAtom_78 (by decide) ?_
        obtain rfl := Option.some.inj hF
        exact xw_ireturn dG_takesAtom_79 rfl (xb_nar false) (Nat.le_of_ble_eq_true rfl) (Nat.le_of_ble_eq_true rfl) ⟨rfl, rfl⟩
      · replace hF := xg_t c342 hF
        refine xw_aload_n dG_takesAtom_58 rfl ?_
        obtain ⟨r343, er343, hF⟩ := xg_b hF
        refine xg_V1 (k1 := 0) (n1 := 0) (CG_takesRows er343) rfl rfl rfl dG_takesAtom_59 (kG_84 _) (xRG_fit0 (Nat.le_of_ble_eq_true rfl) (Nat.le_of_ble_eq_true rfl)) rfl rfl rfl rfl (Nat.le_of_ble_eq_true rfl) (Nat.le_of_ble_eq_true rfl) (Nat.le_of_ble_eq_true rfl) (Nat.le_of_ble_eq_true rfl) (Nat.le_of_ble_eq_true rfl) ?_
        refine xw_if_eqB 78 dG_takesAtom_62 (by decide) (fun c344 => ?_) (fun c344 => ?_)
        · replace hF := xg_f c344 hF
          refine xw_iconst (0) dG_takesAtom_78 (by decide) ?_
          obtain rfl := Option.some.inj hF
          exact xw_ireturn dG_takesAtom_79 rfl (xb_nar false) (Nat.le_of_ble_eq_true rfl) (Nat.le_of_ble_eq_true rfl) ⟨rfl, rfl⟩
        · replace hF := xg_t c344 hF
          refine xw_aload_n dG_takesAtom_65 rfl ?_
          refine xw_bipush (125) dG_takesAtom_66 (by decide) ?_
          obtain ⟨r345, er345, hF⟩ := xg_b hF
          refine xg_V1 (k1 := 0) (n1 := 0) (CG_closes er345) rfl rfl rfl dG_takesAtom_68 (kG_81 _) (xRG_fit0 (Nat.le_of_ble_eq_true rfl) (Nat.le_of_ble_eq_true rfl)) rfl rfl rfl rfl (Nat.le_of_ble_eq_true rfl) (Nat.le_of_ble_eq_true rfl) (Nat.le_of_ble_eq_true rfl) (Nat.le_of_ble_eq_true rfl) (Nat.le_of_ble_eq_true rfl) ?_
          refine xw_if_eqB 78 dG_takesAtom_71 (by decide) (fun c346 => ?_) (fun c346 => ?_)
          · replace hF := xg_f c346 hF
            refine xw_iconst (0) dG_takesAtom_78 (by decide) ?_
            obtain rfl := Option.some.inj hF
            exact xw_ireturn dG_takesAtom_79 rfl (xb_nar false) (Nat.le_of_ble_eq_true rfl) (Nat.le_of_ble_eq_true rfl) ⟨rfl, rfl⟩
          · replace hF := xg_t c346 hF
            refine xw_iconst (1) dG_takesAtom_74 (by decide) ?_
            refine xw_goto 79 dG_takesAtom_75 (by decide) ?_
            obtain rfl := Option.some.inj hF
            exact xw_ireturn dG_takesAtom_79 rfl (xb_nar true) (Nat.le_of_ble_eq_true rfl) (Nat.le_of_ble_eq_true rfl) ⟨rfl, rfl⟩
  · replace hF := xg_t c331 hF
    refine xw_aload_n dG_takesAtom_9 rfl ?_
    refine xw_bipush (40) dG_takesAtom_10 (by decide) ?_
    obtain ⟨r347, er347, hF⟩ := xg_b hF
    refine xg_V1 (k1 := 0) (n1 := 0) (CG_opens er347) rfl rfl rfl dG_takesAtom_12 (kG_78 _) (xRG_fit0 (Nat.le_of_ble_eq_true rfl) (Nat.le_of_ble_eq_true rfl)) rfl rfl rfl rfl (Nat.le_of_ble_eq_true rfl) (Nat.le_of_ble_eq_true rfl) (Nat.le_of_ble_eq_true rfl) (Nat.le_of_ble_eq_true rfl) (Nat.le_of_ble_eq_true rfl) ?_
    refine xw_if_eqB 38 dG_takesAtom_15 (by decide) (fun c348 => ?_) (fun c348 => ?_)
    · replace hF := xg_f c348 hF
      refine xw_iconst (0) dG_takesAtom_38 (by decide) ?_
      obtain rfl := Option.some.inj hF
      exact xw_ireturn dG_takesAtom_39 rfl (xb_nar false) (Nat.le_of_ble_eq_true rfl) (Nat.le_of_ble_eq_true rfl) ⟨rfl, rfl⟩
    · replace hF := xg_t c348 hF
      refine xw_aload_n dG_takesAtom_18 rfl ?_
      obtain ⟨r349, er349, hF⟩ := xg_b hF
      refine xg_V1 (k1 := 0) (n1 := 0) (hp.1 er349) rfl rfl rfl dG_takesAtom_19 (kG_26 _) (xRG_fit rfl (Nat.le_of_ble_eq_true rfl)) rfl rfl rfl rfl (Nat.le_of_ble_eq_true rfl) (Nat.le_of_ble_eq_true rfl) (Nat.le_of_ble_eq_true rfl) (Nat.le_of_ble_eq_true rfl) (Nat.le_of_ble_eq_true rfl) ?_
      refine xw_if_eqB 38 dG_takesAtom_22 (by decide) (fun c350 => ?_) (fun c350 => ?_)
      · replace hF := xg_f c350 hF
        refine xw_iconst (0) dG_takesAtom_38 (by decide) ?_
        obtain rfl := Option.some.inj hF
        exact xw_ireturn dG_takesAtom_39 rfl (xb_nar false) (Nat.le_of_ble_eq_true rfl) (Nat.le_of_ble_eq_true rfl) ⟨rfl, rfl⟩
      · replace hF := xg_t c350 hF
        refine xw_aload_n dG_takesAtom_25 rfl ?_
        refine xw_bipush (41) dG_takesAtom_26 (by decide) ?_
        obtain ⟨r351, er351, hF⟩ := xg_b hF
        refine xg_V1 (k1 := 0) (n1 := 0) (CG_closes er351) rfl rfl rfl dG_takesAtom_28 (kG_81 _) (xRG_fit0 (Nat.le_of_ble_eq_true rfl) (Nat.le_of_ble_eq_true rfl)) rfl rfl rfl rfl (Nat.le_of_ble_eq_true rfl) (Nat.le_of_ble_eq_true rfl) (Nat.le_of_ble_eq_true rfl) (Nat.le_of_ble_eq_true rfl) (Nat.le_of_ble_eq_true rfl) ?_
        refine xw_if_eqB 38 dG_takesAtom_31 (by decide) (fun c352 => ?_) (fun c352 => ?_)
        · replace hF := xg_f c352 hF
          refine xw_iconst (0) dG_takesAtom_38 (by decide) ?_
          obtain rfl := Option.some.inj hF
          exact xw_ireturn dG_takesAtom_39 rfl (xb_nar false) (Nat.le_of_ble_eq_true rfl) (Nat.le_of_ble_eq_true rfl) ⟨rfl, rfl⟩
        · replace hF := xg_t c352 hF
          refine xw_iconst (1) dG_takesAtom_34 (by decide) ?_
          refine xw_goto 39 dG_takesAtom_35 (by decide) ?_
          obtain rfl := Option.some.inj hF
          exact xw_ireturn dG_takesAtom_39 rfl (xb_nar true) (Nat.le_of_ble_eq_true rfl) (Nat.le_of_ble_eq_true rfl) ⟨rfl, rfl⟩
/-- FormulaShaper$Grammar.takesName -/
def FG_takesName (p : xGf) (t : xTs)  (s : xGs) : Option (Bool × xGs) := (FG_next t s).bind fun r353 => (FY_at (r353 - 263)).bind fun r354 => if r354 < 10 then (if r354 = 9 then (some (true, ((s.1 + 1), s.2))) else ((FG_next t ((s.1 + 1), s.2)).bind fun r357 => if r357 = 40 then ((p.2.2.2.2.1 t r354 ((s.1 + 1), s.2)).bind fun r359 => if r359.1 = true then (some (true, r359.2)) else (some (false, r359.2))) else (some (true, ((s.1 + 1), s.2))))) else none
set_option maxRecDepth 20000 in
theorem CG_takesName {w : xw_G} {p : xGf} {d : Nat} (hp : xGok w p d) {h : xw_H}  {t : xTs}  {s : xGs} {out : (Bool × xGs)} (hF : FG_takesName p t  s = some out) : xw_C w (mG_takesName (xRG (d + 1))) (xw_R (some (.int (xb out.1))) (vG t out.2 h)) [.ref 1013] (vG t s h) := by
  unfold FG_takesName at hF
  refine xw_enter rfl (show plainName "FormulaShaper$Grammar" = true by decide +kernel) (Nat.le_of_ble_eq_true rfl) ?_
  refine xw_aload_n dG_takesName_0 rfl ?_
  obtain ⟨r353, er353, hF⟩ := xg_b hF
  refine xg_V1 (k1 := 0) (n1 := 0) (CG_next er353) rfl rfl rfl dG_takesName_1 (kG_30 _) (xRG_fit0 (Nat.le_of_ble_eq_true rfl) (Nat.le_of_ble_eq_true rfl)) rfl rfl rfl rfl (Nat.le_of_ble_eq_true rfl) (Nat.le_of_ble_eq_true rfl) (Nat.le_of_ble_eq_true rfl) (Nat.le_of_ble_eq_true rfl) (Nat.le_of_ble_eq_true rfl) ?_
  refine xw_sipush (263) dG_takesName_4 (by decide) ?_
  refine xw_isub dG_takesName_7 ?_
  obtain ⟨r354, er354, hF⟩ := xg_b hF
  refine xg_S1 (k1 := 0) (n1 := 0) (CY_at er354) rfl rfl rfl dG_takesName_8 (kG_96 _) (xRG_fit0 (Nat.le_of_ble_eq_true rfl) (Nat.le_of_ble_eq_true rfl)) rfl rfl (Nat.le_of_ble_eq_true rfl) (Nat.le_of_ble_eq_true rfl) (Nat.le_of_ble_eq_true rfl) (Nat.le_of_ble_eq_true rfl) (Nat.le_of_ble_eq_true rfl) ?_
  refine xw_astore_n dG_takesName_11 (Nat.le_of_ble_eq_true rfl) ?_
  refine xw_Ln (L' := [some (.ref 1013), some (.ref (100 + r354))]) rfl ?_
  refine xw_aload_n dG_takesName_12 rfl ?_
  refine xw_dup_r dG_takesName_13 ?_
  refine xw_get dG_takesName_14 fG_15 rfl rfl ?_
  refine xw_iconst (1) dG_takesName_17 (by decide) ?_
  refine xw_iadd dG_takesName_18 ?_
  refine xg_put dG_takesName_19 fG_15 rfl (by decide) (Nat.le_of_ble_eq_true rfl) (fun _ => rfl) (fun _ => rfl) vG_p ?_
  refine xw_aload_n dG_takesName_22 rfl ?_
  refine xw_getsK dG_takesName_23 tw_618 (List.mem_of_getElem? (i := 2) rfl) rfl ?_
  obtain ⟨g355, hF⟩ := xg_g hF
  refine xw_acmpK_eq 46 dG_takesName_26 (by decide) (by omega) (by decide) (fun hW z => xk_ar_ne (j := 9) hW g355 (by decide) z) (fun c356 => ?_) (fun c356 => ?_)
  · replace hF := xg_t (show r354 = 9 by omega) hF
    refine xw_iconst (1) dG_takesName_46 (by decide) ?_
    refine xw_goto 51 dG_takesName_47 (by decide) ?_
    obtain rfl := Option.some.inj hF
    exact xw_ireturn dG_takesName_51 rfl (xb_nar true) (Nat.le_of_ble_eq_true rfl) (Nat.le_of_ble_eq_true rfl) ⟨rfl, rfl⟩
  · replace hF := xg_f (show ¬ r354 = 9 by omega) hF
    refine xw_aload_n dG_takesName_29 rfl ?_
    obtain ⟨r357, er357, hF⟩ := xg_b hF
    refine xg_V1 (k1 := 0) (n1 := 0) (CG_next er357) rfl rfl rfl dG_takesName_30 (kG_30 _) (xRG_fit0 (Nat.le_of_ble_eq_true rfl) (Nat.le_of_ble_eq_true rfl)) rfl rfl rfl rfl (Nat.le_of_ble_eq_true rfl) (Nat.le_of_ble_eq_true rfl) (Nat.le_of_ble_eq_true rfl) (Nat.le_of_ble_eq_true rfl) (Nat.le_of_ble_eq_true rfl) ?_
    refine xw_bipush (40) dG_takesName_33 (by decide) ?_
    refine xw_icmp_ne 46 dG_takesName_35 (by decide) (fun c358 => ?_) (fun c358 => ?_)
    · replace hF := xg_f c358 hF
      refine xw_iconst (1) dG_takesName_46 (by decide) ?_
      refine xw_goto 51 dG_takesName_47 (by decide) ?_
      obtain rfl := Option.some.inj hF
      exact xw_ireturn dG_takesName_51 rfl (xb_nar true) (Nat.le_of_ble_eq_true rfl) (Nat.le_of_ble_eq_true rfl) ⟨rfl, rfl⟩
    · replace hF := xg_t c358 hF
      refine xw_aload_n dG_takesName_38 rfl ?_
      refine xw_aload_n dG_takesName_39 rfl ?_
      obtain ⟨r359, er359, hF⟩ := xg_b hF
      refine xg_V1 (k1 := 0) (n1 := 0) (hp.2.2.2.2.1 er359) rfl rfl rfl dG_takesName_40 (kG_72 _) (xRG_fit rfl (Nat.le_of_ble_eq_true rfl)) rfl rfl rfl rfl (Nat.le_of_ble_eq_true rfl) (Nat.le_of_ble_eq_true rfl) (Nat.le_of_ble_eq_true rfl) (Nat.le_of_ble_eq_true rfl) (Nat.le_of_ble_eq_true rfl) ?_
      refine xw_if_eqB 50 dG_takesName_43 (by decide) (fun c360 => ?_) (fun c360 => ?_)
      · replace hF := xg_f c360 hF
        refine xw_iconst (0) dG_takesName_50 (by decide) ?_
        obtain rfl := Option.some.inj hF
        exact xw_ireturn dG_takesName_51 rfl (xb_nar false) (Nat.le_of_ble_eq_true rfl) (Nat.le_of_ble_eq_true rfl) ⟨rfl, rfl⟩
      · replace hF := xg_t c360 hF
        refine xw_iconst (1) dG_takesName_46 (by decide) ?_
        refine xw_goto 51 dG_takesName_47 (by decide) ?_
        obtain rfl := Option.some.inj hF
        exact xw_ireturn dG_takesName_51 rfl (xb_nar true) (Nat.le_of_ble_eq_true rfl) (Nat.le_of_ble_eq_true rfl) ⟨rfl, rfl⟩
def FG_takesCall_27 (p : xGf) (t : xTs) (l1 : Nat) (s : xGs) : Option (Bool × xGs) := if l1 < 10 then (if l1 = 8 then ((FG_skipParameters t s).bind fun r369 => if l1 < 10 then (if l1 < 10 then ((p.2.2.2.2.2.1 t (xk_ar.getD l1 (0, 0, 0)).1 (xk_ar.getD l1 (0, 0, 0)).2.1 r369).bind fun r372 => if r372.1 = true then ((FG_closes t 41 r372.2).bind fun r374 => if r374.1 = true then (some (true, r374.2)) else (some (false, r374.2))) else (some (false, r372.2))) else none) else none) else (if l1 < 10 then (if l1 < 10 then ((p.2.2.2.2.2.1 t (xk_ar.getD l1 (0, 0, 0)).1 (xk_ar.getD l1 (0, 0, 0)).2.1 s).bind fun r378 => if r378.1 = true then ((FG_closes t 41 r378.2).bind fun r380 => if r380.1 = true then (some (true, r380.2)) else (some (false, r380.2))) else (some (false, r378.2))) else none) else none)) else none
/-- FormulaShaper$Grammar.takesCall -/
def FG_takesCall (p : xGf) (t : xTs) (x0 : Nat) (s : xGs) : Option (Bool × xGs) := (FG_opens t 40 s).bind fun r361 => if r361.1 = true then (if x0 < 10 then (if x0 = 7 then ((p.2.2.2.2.2.2 t r361.2).bind fun r365 => if r365.1 = true then (FG_takesCall_27 p t x0 r365.2) else (some (false, r365.2))) else (FG_takesCall_27 p t x0 r361.2)) else none) else (some (false, r361.2))
set_option maxRecDepth 20000 in
theorem CG_takesCall_27 {w : xw_G} {p : xGf} {d : Nat} (hp : xGok w p d) {h : xw_H}  {t : xTs} {l1 : Nat} {s : xGs} {out : (Bool × xGs)} {h0 : xw_H} (hF : FG_takesCall_27 p t l1 s = some out) : xw_X w (mG_takesCall (xRG (d + 1))) (xw_R (some (.int (xb out.1))) (vG t out.2 h)) h0 0 0 27 [some (.ref 1013), some (.ref (100 + l1))] [] (vG t s h) := by
  unfold FG_takesCall_27 at hF
  refine xw_aload_n dG_takesCall_27 rfl ?_
  refine xw_getsK dG_takesCall_28 tw_637 (List.mem_of_getElem? (i := 4) rfl) rfl ?_
  obtain ⟨g367, hF⟩ := xg_g hF
  refine xw_acmpK_ne 38 dG_takesCall_31 (by decide) (by omega) (by decide) (fun hW z => xk_ar_ne (j := 8) hW g367 (by decide) z) (fun c368 => ?_) (fun c368 => ?_)
  · replace hF := xg_f (show ¬ l1 = 8 by omega) hF
    refine xw_aload_n dG_takesCall_38 rfl ?_
    refine xw_aload_n dG_takesCall_39 rfl ?_
    obtain ⟨g376, hF⟩ := xg_g hF
    refine xw_getKN dG_takesCall_40 tw_1412 (xk_arF g376).1 (by omega) rfl ?_
    refine xw_aload_n dG_takesCall_43 rfl ?_
    obtain ⟨g377, hF⟩ := xg_g hF
    refine xw_getKN dG_takesCall_44 tw_1413 (xk_arF g377).2.1 (by omega) rfl ?_
    obtain ⟨r378, er378, hF⟩ := xg_b hF
    refine xg_V1 (k1 := 0) (n1 := 0) (hp.2.2.2.2.2.1 er378) rfl rfl rfl dG_takesCall_47 (kG_117 _) (xRG_fit rfl (Nat.le_of_ble_eq_true rfl)) rfl rfl rfl rfl (Nat.le_of_ble_eq_true rfl) (Nat.le_of_ble_eq_true rfl) (Nat.le_of_ble_eq_true rfl) (Nat.le_of_ble_eq_true rfl) (Nat.le_of_ble_eq_true rfl) ?_
    refine xw_if_eqB 66 dG_takesCall_50 (by decide) (fun c379 => ?_) (fun c379 => ?_)
    · replace hF := xg_f c379 hF
      refine xw_iconst (0) dG_takesCall_66 (by decide) ?_
      obtain rfl := Option.some.inj hF
      exact xw_ireturn dG_takesCall_67 rfl (xb_nar false) (Nat.le_of_ble_eq_true rfl) (Nat.le_of_ble_eq_true rfl) ⟨rfl, rfl⟩
    · replace hF := xg_t c379 hF
      refine xw_aload_n dG_takesCall_53 rfl ?_
      refine xw_bipush (41) dG_takesCall_54 (by decide) ?_
      obtain ⟨r380, er380, hF⟩ := xg_b hF
      refine xg_V1 (k1 := 0) (n1 := 0) (CG_closes er380) rfl rfl rfl dG_takesCall_56 (kG_81 _) (xRG_fit0 (Nat.le_of_ble_eq_true rfl) (Nat.le_of_ble_eq_true rfl)) rfl rfl rfl rfl (Nat.le_of_ble_eq_true rfl) (Nat.le_of_ble_eq_true rfl) (Nat.le_of_ble_eq_true rfl) (Nat.le_of_ble_eq_true rfl) (Nat.le_of_ble_eq_true rfl) ?_
      refine xw_if_eqB 66 dG_takesCall_59 (by decide) (fun c381 => ?_) (fun c381 => ?_)
      · replace hF := xg_f c381 hF
        refine xw_iconst (0) dG_takesCall_66 (by decide) ?_
        obtain rfl := Option.some.inj hF
        exact xw_ireturn dG_takesCall_67 rfl (xb_nar false) (Nat.le_of_ble_eq_true rfl) (Nat.le_of_ble_eq_true rfl) ⟨rfl, rfl⟩
      · replace hF := xg_t c381 hF
        refine xw_iconst (1) dG_takesCall_62 (by decide) ?_
        refine xw_goto 67 dG_takesCall_63 (by decide) ?_
        obtain rfl := Option.some.inj hF
        exact xw_ireturn dG_takesCall_67 rfl (xb_nar true) (Nat.le_of_ble_eq_true rfl) (Nat.le_of_ble_eq_true rfl) ⟨rfl, rfl⟩
  · replace hF := xg_t (show l1 = 8 by omega) hF
    refine xw_aload_n dG_takesCall_34 rfl ?_
    obtain ⟨r369, er369, hF⟩ := xg_b hF
    refine xg_V0 (k1 := 0) (n1 := 0) (CG_skipParameters er369) rfl rfl rfl dG_takesCall_35 (kG_108 _) (xRG_fit0 (Nat.le_of_ble_eq_true rfl) (Nat.le_of_ble_eq_true rfl)) rfl rfl rfl rfl (Nat.le_of_ble_eq_true rfl) (Nat.le_of_ble_eq_true rfl) (Nat.le_of_ble_eq_true rfl) (Nat.le_of_ble_eq_true rfl) (Nat.le_of_ble_eq_true rfl) ?_
    refine xw_aload_n dG_takesCall_38 rfl ?_
    refine xw_aload_n dG_takesCall_39 rfl ?_
    obtain ⟨g370, hF⟩ := xg_g hF
    refine xw_getKN dG_takesCall_40 tw_1412 (xk_arF g370).1 (by omega) rfl ?_
    refine xw_aload_n dG_takesCall_43 rfl ?_
    obtain ⟨g371, hF⟩ := xg_g hF
    refine xw_getKN dG_takesCall_44 tw_1413 (xk_arF g371).2.1 (by omega) rfl ?_
    obtain ⟨r372, er372, hF⟩ := xg_b hF
    refine xg_V1 (k1 := 0) (n1 := 0) (hp.2.2.2.2.2.1 er372) rfl rfl rfl dG_takesCall_47 (kG_117 _) (xRG_fit rfl (Nat.le_of_ble_eq_true rfl)) rfl rfl rfl rfl (Nat.le_of_ble_eq_true rfl) (Nat.le_of_ble_eq_true rfl) (Nat.le_of_ble_eq_true rfl) (Nat.le_of_ble_eq_true rfl) (Nat.le_of_ble_eq_true rfl) ?_
    refine xw_if_eqB 66 dG_takesCall_50 (by decide) (fun c373 => ?_) (fun c373 => ?_)
    · replace hF := xg_f c373 hF
      refine xw_iconst (0) dG_takesCall_66 (by decide) ?_
      obtain rfl := Option.some.inj hF
      exact xw_ireturn dG_takesCall_67 rfl (xb_nar false) (Nat.le_of_ble_eq_true rfl) (Nat.le_of_ble_eq_true rfl) ⟨rfl, rfl⟩
    · replace hF := xg_t c373 hF
      refine xw_aload_n dG_takesCall_53 rfl ?_
      refine xw_bipush (41) dG_takesCall_54 (by decide) ?_
      obtain ⟨r374, er374, hF⟩ := xg_b hF
      refine xg_V1 (k1 := 0) (n1 := 0) (CG_closes er374) rfl rfl rfl dG_takesCall_56 (kG_81 _) (xRG_fit0 (Nat.le_of_ble_eq_true rfl) (Nat.le_of_ble_eq_true rfl)) rfl rfl rfl rfl (Nat.le_of_ble_eq_true rfl) (Nat.le_of_ble_eq_true rfl) (Nat.le_of_ble_eq_true rfl) (Nat.le_of_ble_eq_true rfl) (Nat.le_of_ble_eq_true rfl) ?_
      refine xw_if_eqB 66 dG_takesCall_59 (by decide) (fun c375 => ?_) (fun c375 => ?_)
      · replace hF := xg_f c375 hF
        refine xw_iconst (0) dG_takesCall_66 (by decide) ?_
        obtain rfl := Option.some.inj hF
        exact xw_ireturn dG_takesCall_67 rfl (xb_nar false) (Nat.le_of_ble_eq_true rfl) (Nat.le_of_ble_eq_true rfl) ⟨rfl, rfl⟩
      · replace hF := xg_t c375 hF
        refine xw_iconst (1) dG_takesCall_62 (by decide) ?_
        refine xw_goto 67 dG_takesCall_63 (by decide) ?_
        obtain rfl := Option.some.inj hF
        exact xw_ireturn dG_takesCall_67 rfl (xb_nar true) (Nat.le_of_ble_eq_true rfl) (Nat.le_of_ble_eq_true rfl) ⟨rfl, rfl⟩
set_option maxRecDepth 20000 in
theorem CG_takesCall {w : xw_G} {p : xGf} {d : Nat} (hp : xGok w p d) {h : xw_H}  {t : xTs} {x0 : Nat} {s : xGs} {out : (Bool × xGs)} (hF : FG_takesCall p t x0 s = some out) : xw_C w (mG_takesCall (xRG (d + 1))) (xw_R (some (.int (xb out.1))) (vG t out.2 h)) [.ref 1013, .ref (100 + x0)] (vG t s h) := by
  unfold FG_takesCall at hF
  refine xw_enter rfl (show plainName "FormulaShaper$Grammar" = true by decide +kernel) (Nat.le_of_ble_eq_true rfl) ?_
  refine xw_aload_n dG_takesCall_0 rfl ?_
  refine xw_bipush (40) dG_takesCall_1 (by decide) ?_
  obtain ⟨r361, er361, hF⟩ := xg_b hF
  refine xg_V1 (k1 := 0) (n1 := 0) (CG_opens er361) rfl rfl rfl dG_takesCall_3 (kG_78 _) (xRG_fit0 (Nat.le_of_ble_eq_true rfl) (Nat.le_of_ble_eq_true rfl)) rfl rfl rfl rfl (Nat.le_of_ble_eq_true rfl) (Nat.le_of_ble_eq_true rfl) (Nat.le_of_ble_eq_true rfl) (Nat.le_of_ble_eq_true rfl) (Nat.le_of_ble_eq_true rfl) ?_
  refine xw_if_neB 11 dG_takesCall_6 (by decide) (fun c362 => ?_) (fun c362 => ?_)
  · replace hF := xg_t c362 hF
    refine xw_aload_n dG_takesCall_11 rfl ?_
    refine xw_getsK dG_takesCall_12 tw_623 (List.mem_of_getElem? (i := 3) rfl) rfl ?_
    obtain ⟨g363, hF⟩ := xg_g hF
    refine xw_acmpK_ne 27 dG_takesCall_15 (by decide) (by omega) (by decide) (fun hW z => xk_ar_ne (j := 7) hW g363 (by decide) z) (fun c364 => ?_) (fun c364 => ?_)
    · replace hF := xg_f (show ¬ x0 = 7 by omega) hF
      exact CG_takesCall_27 (hp := hp) hF
    · replace hF := xg_t (show x0 = 7 by omega) hF
      refine xw_aload_n dG_takesCall_18 rfl ?_
      obtain ⟨r365, er365, hF⟩ := xg_b hF
      refine xg_V1 (k1 := 0) (n1 := 0) (hp.2.2.2.2.2.2 er365) rfl rfl rfl dG_takesCall_19 (kG_102 _) (xRG_fit rfl (Nat.le_of_ble_eq_true rfl)) rfl rfl rfl rfl (Nat.le_of_ble_eq_true rfl) (Nat.le_of_ble_eq_true rfl) (Nat.le_of_ble_eq_true rfl) (Nat.le_of_ble_eq_true rfl) (Nat.le_of_ble_eq_true rfl) ?_
      refine xw_if_neB 27 dG_takesCall_22 (by decide) (fun c366 => ?_) (fun c366 => ?_)
      · replace hF := xg_t c366 hF
        exact CG_takesCall_27 (hp := hp) hF
      · replace hF := xg_f c366 hF
        refine xw_iconst (0) dG_takesCall_25 (by decide) ?_
        obtain rfl := Option.some.inj hF
        exact xw_ireturn dG_takesCall_26 rfl (xb_nar false) (Nat.le_of_ble_eq_true rfl) (Nat.le_of_ble_eq_true rfl) ⟨rfl, rfl⟩
  · replace hF := xg_f c362 hF
    refine xw_iconst (0) dG_takesCall_9 (by decide) ?_
    obtain rfl := Option.some.inj hF
    exact xw_ireturn dG_takesCall_10 rfl (xb_nar false) (Nat.le_of_ble_eq_true rfl) (Nat.le_of_ble_eq_true rfl) ⟨rfl, rfl⟩
def FG_takesList_17 (p : xGf) (t : xTs) : Nat → Int32 → Int32 → Int32 → xGs → Option (Bool × xGs)
  | 0, _, _, _, _ => none
  | fu + 1, l1, l2, l3, s => if l2 < l3 then (some (false, s)) else ((p.1 t s).bind fun r384 => if r384.1 = true then ((FG_takes t 44 r384.2).bind fun r386 => if r386.1 = true then (FG_takesList_17 p t fu l1 l2 (l3 + 1) r386.2) else (if l3 < l1 then (some (false, r386.2)) else (some (true, r386.2)))) else (some (false, r384.2)))
/-- FormulaShaper$Grammar.takesList -/
def FG_takesList (p : xGf) (t : xTs) (x0 : Int32) (x1 : Int32) (s : xGs) : Option (Bool × xGs) := if x0 = 0 then ((FG_next t s).bind fun r389 => if r389 = 41 then (some (true, s)) else (FG_takesList_17 p t xFuel x0 x1 1 s)) else (FG_takesList_17 p t xFuel x0 x1 1 s)
set_option maxRecDepth 20000 in
theorem CG_takesList_17 {w : xw_G} {p : xGf} {d : Nat} (hp : xGok w p d) {h : xw_H}  {t : xTs} : ∀ (fu : Nat) {l1 : Int32} {l2 : Int32} {l3 : Int32} {s : xGs} {out : (Bool × xGs)} {h0 : xw_H}, FG_takesList_17 p t fu l1 l2 l3 s = some out → xw_X w (mG_takesList (xRG (d + 1))) (xw_R (some (.int (xb out.1))) (vG t out.2 h)) h0 0 0 17 [some (.ref 1013), some (.int l1), some (.int l2), some (.int l3)] [] (vG t s h) := by
  intro fu
  induction fu with
  | zero =>
    intro l1 l2 l3 s out h0 hF
    rw [FG_takesList_17] at hF
    cases hF
  | succ fu ih =>
    intro l1 l2 l3 s out h0 hF
    rw [FG_takesList_17] at hF
    refine xw_iload_n dG_takesList_17 rfl ?_
    refine xw_iload_n dG_takesList_18 rfl ?_
    refine xw_icmp_gt 57 dG_takesList_19 (by decide) (fun c383 => ?_) (fun c383 => ?_)
    · replace hF := xg_t c383 hF
      refine xw_iconst (0) dG_takesList_57 (by decide) ?_
      obtain rfl := Option.some.inj hF
      exact xw_ireturn dG_takesList_58 rfl (xb_nar false) (Nat.le_of_ble_eq_true rfl) (Nat.le_of_ble_eq_true rfl) ⟨rfl, rfl⟩
    · replace hF := xg_f c383 hF
      refine xw_aload_n dG_takesList_22 rfl ?_
      obtain ⟨r384, er384, hF⟩ := xg_b hF
      refine xg_V1 (k1 := 0) (n1 := 0) (hp.1 er384) rfl rfl rfl dG_takesList_23 (kG_26 _) (xRG_fit rfl (Nat.le_of_ble_eq_true rfl)) rfl rfl rfl rfl (Nat.le_of_ble_eq_true rfl) (Nat.le_of_ble_eq_true rfl) (Nat.le_of_ble_eq_true rfl) (Nat.le_of_ble_eq_true rfl) (Nat.le_of_ble_eq_true rfl) ?_
      refine xw_if_neB 31 dG_takesList_26 (by decide) (fun c385 => ?_) (fun c385 => ?_)
      · replace hF := xg_t c385 hF
        refine xw_aload_n dG_takesList_31 rfl ?_
        refine xw_bipush (44) dG_takesList_32 (by decide) ?_
        obtain ⟨r386, er386, hF⟩ := xg_b hF
        refine xg_V1 (k1 := 0) (n1 := 0) (CG_takes er386) rfl rfl rfl dG_takesList_34 (kG_22 _) (xRG_fit0 (Nat.le_of_ble_eq_true rfl) (Nat.le_of_ble_eq_true rfl)) rfl rfl rfl rfl (Nat.le_of_ble_eq_true rfl) (Nat.le_of_ble_eq_true rfl) (Nat.le_of_ble_eq_true rfl) (Nat.le_of_ble_eq_true rfl) (Nat.le_of_ble_eq_true rfl) ?_
        refine xw_if_neB 51 dG_takesList_37 (by decide) (fun c387 => ?_) (fun c387 => ?_)
        · replace hF := xg_t c387 hF
          refine xw_iinc ((l3 + 1)) dG_takesList_51 rfl rfl (Nat.le_of_ble_eq_true rfl) ?_
          refine xw_Ln (L' := [some (.ref 1013), some (.int l1), some (.int l2), some (.int (l3 + 1))]) rfl ?_
          refine xw_goto 17 dG_takesList_54 (by decide) ?_
          exact ih hF
        · replace hF := xg_f c387 hF
          refine xw_iload_n dG_takesList_40 rfl ?_
          refine xw_iload_n dG_takesList_41 rfl ?_
          refine xw_icmp_lt 49 dG_takesList_42 (by decide) (fun c388 => ?_) (fun c388 => ?_)
          · replace hF := xg_t c388 hF
            refine xw_iconst (0) dG_takesList_49 (by decide) ?_
            obtain rfl := Option.some.inj hF
            exact xw_ireturn dG_takesList_50 rfl (xb_nar false) (Nat.le_of_ble_eq_true rfl) (Nat.le_of_ble_eq_true rfl) ⟨rfl, rfl⟩
          · replace hF := xg_f c388 hF
            refine xw_iconst (1) dG_takesList_45 (by decide) ?_
            refine xw_goto 50 dG_takesList_46 (by decide) ?_
            obtain rfl := Option.some.inj hF
            exact xw_ireturn dG_takesList_50 rfl (xb_nar true) (Nat.le_of_ble_eq_true rfl) (Nat.le_of_ble_eq_true rfl) ⟨rfl, rfl⟩
      · replace hF := xg_f c385 hF
        refine xw_iconst (0) dG_takesList_29 (by decide) ?_
        obtain rfl := Option.some.inj hF
        exact xw_ireturn dG_takesList_30 rfl (xb_nar false) (Nat.le_of_ble_eq_true rfl) (Nat.le_of_ble_eq_true rfl) ⟨rfl, rfl⟩
set_option maxRecDepth 20000 in
theorem CG_takesList {w : xw_G} {p : xGf} {d : Nat} (hp : xGok w p d) {h : xw_H}  {t : xTs} {x0 : Int32} {x1 : Int32} {s : xGs} {out : (Bool × xGs)} (hF : FG_takesList p t x0 x1 s = some out) : xw_C w (mG_takesList (xRG (d + 1))) (xw_R (some (.int (xb out.1))) (vG t out.2 h)) [.ref 1013, .int x0, .int x1] (vG t s h) := by
  unfold FG_takesList at hF
  refine xw_enter rfl (show plainName "FormulaShaper$Grammar" = true by decide +kernel) (Nat.le_of_ble_eq_true rfl) ?_
  refine xw_iload_n dG_takesList_0 rfl ?_
  refine xw_if_ne 15 dG_takesList_1 (by decide) (fun c382 => ?_) (fun c382 => ?_)
  · replace hF := xg_f c382 hF
    refine xw_iconst (1) dG_takesList_15 (by decide) ?_
    refine xw_istore_n dG_takesList_16 (Nat.le_of_ble_eq_true rfl) ?_
    refine xw_Ln (L' := [some (.ref 1013), some (.int x0), some (.int x1), some (.int 1)]) rfl ?_
    exact CG_takesList_17 (hp := hp) xFuel hF
  · replace hF := xg_t c382 hF
    refine xw_aload_n dG_takesList_4 rfl ?_
    obtain ⟨r389, er389, hF⟩ := xg_b hF
    refine xg_V1 (k1 := 0) (n1 := 0) (CG_next er389) rfl rfl rfl dG_takesList_5 (kG_30 _) (xRG_fit0 (Nat.le_of_ble_eq_true rfl) (Nat.le_of_ble_eq_true rfl)) rfl rfl rfl rfl (Nat.le_of_ble_eq_true rfl) (Nat.le_of_ble_eq_true rfl) (Nat.le_of_ble_eq_true rfl) (Nat.le_of_ble_eq_true rfl) (Nat.le_of_ble_eq_true rfl) ?_
    refine xw_bipush (41) dG_takesList_8 (by decide) ?_
    refine xw_icmp_ne 15 dG_takesList_10 (by decide) (fun c390 => ?_) (fun c390 => ?_)
    · replace hF := xg_f c390 hF
      refine xw_iconst (1) dG_takesList_15 (by decide) ?_
      refine xw_istore_n dG_takesList_16 (Nat.le_of_ble_eq_true rfl) ?_
      refine xw_Ln (L' := [some (.ref 1013), some (.int x0), some (.int x1), some (.int 1)]) rfl ?_
      exact CG_takesList_17 (hp := hp) xFuel hF
    · replace hF := xg_t c390 hF
      refine xw_iconst (1) dG_takesList_13 (by decide) ?_
      obtain rfl := Option.some.inj hF
      exact xw_ireturn dG_takesList_14 rfl (xb_nar true) (Nat.le_of_ble_eq_true rfl) (Nat.le_of_ble_eq_true rfl) ⟨rfl, rfl⟩
def FG_takesBindings_2 (p : xGf) (t : xTs) : Nat → Int32 → xGs → Option (Bool × xGs)
  | 0, _, _ => none
  | fu + 1, l1, s => if 5 ≤ l1 then (some (true, s)) else (if l1 ≤ 0 then ((FG_takesWord t s).bind fun r393 => if r393.1 = true then ((FG_takes t 44 r393.2).bind fun r395 => if r395.1 = true then ((p.1 t r395.2).bind fun r397 => if r397.1 = true then ((FG_takes t 44 r397.2).bind fun r399 => if r399.1 = true then (FG_takesBindings_2 p t fu (l1 + 1) r399.2) else (some (false, r399.2))) else (some (false, r397.2))) else (some (false, r395.2))) else (some (false, r393.2))) else ((FG_isWordWithComma t s).bind fun r401 => if r401 = true then ((FG_takesWord t s).bind fun r403 => if r403.1 = true then ((FG_takes t 44 r403.2).bind fun r405 => if r405.1 = true then ((p.1 t r405.2).bind fun r407 => if r407.1 = true then ((FG_takes t 44 r407.2).bind fun r409 => if r409.1 = true then (FG_takesBindings_2 p t fu (l1 + 1) r409.2) else (some (false, r409.2))) else (some (false, r407.2))) else (some (false, r405.2))) else (some (false, r403.2))) else (some (true, s))))
/-- FormulaShaper$Grammar.takesBindings -/
def FG_takesBindings (p : xGf) (t : xTs)  (s : xGs) : Option (Bool × xGs) := FG_takesBindings_2 p t xFuel 0 s
set_option maxRecDepth 20000 in
theorem CG_takesBindings_2 {w : xw_G} {p : xGf} {d : Nat} (hp : xGok w p d) {h : xw_H}  {t : xTs} : ∀ (fu : Nat) {l1 : Int32} {s : xGs} {out : (Bool × xGs)} {h0 : xw_H}, FG_takesBindings_2 p t fu l1 s = some out → xw_X w (mG_takesBindings (xRG (d + 1))) (xw_R (some (.int (xb out.1))) (vG t out.2 h)) h0 0 0 2 [some (.ref 1013), some (.int l1)] [] (vG t s h) := by
  intro fu
  induction fu with
  | zero =>
    intro l1 s out h0 hF
    rw [FG_takesBindings_2] at hF
    cases hF
  | succ fu ih =>
    intro l1 s out h0 hF
    rw [FG_takesBindings_2] at hF
    refine xw_iload_n dG_takesBindings_2 rfl ?_
    refine xw_iconst (5) dG_takesBindings_3 (by decide) ?_
    refine xw_icmp_ge 60 dG_takesBindings_4 (by decide) (fun c391 => ?_) (fun c391 => ?_)
    · replace hF := xg_t c391 hF
      refine xw_iconst (1) dG_takesBindings_60 (by decide) ?_
      obtain rfl := Option.some.inj hF
      exact xw_ireturn dG_takesBindings_61 rfl (xb_nar true) (Nat.le_of_ble_eq_true rfl) (Nat.le_of_ble_eq_true rfl) ⟨rfl, rfl⟩
    · replace hF := xg_f c391 hF
      refine xw_iload_n dG_takesBindings_7 rfl ?_
      refine xw_if_le 20 dG_takesBindings_8 (by decide) (fun c392 => ?_) (fun c392 => ?_)
      · replace hF := xg_t c392 hF
        refine xw_aload_n dG_takesBindings_20 rfl ?_
        obtain ⟨r393, er393, hF⟩ := xg_b hF
        refine xg_V1 (k1 := 0) (n1 := 0) (CG_takesWord er393) rfl rfl rfl dG_takesBindings_21 (kG_124 _) (xRG_fit0 (Nat.le_of_ble_eq_true rfl) (Nat.le_of_ble_eq_true rfl)) rfl rfl rfl rfl (Nat.le_of_ble_eq_true rfl) (Nat.le_of_ble_eq_true rfl) (Nat.le_of_ble_eq_true rfl) (Nat.le_of_ble_eq_true rfl) (Nat.le_of_ble_eq_true rfl) ?_
        refine xw_if_eqB 52 dG_takesBindings_24 (by decide) (fun c394 => ?_) (fun c394 => ?_)
        · replace hF := xg_f c394 hF
          refine xw_iconst (0) dG_takesBindings_52 (by decide) ?_
          obtain rfl := Option.some.inj hF
          exact xw_ireturn dG_takesBindings_53 rfl (xb_nar false) (Nat.le_of_ble_eq_true rfl) (Nat.le_of_ble_eq_true rfl) ⟨rfl, rfl⟩
        · replace hF := xg_t c394 hF
          refine xw_aload_n dG_takesBindings_27 rfl ?_
          refine xw_bipush (44) dG_takesBindings_28 (by decide) ?_
          obtain ⟨r395, er395, hF⟩ := xg_b hF
          refine xg_V1 (k1 := 0) (n1 := 0) (CG_takes er395) rfl rfl rfl dG_takesBindings_30 (kG_22 _) (xRG_fit0 (Nat.le_of_ble_eq_true rfl) (Nat.le_of_ble_eq_true rfl)) rfl rfl rfl rfl (Nat.le_of_ble_eq_true rfl) (Nat.le_of_ble_eq_true rfl) (Nat.le_of_ble_eq_true rfl) (Nat.le_of_ble_eq_true rfl) (Nat.le_of_ble_eq_true rfl) ?_
          refine xw_if_eqB 52 dG_takesBindings_33 (by decide) (fun c396 => ?_) (fun c396 => ?_)
          · replace hF := xg_f c396 hF
            refine xw_iconst (0) dG_takesBindings_52 (by decide) ?_
            obtain rfl := Option.some.inj hF
            exact xw_ireturn dG_takesBindings_53 rfl (xb_nar false) (Nat.le_of_ble_eq_true rfl) (Nat.le_of_ble_eq_true rfl) ⟨rfl, rfl⟩
          · replace hF := xg_t c396 hF
            refine xw_aload_n dG_takesBindings_36 rfl ?_
            obtain ⟨r397, er397, hF⟩ := xg_b hF
            refine xg_V1 (k1 := 0) (n1 := 0) (hp.1 er397) rfl rfl rfl dG_takesBindings_37 (kG_26 _) (xRG_fit rfl (Nat.le_of_ble_eq_true rfl)) rfl rfl rfl rfl (Nat.le_of_ble_eq_true rfl) (Nat.le_of_ble_eq_true rfl) (Nat.le_of_ble_eq_true rfl) (Nat.le_of_ble_eq_true rfl) (Nat.le_of_ble_eq_true rfl) ?_
            refine xw_if_eqB 52 dG_takesBindings_40 (by decide) (fun c398 => ?_) (fun c398 => ?_)
            · replace hF := xg_f c398 hF
              refine xw_iconst (0) dG_takesBindings_52 (by decide) ?_
              obtain rfl := Option.some.inj hF
              exact xw_ireturn dG_takesBindings_53 rfl (xb_nar false) (Nat.le_of_ble_eq_true rfl) (Nat.le_of_ble_eq_true rfl) ⟨rfl, rfl⟩
            · replace hF := xg_t c398 hF
              refine xw_aload_n dG_takesBindings_43 rfl ?_
              refine xw_bipush (44) dG_takesBindings_44 (by decide) ?_
              obtain ⟨r399, er399, hF⟩ := xg_b hF
              refine xg_V1 (k1 := 0) (n1 := 0) (CG_takes er399) rfl rfl rfl dG_takesBindings_46 (kG_22 _) (xRG_fit0 (Nat.le_of_ble_eq_true rfl) (Nat.le_of_ble_eq_true rfl)) rfl rfl rfl rfl (Nat.le_of_ble_eq_true rfl) (Nat.le_of_ble_eq_true rfl) (Nat.le_of_ble_eq_true rfl) (Nat.le_of_ble_eq_true rfl) (Nat.le_of_ble_eq_true rfl) ?_
              refine xw_if_neB 54 dG_takesBindings_49 (by decide) (fun c400 => ?_) (fun c400 => ?_)
              · replace hF := xg_t c400 hF
                refine xw_iinc ((l1 + 1)) dG_takesBindings_54 rfl rfl (Nat.le_of_ble_eq_true rfl) ?_
                refine xw_Ln (L' := [some (.ref 1013), some (.int (l1 + 1))]) rfl ?_
                refine xw_goto 2 dG_takesBindings_57 (by decide) ?_
                exact ih hF
              · replace hF := xg_f c400 hF
                refine xw_iconst (0) dG_takesBindings_52 (by decide) ?_
                obtain rfl := Option.some.inj hF
                exact xw_ireturn dG_takesBindings_53 rfl (xb_nar false) (Nat.le_of_ble_eq_true rfl) (Nat.le_of_ble_eq_true rfl) ⟨rfl, rfl⟩
      · replace hF := xg_f c392 hF
        refine xw_aload_n dG_takesBindings_11 rfl ?_
        obtain ⟨r401, er401, hF⟩ := xg_b hF
        refine xg_V1 (k1 := 0) (n1 := 0) (CG_isWordWithComma er401) rfl rfl rfl dG_takesBindings_12 (kG_121 _) (xRG_fit0 (Nat.le_of_ble_eq_true rfl) (Nat.le_of_ble_eq_true rfl)) rfl rfl rfl rfl (Nat.le_of_ble_eq_true rfl) (Nat.le_of_ble_eq_true rfl) (Nat.le_of_ble_eq_true rfl) (Nat.le_of_ble_eq_true rfl) (Nat.le_of_ble_eq_true rfl) ?_
        refine xw_if_neB 20 dG_takesBindings_15 (by decide) (fun c402 => ?_) (fun c402 => ?_)
        · replace hF := xg_t c402 hF
          refine xw_aload_n dG_takesBindings_20 rfl ?_
          obtain ⟨r403, er403, hF⟩ := xg_b hF
          refine xg_V1 (k1 := 0) (n1 := 0) (CG_takesWord er403) rfl rfl rfl dG_takesBindings_21 (kG_124 _) (xRG_fit0 (Nat.le_of_ble_eq_true rfl) (Nat.le_of_ble_eq_true rfl)) rfl rfl rfl rfl (Nat.le_of_ble_eq_true rfl) (Nat.le_of_ble_eq_true rfl) (Nat.le_of_ble_eq_true rfl) (Nat.le_of_ble_eq_true rfl) (Nat.le_of_ble_eq_true rfl) ?_
          refine xw_if_eqB 52 dG_takesBindings_24 (by decide) (fun c404 => ?_) (fun c404 => ?_)
          · replace hF := xg_f c404 hF
            refine xw_iconst (0) dG_takesBindings_52 (by decide) ?_
            obtain rfl := Option.some.inj hF
            exact xw_ireturn dG_takesBindings_53 rfl (xb_nar false) (Nat.le_of_ble_eq_true rfl) (Nat.le_of_ble_eq_true rfl) ⟨rfl, rfl⟩
          · replace hF := xg_t c404 hF
            refine xw_aload_n dG_takesBindings_27 rfl ?_
            refine xw_bipush (44) dG_takesBindings_28 (by decide) ?_
            obtain ⟨r405, er405, hF⟩ := xg_b hF
            refine xg_V1 (k1 := 0) (n1 := 0) (CG_takes er405) rfl rfl rfl dG_takesBindings_30 (kG_22 _) (xRG_fit0 (Nat.le_of_ble_eq_true rfl) (Nat.le_of_ble_eq_true rfl)) rfl rfl rfl rfl (Nat.le_of_ble_eq_true rfl) (Nat.le_of_ble_eq_true rfl) (Nat.le_of_ble_eq_true rfl) (Nat.le_of_ble_eq_true rfl) (Nat.le_of_ble_eq_true rfl) ?_
            refine xw_if_eqB 52 dG_takesBindings_33 (by decide) (fun c406 => ?_) (fun c406 => ?_)
            · replace hF := xg_f c406 hF
              refine xw_iconst (0) dG_takesBindings_52 (by decide) ?_
              obtain rfl := Option.some.inj hF
              exact xw_ireturn dG_takesBindings_53 rfl (xb_nar false) (Nat.le_of_ble_eq_true rfl) (Nat.le_of_ble_eq_true rfl) ⟨rfl, rfl⟩
            · replace hF := xg_t c406 hF
              refine xw_aload_n dG_takesBindings_36 rfl ?_
              obtain ⟨r407, er407, hF⟩ := xg_b hF
              refine xg_V1 (k1 := 0) (n1 := 0) (hp.1 er407) rfl rfl rfl dG_takesBindings_37 (kG_26 _) (xRG_fit rfl (Nat.le_of_ble_eq_true rfl)) rfl rfl rfl rfl (Nat.le_of_ble_eq_true rfl) (Nat.le_of_ble_eq_true rfl) (Nat.le_of_ble_eq_true rfl) (Nat.le_of_ble_eq_true rfl) (Nat.le_of_ble_eq_true rfl) ?_
              refine xw_if_eqB 52 dG_takesBindings_40 (by decide) (fun c408 => ?_) (fun c408 => ?_)
              · replace hF := xg_f c408 hF
                refine xw_iconst (0) dG_takesBindings_52 (by decide) ?_
                obtain rfl := Option.some.inj hF
                exact xw_ireturn dG_takesBindings_53 rfl (xb_nar false) (Nat.le_of_ble_eq_true rfl) (Nat.le_of_ble_eq_true rfl) ⟨rfl, rfl⟩
              · replace hF := xg_t c408 hF
                refine xw_aload_n dG_takesBindings_43 rfl ?_
                refine xw_bipush (44) dG_takesBindings_44 (by decide) ?_
                obtain ⟨r409, er409, hF⟩ := xg_b hF
                refine xg_V1 (k1 := 0) (n1 := 0) (CG_takes er409) rfl rfl rfl dG_takesBindings_46 (kG_22 _) (xRG_fit0 (Nat.le_of_ble_eq_true rfl) (Nat.le_of_ble_eq_true rfl)) rfl rfl rfl rfl (Nat.le_of_ble_eq_true rfl) (Nat.le_of_ble_eq_true rfl) (Nat.le_of_ble_eq_true rfl) (Nat.le_of_ble_eq_true rfl) (Nat.le_of_ble_eq_true rfl) ?_
                refine xw_if_neB 54 dG_takesBindings_49 (by decide) (fun c410 => ?_) (fun c410 => ?_)
                · replace hF := xg_t c410 hF
                  refine xw_iinc ((l1 + 1)) dG_takesBindings_54 rfl rfl (Nat.le_of_ble_eq_true rfl) ?_
                  refine xw_Ln (L' := [some (.ref 1013), some (.int (l1 + 1))]) rfl ?_
                  refine xw_goto 2 dG_takesBindings_57 (by decide) ?_
                  exact ih hF
                · replace hF := xg_f c410 hF
                  refine xw_iconst (0) dG_takesBindings_52 (by decide) ?_
                  obtain rfl := Option.some.inj hF
                  exact xw_ireturn dG_takesBindings_53 rfl (xb_nar false) (Nat.le_of_ble_eq_true rfl) (Nat.le_of_ble_eq_true rfl) ⟨rfl, rfl⟩
        · replace hF := xg_f c402 hF
          refine xw_iconst (1) dG_takesBindings_18 (by decide) ?_
          obtain rfl := Option.some.inj hF
          exact xw_ireturn dG_takesBindings_19 rfl (xb_nar true) (Nat.le_of_ble_eq_true rfl) (Nat.le_of_ble_eq_true rfl) ⟨rfl, rfl⟩
set_option maxRecDepth 20000 in
theorem CG_takesBindings {w : xw_G} {p : xGf} {d : Nat} (hp : xGok w p d) {h : xw_H}  {t : xTs}  {s : xGs} {out : (Bool × xGs)} (hF : FG_takesBindings p t  s = some out) : xw_C w (mG_takesBindings (xRG (d + 1))) (xw_R (some (.int (xb out.1))) (vG t out.2 h)) [.ref 1013] (vG t s h) := by
  unfold FG_takesBindings at hF
  refine xw_enter rfl (show plainName "FormulaShaper$Grammar" = true by decide +kernel) (Nat.le_of_ble_eq_true rfl) ?_
  refine xw_iconst (0) dG_takesBindings_0 (by decide) ?_
  refine xw_istore_n dG_takesBindings_1 (Nat.le_of_ble_eq_true rfl) ?_
  refine xw_Ln (L' := [some (.ref 1013), some (.int 0)]) rfl ?_
  exact CG_takesBindings_2 (hp := hp) xFuel hF
def xGstep (p : xGf) : xGf := (FG_takesExpression p, FG_takesOperand p, FG_takesAtom p, FG_takesName p, FG_takesCall p, FG_takesList p, FG_takesBindings p)
def xGat : Nat → xGf
  | 0 => (fun _ _ => none, fun _ _ => none, fun _ _ => none, fun _ _ => none, fun _ _ _ => none, fun _ _ _ _ => none, fun _ _ => none)
  | d + 1 => xGstep (xGat d)
theorem xGok_at (w : xw_G) : ∀ d : Nat, xGok w (xGat d) d
  | 0 => ⟨fun q => (Option.some_ne_none _ q.symm).elim, fun q => (Option.some_ne_none _ q.symm).elim, fun q => (Option.some_ne_none _ q.symm).elim, fun q => (Option.some_ne_none _ q.symm).elim, fun q => (Option.some_ne_none _ q.symm).elim, fun q => (Option.some_ne_none _ q.symm).elim, fun q => (Option.some_ne_none _ q.symm).elim⟩
  | d + 1 => ⟨fun q => CG_takesExpression (hp := xGok_at w d) q, fun q => CG_takesOperand (hp := xGok_at w d) q, fun q => CG_takesAtom (hp := xGok_at w d) q, fun q => CG_takesName (hp := xGok_at w d) q, fun q => CG_takesCall (hp := xGok_at w d) q, fun q => CG_takesList (hp := xGok_at w d) q, fun q => CG_takesBindings (hp := xGok_at w d) q⟩
