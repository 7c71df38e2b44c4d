def FY_indexOf_2  : Nat → Int32 → Int32 → Int32 → xBs → Option Int32
  | 0, _, _, _, _ => none
  | fu + 1, l1, l2, l3, s => if (nI 10) ≤ l3 then (some ((nI 10) - 1)) else (if 0 ≤ l3 ∧ l3 < nI 10 then (if (l3).toNatClampNeg < 10 then ((FB_hasOneOf (xk_ar.getD (l3).toNatClampNeg (0, 0, 0)).2.2 l1 l2 s).bind fun r57 => if r57 = true then (some l3) else (FY_indexOf_2  fu l1 l2 (l3 + 1) s)) else none) else none)
/-- FormulaShaper$Arity.indexOf -/
def FY_indexOf  (x1 : Int32) (x2 : Int32) (s : xBs) : Option Int32 := FY_indexOf_2  xFuel x1 x2 0 s
set_option maxRecDepth 20000 in
theorem CY_indexOf_2 {w : xw_G} {h : xw_H} {a : Nat} (ha : 1000 ≤ a)  : ∀ (fu : Nat) {l1 : Int32} {l2 : Int32} {l3 : Int32} {s : xBs} {out : Int32} {h0 : xw_H}, FY_indexOf_2  fu l1 l2 l3 s = some out → xw_X w (mY_indexOf { frames := 6, cells := 0, slots := 0, locals := 135 }) (xw_R (some (.int out)) (vB a s h)) h0 0 0 2 [some (.ref a), some (.int l1), some (.int l2), some (.int l3)] [] (vB a s h) := by
  intro fu
  induction fu with
  | zero =>
    intro l1 l2 l3 s out h0 hF
    rw [FY_indexOf_2] at hF
    cases hF
  | succ fu ih =>
    intro l1 l2 l3 s out h0 hF
    rw [FY_indexOf_2] at hF
    refine xw_iload_n dY_indexOf_2 rfl ?_
    refine xw_getsK dY_indexOf_3 tw_464 (List.mem_of_getElem? (i := 1) rfl) rfl ?_
    refine xw_alenK (nI 10) dY_indexOf_6 xk_mAll (by decide) rfl ?_
    refine xw_icmp_ge 35 dY_indexOf_7 (by decide) (fun c54 => ?_) (fun c54 => ?_)
    · replace hF := xg_t c54 hF
      refine xw_getsK dY_indexOf_35 tw_464 (List.mem_of_getElem? (i := 1) rfl) rfl ?_
      refine xw_alenK (nI 10) dY_indexOf_38 xk_mAll (by decide) rfl ?_
      refine xw_iconst (1) dY_indexOf_39 (by decide) ?_
      refine xw_isub dY_indexOf_40 ?_
      obtain rfl := Option.some.inj hF
      exact xw_ireturn dY_indexOf_41 rfl rfl (Nat.le_of_ble_eq_true rfl) (Nat.le_of_ble_eq_true rfl) ⟨rfl, rfl⟩
    · replace hF := xg_f c54 hF
      refine xw_aload_n dY_indexOf_10 rfl ?_
      refine xw_getsK dY_indexOf_11 tw_464 (List.mem_of_getElem? (i := 1) rfl) rfl ?_
      refine xw_iload_n dY_indexOf_14 rfl ?_
      obtain ⟨g55, hF⟩ := xg_g hF
      refine xw_aaloadK g55 dY_indexOf_15 xk_mAll (by decide) (by decide) rfl (by have := (xg_ix (by decide) g55).2; omega) ?_
      obtain ⟨g56, hF⟩ := xg_g hF
      refine xw_getK dY_indexOf_16 tw_1411 (xk_arF g56).2.2.1 (by omega) (xk_cv_s (xk_arF g56).2.2.2) ?_
      refine xw_iload_n dY_indexOf_19 rfl ?_
      refine xw_iload_n dY_indexOf_20 rfl ?_
      obtain ⟨r57, er57, hF⟩ := xg_b hF
      refine xg_V1 (k1 := 0) (n1 := 0) (CB_hasOneOf ha er57) rfl rfl rfl dY_indexOf_21 (kY_69 _) ⟨Nat.le_of_ble_eq_true rfl, Nat.le_of_ble_eq_true rfl⟩ rfl rfl vB_o rfl (Nat.le_of_ble_eq_true rfl) (Nat.le_of_ble_eq_true rfl) (Nat.le_of_ble_eq_true rfl) (Nat.le_of_ble_eq_true rfl) (Nat.le_of_ble_eq_true rfl) ?_
      refine xw_if_eqB 29 dY_indexOf_24 (by decide) (fun c58 => ?_) (fun c58 => ?_)
      · replace hF := xg_f c58 hF
        refine xw_iinc ((l3 + 1)) dY_indexOf_29 rfl rfl (Nat.le_of_ble_eq_true rfl) ?_
        refine xw_Ln (L' := [some (.ref a), some (.int l1), some (.int l2), some (.int (l3 + 1))]) rfl ?_
        refine xw_goto 2 dY_indexOf_32 (by decide) ?_
        exact ih hF
      · replace hF := xg_t c58 hF
        refine xw_iload_n dY_indexOf_27 rfl ?_
        obtain rfl := Option.some.inj hF
        exact xw_ireturn dY_indexOf_28 rfl rfl (Nat.le_of_ble_eq_true rfl) (Nat.le_of_ble_eq_true rfl) ⟨rfl, rfl⟩
set_option maxRecDepth 20000 in
theorem CY_indexOf {w : xw_G} {h : xw_H} {a : Nat} (ha : 1000 ≤ a)  {x1 : Int32} {x2 : Int32} {s : xBs} {out : Int32} (hF : FY_indexOf  x1 x2 s = some out) : xw_C w (mY_indexOf { frames := 6, cells := 0, slots := 0, locals := 135 }) (xw_R (some (.int out)) (vB a s h)) [.ref a, .int x1, .int x2] (vB a s h) := by
  unfold FY_indexOf at hF
  refine xw_enter rfl (show plainName "FormulaShaper$Arity" = true by decide +kernel) (Nat.le_of_ble_eq_true rfl) ?_
  refine xw_iconst (0) dY_indexOf_0 (by decide) ?_
  refine xw_istore_n dY_indexOf_1 (Nat.le_of_ble_eq_true rfl) ?_
  refine xw_Ln (L' := [some (.ref a), some (.int x1), some (.int x2), some (.int 0)]) rfl ?_
  exact CY_indexOf_2 ha xFuel hF
/-- FormulaShaper$Arity.at -/
def FY_at  (x0 : Int32) : Option Nat := if x0 < 0 then (some 9) else (if (nI 10) ≤ x0 then (some 9) else (if 0 ≤ x0 ∧ x0 < nI 10 then (some (x0).toNatClampNeg) else none))
set_option maxRecDepth 20000 in
theorem CY_at {w : xw_G} {h : xw_H}   {x0 : Int32} {out : Nat} (hF : FY_at  x0 = some out) : xw_C w (mY_at { frames := 0, cells := 0, slots := 0, locals := 0 }) (xw_R (some (.ref (100 + out))) (h)) [.int x0] (h) := by
  unfold FY_at at hF
  refine xw_enter rfl (show plainName "FormulaShaper$Arity" = true by decide +kernel) (Nat.le_of_ble_eq_true rfl) ?_
  refine xw_iload_n dY_at_0 rfl ?_
  refine xw_if_lt 20 dY_at_1 (by decide) (fun c59 => ?_) (fun c59 => ?_)
  · replace hF := xg_t c59 hF
    refine xw_getsK dY_at_20 tw_616 (List.mem_of_getElem? (i := 2) rfl) rfl ?_
    obtain rfl := Option.some.inj hF
    exact xw_areturn dY_at_23 rfl (Or.inl ⟨_, rfl⟩) (Nat.le_of_ble_eq_true rfl) (Nat.le_of_ble_eq_true rfl) ⟨rfl, rfl⟩
  · replace hF := xg_f c59 hF
    refine xw_iload_n dY_at_4 rfl ?_
    refine xw_getsK dY_at_5 tw_464 (List.mem_of_getElem? (i := 1) rfl) rfl ?_
    refine xw_alenK (nI 10) dY_at_8 xk_mAll (by decide) rfl ?_
    refine xw_icmp_ge 20 dY_at_9 (by decide) (fun c60 => ?_) (fun c60 => ?_)
    · replace hF := xg_t c60 hF
      refine xw_getsK dY_at_20 tw_616 (List.mem_of_getElem? (i := 2) rfl) rfl ?_
      obtain rfl := Option.some.inj hF
      exact xw_areturn dY_at_23 rfl (Or.inl ⟨_, rfl⟩) (Nat.le_of_ble_eq_true rfl) (Nat.le_of_ble_eq_true rfl) ⟨rfl, rfl⟩
    · replace hF := xg_f c60 hF
      refine xw_getsK dY_at_12 tw_464 (List.mem_of_getElem? (i := 1) rfl) rfl ?_
      refine xw_iload_n dY_at_15 rfl ?_
      obtain ⟨g61, hF⟩ := xg_g hF
      refine xw_aaloadK g61 dY_at_16 xk_mAll (by decide) (by decide) rfl (by have := (xg_ix (by decide) g61).2; omega) ?_
      refine xw_goto 23 dY_at_17 (by decide) ?_
      obtain rfl := Option.some.inj hF
      exact xw_areturn dY_at_23 rfl (Or.inl ⟨_, rfl⟩) (Nat.le_of_ble_eq_true rfl) (Nat.le_of_ble_eq_true rfl) ⟨rfl, rfl⟩
/-- FormulaShaper$Splitter.behindMark -/
def FP_behindMark (b : xBs) (x0 : Int32) (s : xPs) : Option Int32 := (FB_at x0 b).bind fun r62 => if r62 = 36 then (some (x0 + 1)) else (some x0)
set_option maxRecDepth 20000 in
theorem CP_behindMark {w : xw_G} {h : xw_H}  {b : xBs} {x0 : Int32} {s : xPs} {out : Int32} (hF : FP_behindMark b x0 s = some out) : xw_C w (mP_behindMark { frames := 1, cells := 0, slots := 0, locals := 21 }) (xw_R (some (.int out)) (vP b s h)) [.ref 1012, .int x0] (vP b s h) := by
  unfold FP_behindMark at hF
  refine xw_enter rfl (show plainName "FormulaShaper$Splitter" = true by decide +kernel) (Nat.le_of_ble_eq_true rfl) ?_
  refine xw_aload_n dP_behindMark_0 rfl ?_
  refine xw_get dP_behindMark_1 fP_9 rfl rfl ?_
  refine xw_iload_n dP_behindMark_4 rfl ?_
  obtain ⟨r62, er62, hF⟩ := xg_b hF
  refine xg_V1 (k1 := 0) (n1 := 0) (CB_at (a := 1001) (by decide) er62) (vP_B (b := b) (s := s) (h := h)) (vP_B (b := b) (s := s) (h := h)).symm rfl dP_behindMark_5 (kP_52 _) ⟨Nat.le_of_ble_eq_true rfl, Nat.le_of_ble_eq_true rfl⟩ rfl rfl rfl rfl (Nat.le_of_ble_eq_true rfl) (Nat.le_of_ble_eq_true rfl) (Nat.le_of_ble_eq_true rfl) (Nat.le_of_ble_eq_true rfl) (Nat.le_of_ble_eq_true rfl) ?_
  refine xw_bipush (36) dP_behindMark_8 (by decide) ?_
  refine xw_icmp_ne 19 dP_behindMark_10 (by decide) (fun c63 => ?_) (fun c63 => ?_)
  · replace hF := xg_f c63 hF
    refine xw_iload_n dP_behindMark_19 rfl ?_
    obtain rfl := Option.some.inj hF
    exact xw_ireturn dP_behindMark_20 rfl rfl (Nat.le_of_ble_eq_true rfl) (Nat.le_of_ble_eq_true rfl) ⟨rfl, rfl⟩
  · replace hF := xg_t c63 hF
    refine xw_iload_n dP_behindMark_13 rfl ?_
    refine xw_iconst (1) dP_behindMark_14 (by decide) ?_
    refine xw_iadd dP_behindMark_15 ?_
    refine xw_goto 20 dP_behindMark_16 (by decide) ?_
    obtain rfl := Option.some.inj hF
    exact xw_ireturn dP_behindMark_20 rfl rfl (Nat.le_of_ble_eq_true rfl) (Nat.le_of_ble_eq_true rfl) ⟨rfl, rfl⟩
def FP_digitsStop_2 (b : xBs) : Nat → Int32 → Int32 → Int32 → xPs → Option Int32
  | 0, _, _, _, _ => none
  | fu + 1, l1, l2, l3, s => if (l1 + l2) ≤ l3 then (some l3) else ((FB_at l3 b).bind fun r65 => if (sP_isDigit r65) = 0 then (some l3) else (FP_digitsStop_2 b fu l1 l2 (l3 + 1) s))
/-- FormulaShaper$Splitter.digitsStop -/
def FP_digitsStop (b : xBs) (x0 : Int32) (x1 : Int32) (s : xPs) : Option Int32 := FP_digitsStop_2 b xFuel x0 x1 x0 s
set_option maxRecDepth 20000 in
theorem CP_digitsStop_2 {w : xw_G} {h : xw_H}  {b : xBs} : ∀ (fu : Nat) {l1 : Int32} {l2 : Int32} {l3 : Int32} {s : xPs} {out : Int32} {h0 : xw_H}, FP_digitsStop_2 b fu l1 l2 l3 s = some out → xw_X w (mP_digitsStop { frames := 1, cells := 0, slots := 0, locals := 21 }) (xw_R (some (.int out)) (vP b s h)) h0 0 0 2 [some (.ref 1012), some (.int l1), some (.int l2), some (.int l3)] [] (vP b s h) := by
  intro fu
  induction fu with
  | zero =>
    intro l1 l2 l3 s out h0 hF
    rw [FP_digitsStop_2] at hF
    cases hF
  | succ fu ih =>
    intro l1 l2 l3 s out h0 hF
    rw [FP_digitsStop_2] at hF
    refine xw_iload_n dP_digitsStop_2 rfl ?_
    refine xw_iload_n dP_digitsStop_3 rfl ?_
    refine xw_iload_n dP_digitsStop_4 rfl ?_
    refine xw_iadd dP_digitsStop_5 ?_
    refine xw_icmp_ge 29 dP_digitsStop_6 (by decide) (fun c64 => ?_) (fun c64 => ?_)
    · replace hF := xg_t c64 hF
      refine xw_iload_n dP_digitsStop_29 rfl ?_
      obtain rfl := Option.some.inj hF
      exact xw_ireturn dP_digitsStop_30 rfl rfl (Nat.le_of_ble_eq_true rfl) (Nat.le_of_ble_eq_true rfl) ⟨rfl, rfl⟩
    · replace hF := xg_f c64 hF
      refine xw_aload_n dP_digitsStop_9 rfl ?_
      refine xw_get dP_digitsStop_10 fP_9 rfl rfl ?_
      refine xw_iload_n dP_digitsStop_13 rfl ?_
      obtain ⟨r65, er65, hF⟩ := xg_b hF
      refine xg_V1 (k1 := 0) (n1 := 0) (CB_at (a := 1001) (by decide) er65) (vP_B (b := b) (s := s) (h := h)) (vP_B (b := b) (s := s) (h := h)).symm rfl dP_digitsStop_14 (kP_52 _) ⟨Nat.le_of_ble_eq_true rfl, Nat.le_of_ble_eq_true rfl⟩ rfl rfl rfl rfl (Nat.le_of_ble_eq_true rfl) (Nat.le_of_ble_eq_true rfl) (Nat.le_of_ble_eq_true rfl) (Nat.le_of_ble_eq_true rfl) (Nat.le_of_ble_eq_true rfl) ?_
      refine xg_S1 (k1 := 0) (n1 := 0) (cP_isDigit w) rfl rfl rfl dP_digitsStop_17 (kP_55 _) ⟨Nat.le_of_ble_eq_true rfl, Nat.le_of_ble_eq_true rfl⟩ rfl rfl (Nat.le_of_ble_eq_true rfl) (Nat.le_of_ble_eq_true rfl) (Nat.le_of_ble_eq_true rfl) (Nat.le_of_ble_eq_true rfl) (Nat.le_of_ble_eq_true rfl) ?_
      refine xw_if_eq 29 dP_digitsStop_20 (by decide) (fun c66 => ?_) (fun c66 => ?_)
      · replace hF := xg_t c66 hF
        refine xw_iload_n dP_digitsStop_29 rfl ?_
        obtain rfl := Option.some.inj hF
        exact xw_ireturn dP_digitsStop_30 rfl rfl (Nat.le_of_ble_eq_true rfl) (Nat.le_of_ble_eq_true rfl) ⟨rfl, rfl⟩
      · replace hF := xg_f c66 hF
        refine xw_iinc ((l3 + 1)) dP_digitsStop_23 rfl rfl (Nat.le_of_ble_eq_true rfl) ?_
        refine xw_Ln (L' := [some (.ref 1012), some (.int l1), some (.int l2), some (.int (l3 + 1))]) rfl ?_
        refine xw_goto 2 dP_digitsStop_26 (by decide) ?_
        exact ih hF
set_option maxRecDepth 20000 in
theorem CP_digitsStop {w : xw_G} {h : xw_H}  {b : xBs} {x0 : Int32} {x1 : Int32} {s : xPs} {out : Int32} (hF : FP_digitsStop b x0 x1 s = some out) : xw_C w (mP_digitsStop { frames := 1, cells := 0, slots := 0, locals := 21 }) (xw_R (some (.int out)) (vP b s h)) [.ref 1012, .int x0, .int x1] (vP b s h) := by
  unfold FP_digitsStop at hF
  refine xw_enter rfl (show plainName "FormulaShaper$Splitter" = true by decide +kernel) (Nat.le_of_ble_eq_true rfl) ?_
  refine xw_iload_n dP_digitsStop_0 rfl ?_
  refine xw_istore_n dP_digitsStop_1 (Nat.le_of_ble_eq_true rfl) ?_
  refine xw_Ln (L' := [some (.ref 1012), some (.int x0), some (.int x1), some (.int x0)]) rfl ?_
  exact CP_digitsStop_2 xFuel hF
def FP_valueOf_5 (b : xBs) : Nat → Int32 → Int64 → Int32 → xPs → Option Int64
  | 0, _, _, _, _ => none
  | fu + 1, l2, l3, l5, s => if l2 ≤ l5 then (some l3) else ((FB_at l5 b).bind fun r68 => FP_valueOf_5 b fu l2 (((l3 * (10)) + (Int32.toInt64 r68)) - (48)) (l5 + 1) s)
/-- FormulaShaper$Splitter.valueOf -/
def FP_valueOf (b : xBs) (x0 : Int32) (x1 : Int32) (s : xPs) : Option Int64 := FP_valueOf_5 b xFuel x1 0 x0 s
set_option maxRecDepth 20000 in
theorem CP_valueOf_5 {w : xw_G} {h : xw_H}  {b : xBs} : ∀ (fu : Nat) {l2 : Int32} {l3 : Int64} {l5 : Int32} {s : xPs} {out : Int64} {h0 : xw_H}, FP_valueOf_5 b fu l2 l3 l5 s = some out → xw_X w (mP_valueOf { frames := 1, cells := 0, slots := 0, locals := 21 }) (xw_R (some (.long out)) (vP b s h)) h0 0 0 5 [some (.ref 1012), none, some (.int l2), some (.long l3), none, some (.int l5)] [] (vP b s h) := by
  intro fu
  induction fu with
  | zero =>
    intro l2 l3 l5 s out h0 hF
    rw [FP_valueOf_5] at hF
    cases hF
  | succ fu ih =>
    intro l2 l3 l5 s out h0 hF
    rw [FP_valueOf_5] at hF
    refine xw_iload dP_valueOf_5 rfl ?_
    refine xw_iload_n dP_valueOf_7 rfl ?_
    refine xw_icmp_ge 38 dP_valueOf_8 (by decide) (fun c67 => ?_) (fun c67 => ?_)
    · replace hF := xg_t c67 hF
      refine xw_lload_n dP_valueOf_38 rfl ?_
      obtain rfl := Option.some.inj hF
      exact xw_lreturn dP_valueOf_39 rfl (Nat.le_of_ble_eq_true rfl) (Nat.le_of_ble_eq_true rfl) ⟨rfl, rfl⟩
    · replace hF := xg_f c67 hF
      refine xw_lload_n dP_valueOf_11 rfl ?_
      refine xw_ldc2 dP_valueOf_12 tw_290 ?_
      refine xw_lmul dP_valueOf_15 ?_
      refine xw_aload_n dP_valueOf_16 rfl ?_
      refine xw_get dP_valueOf_17 fP_9 rfl rfl ?_
      refine xw_iload dP_valueOf_20 rfl ?_
      obtain ⟨r68, er68, hF⟩ := xg_b hF
      refine xg_V1 (k1 := 0) (n1 := 0) (CB_at (a := 1001) (by decide) er68) (vP_B (b := b) (s := s) (h := h)) (vP_B (b := b) (s := s) (h := h)).symm rfl dP_valueOf_22 (kP_52 _) ⟨Nat.le_of_ble_eq_true rfl, Nat.le_of_ble_eq_true rfl⟩ rfl rfl rfl rfl (Nat.le_of_ble_eq_true rfl) (Nat.le_of_ble_eq_true rfl) (Nat.le_of_ble_eq_true rfl) (Nat.le_of_ble_eq_true rfl) (Nat.le_of_ble_eq_true rfl) ?_
      refine xw_i2l dP_valueOf_25 ?_
      refine xw_ladd dP_valueOf_26 ?_
      refine xw_ldc2 dP_valueOf_27 tw_291 ?_
      refine xw_lsub dP_valueOf_30 ?_
      refine xw_lstore_n dP_valueOf_31 (Nat.le_of_ble_eq_true rfl) ?_
      refine xw_Ln (L' := [some (.ref 1012), none, some (.int l2), some (.long (((l3 * (10)) + (Int32.toInt64 r68)) - (48))), none, some (.int l5)]) rfl ?_
      refine xw_iinc ((l5 + 1)) dP_valueOf_32 rfl rfl (Nat.le_of_ble_eq_true rfl) ?_
      refine xw_Ln (L' := [some (.ref 1012), none, some (.int l2), some (.long (((l3 * (10)) + (Int32.toInt64 r68)) - (48))), none, some (.int (l5 + 1))]) rfl ?_
      refine xw_goto 5 dP_valueOf_35 (by decide) ?_
      exact ih hF
set_option maxRecDepth 20000 in
theorem CP_valueOf {w : xw_G} {h : xw_H}  {b : xBs} {x0 : Int32} {x1 : Int32} {s : xPs} {out : Int64} (hF : FP_valueOf b x0 x1 s = some out) : xw_C w (mP_valueOf { frames := 1, cells := 0, slots := 0, locals := 21 }) (xw_R (some (.long out)) (vP b s h)) [.ref 1012, .int x0, .int x1] (vP b s h) := by
  unfold FP_valueOf at hF
  refine xw_enter rfl (show plainName "FormulaShaper$Splitter" = true by decide +kernel) (Nat.le_of_ble_eq_true rfl) ?_
  refine xw_lconst (0) dP_valueOf_0 (by decide) ?_
  refine xw_lstore_n dP_valueOf_1 (Nat.le_of_ble_eq_true rfl) ?_
  refine xw_Ln (L' := [some (.ref 1012), some (.int x0), some (.int x1), some (.long 0), none, none]) rfl ?_
  refine xw_iload_n dP_valueOf_2 rfl ?_
  refine xw_istore dP_valueOf_3 (Nat.le_of_ble_eq_true rfl) ?_
  refine xw_Ln (L' := [some (.ref 1012), some (.int x0), some (.int x1), some (.long 0), none, some (.int x0)]) rfl ?_
  refine xw_drop (L' := [some (.ref 1012), none, some (.int x1), some (.long 0), none, some (.int x0)]) ⟨rfl, ⟨rfl, ⟨rfl, ⟨rfl, trivial⟩⟩⟩⟩ ?_
  exact CP_valueOf_5 xFuel hF
/-- FormulaShaper$Splitter.columnOf -/
def FP_columnOf (b : xBs) (x0 : Int32) (s : xPs) : Option Int32 := (FP_behindMark b x0 s).bind fun r69 => (FB_at r69 b).bind fun r70 => if r69 ≤ x0 then (some (sA_edge (r70 - 65) 0)) else (some (sA_edge (r70 - 65) 1))
set_option maxRecDepth 20000 in
theorem CP_columnOf {w : xw_G} {h : xw_H}  {b : xBs} {x0 : Int32} {s : xPs} {out : Int32} (hF : FP_columnOf b x0 s = some out) : xw_C w (mP_columnOf { frames := 2, cells := 0, slots := 0, locals := 42 }) (xw_R (some (.int out)) (vP b s h)) [.ref 1012, .int x0] (vP b s h) := by
  unfold FP_columnOf at hF
  refine xw_enter rfl (show plainName "FormulaShaper$Splitter" = true by decide +kernel) (Nat.le_of_ble_eq_true rfl) ?_
  refine xw_aload_n dP_columnOf_0 rfl ?_
  refine xw_iload_n dP_columnOf_1 rfl ?_
  obtain ⟨r69, er69, hF⟩ := xg_b hF
  refine xg_V1 (k1 := 0) (n1 := 0) (CP_behindMark er69) rfl rfl rfl dP_columnOf_2 (kP_146 _) ⟨Nat.le_of_ble_eq_true rfl, Nat.le_of_ble_eq_true rfl⟩ rfl rfl rfl rfl (Nat.le_of_ble_eq_true rfl) (Nat.le_of_ble_eq_true rfl) (Nat.le_of_ble_eq_true rfl) (Nat.le_of_ble_eq_true rfl) (Nat.le_of_ble_eq_true rfl) ?_
  refine xw_istore_n dP_columnOf_5 (Nat.le_of_ble_eq_true rfl) ?_
  refine xw_Ln (L' := [some (.ref 1012), some (.int x0), some (.int r69)]) rfl ?_
  refine xw_aload_n dP_columnOf_6 rfl ?_
  refine xw_get dP_columnOf_7 fP_9 rfl rfl ?_
  refine xw_iload_n dP_columnOf_10 rfl ?_
  obtain ⟨r70, er70, hF⟩ := xg_b hF
  refine xg_V1 (k1 := 0) (n1 := 0) (CB_at (a := 1001) (by decide) er70) (vP_B (b := b) (s := s) (h := h)) (vP_B (b := b) (s := s) (h := h)).symm rfl dP_columnOf_11 (kP_52 _) ⟨Nat.le_of_ble_eq_true rfl, Nat.le_of_ble_eq_true rfl⟩ rfl rfl rfl rfl (Nat.le_of_ble_eq_true rfl) (Nat.le_of_ble_eq_true rfl) (Nat.le_of_ble_eq_true rfl) (Nat.le_of_ble_eq_true rfl) (Nat.le_of_ble_eq_true rfl) ?_
  refine xw_bipush (65) dP_columnOf_14 (by decide) ?_
  refine xw_isub dP_columnOf_16 ?_
  refine xw_iload_n dP_columnOf_17 rfl ?_
  refine xw_iload_n dP_columnOf_18 rfl ?_
  refine xw_icmp_le 26 dP_columnOf_19 (by decide) (fun c71 => ?_) (fun c71 => ?_)
  · replace hF := xg_t c71 hF
    refine xw_iconst (0) dP_columnOf_26 (by decide) ?_
    refine xg_S1 (k1 := 0) (n1 := 0) (cA_edge w) rfl rfl rfl dP_columnOf_27 (kP_154 _) ⟨Nat.le_of_ble_eq_true rfl, Nat.le_of_ble_eq_true rfl⟩ rfl rfl (Nat.le_of_ble_eq_true rfl) (Nat.le_of_ble_eq_true rfl) (Nat.le_of_ble_eq_true rfl) (Nat.le_of_ble_eq_true rfl) (Nat.le_of_ble_eq_true rfl) ?_
    obtain rfl := Option.some.inj hF
    exact xw_ireturn dP_columnOf_30 rfl rfl (Nat.le_of_ble_eq_true rfl) (Nat.le_of_ble_eq_true rfl) ⟨rfl, rfl⟩
  · replace hF := xg_f c71 hF
    refine xw_iconst (1) dP_columnOf_22 (by decide) ?_
    refine xw_goto 27 dP_columnOf_23 (by decide) ?_
    refine xg_S1 (k1 := 0) (n1 := 0) (cA_edge w) rfl rfl rfl dP_columnOf_27 (kP_154 _) ⟨Nat.le_of_ble_eq_true rfl, Nat.le_of_ble_eq_true rfl⟩ rfl rfl (Nat.le_of_ble_eq_true rfl) (Nat.le_of_ble_eq_true rfl) (Nat.le_of_ble_eq_true rfl) (Nat.le_of_ble_eq_true rfl) (Nat.le_of_ble_eq_true rfl) ?_
    obtain rfl := Option.some.inj hF
    exact xw_ireturn dP_columnOf_30 rfl rfl (Nat.le_of_ble_eq_true rfl) (Nat.le_of_ble_eq_true rfl) ⟨rfl, rfl⟩
/-- FormulaShaper$Splitter.rowOf -/
def FP_rowOf (b : xBs) (x0 : Int32) (x1 : Int32) (s : xPs) : Option Int32 := (FP_behindMark b x0 s).bind fun r72 => (FP_behindMark b (r72 + 1) s).bind fun r73 => (FP_valueOf b r73 x1 s).bind fun r74 => if r73 ≤ (r72 + 1) then (some (sA_edge ((Int64.toInt32 r74) - 1) 0)) else (some (sA_edge ((Int64.toInt32 r74) - 1) 1))
set_option maxRecDepth 20000 in
theorem CP_rowOf {w : xw_G} {h : xw_H}  {b : xBs} {x0 : Int32} {x1 : Int32} {s : xPs} {out : Int32} (hF : FP_rowOf b x0 x1 s = some out) : xw_C w (mP_rowOf { frames := 2, cells := 0, slots := 0, locals := 46 }) (xw_R (some (.int out)) (vP b s h)) [.ref 1012, .int x0, .int x1] (vP b s h) := by
  unfold FP_rowOf at hF
  refine xw_enter rfl (show plainName "FormulaShaper$Splitter" = true by decide +kernel) (Nat.le_of_ble_eq_true rfl) ?_
  refine xw_aload_n dP_rowOf_0 rfl ?_
  refine xw_iload_n dP_rowOf_1 rfl ?_
  obtain ⟨r72, er72, hF⟩ := xg_b hF
  refine xg_V1 (k1 := 0) (n1 := 0) (CP_behindMark er72) rfl rfl rfl dP_rowOf_2 (kP_146 _) ⟨Nat.le_of_ble_eq_true rfl, Nat.le_of_ble_eq_true rfl⟩ rfl rfl rfl rfl (Nat.le_of_ble_eq_true rfl) (Nat.le_of_ble_eq_true rfl) (Nat.le_of_ble_eq_true rfl) (Nat.le_of_ble_eq_true rfl) (Nat.le_of_ble_eq_true rfl) ?_
  refine xw_istore_n dP_rowOf_5 (Nat.le_of_ble_eq_true rfl) ?_
  refine xw_Ln (L' := [some (.ref 1012), some (.int x0), some (.int x1), some (.int r72), none]) rfl ?_
  refine xw_aload_n dP_rowOf_6 rfl ?_
  refine xw_iload_n dP_rowOf_7 rfl ?_
  refine xw_iconst (1) dP_rowOf_8 (by decide) ?_
  refine xw_iadd dP_rowOf_9 ?_
  obtain ⟨r73, er73, hF⟩ := xg_b hF
  refine xg_V1 (k1 := 0) (n1 := 0) (CP_behindMark er73) rfl rfl rfl dP_rowOf_10 (kP_146 _) ⟨Nat.le_of_ble_eq_true rfl, Nat.le_of_ble_eq_true rfl⟩ rfl rfl rfl rfl (Nat.le_of_ble_eq_true rfl) (Nat.le_of_ble_eq_true rfl) (Nat.le_of_ble_eq_true rfl) (Nat.le_of_ble_eq_true rfl) (Nat.le_of_ble_eq_true rfl) ?_
  refine xw_istore dP_rowOf_13 (Nat.le_of_ble_eq_true rfl) ?_
  refine xw_Ln (L' := [some (.ref 1012), some (.int x0), some (.int x1), some (.int r72), some (.int r73)]) rfl ?_
  refine xw_aload_n dP_rowOf_15 rfl ?_
  refine xw_iload dP_rowOf_16 rfl ?_
  refine xw_iload_n dP_rowOf_18 rfl ?_
  obtain ⟨r74, er74, hF⟩ := xg_b hF
  refine xg_V1 (k1 := 0) (n1 := 0) (CP_valueOf er74) rfl rfl rfl dP_rowOf_19 (kP_104 _) ⟨Nat.le_of_ble_eq_true rfl, Nat.le_of_ble_eq_true rfl⟩ rfl rfl rfl rfl (Nat.le_of_ble_eq_true rfl) (Nat.le_of_ble_eq_true rfl) (Nat.le_of_ble_eq_true rfl) (Nat.le_of_ble_eq_true rfl) (Nat.le_of_ble_eq_true rfl) ?_
  refine xw_l2i dP_rowOf_22 ?_
  refine xw_iconst (1) dP_rowOf_23 (by decide) ?_
  refine xw_isub dP_rowOf_24 ?_
  refine xw_iload dP_rowOf_25 rfl ?_
  refine xw_iload_n dP_rowOf_27 rfl ?_
  refine xw_iconst (1) dP_rowOf_28 (by decide) ?_
  refine xw_iadd dP_rowOf_29 ?_
  refine xw_icmp_le 37 dP_rowOf_30 (by decide) (fun c75 => ?_) (fun c75 => ?_)
  · replace hF := xg_t c75 hF
    refine xw_iconst (0) dP_rowOf_37 (by decide) ?_
    refine xg_S1 (k1 := 0) (n1 := 0) (cA_edge w) rfl rfl rfl dP_rowOf_38 (kP_154 _) ⟨Nat.le_of_ble_eq_true rfl, Nat.le_of_ble_eq_true rfl⟩ rfl rfl (Nat.le_of_ble_eq_true rfl) (Nat.le_of_ble_eq_true rfl) (Nat.le_of_ble_eq_true rfl) (Nat.le_of_ble_eq_true rfl) (Nat.le_of_ble_eq_true rfl) ?_
    obtain rfl := Option.some.inj hF
    exact xw_ireturn dP_rowOf_41 rfl rfl (Nat.le_of_ble_eq_true rfl) (Nat.le_of_ble_eq_true rfl) ⟨rfl, rfl⟩
  · replace hF := xg_f c75 hF
    refine xw_iconst (1) dP_rowOf_33 (by decide) ?_
    refine xw_goto 38 dP_rowOf_34 (by decide) ?_
    refine xg_S1 (k1 := 0) (n1 := 0) (cA_edge w) rfl rfl rfl dP_rowOf_38 (kP_154 _) ⟨Nat.le_of_ble_eq_true rfl, Nat.le_of_ble_eq_true rfl⟩ rfl rfl (Nat.le_of_ble_eq_true rfl) (Nat.le_of_ble_eq_true rfl) (Nat.le_of_ble_eq_true rfl) (Nat.le_of_ble_eq_true rfl) (Nat.le_of_ble_eq_true rfl) ?_
    obtain rfl := Option.some.inj hF
    exact xw_ireturn dP_rowOf_41 rfl rfl (Nat.le_of_ble_eq_true rfl) (Nat.le_of_ble_eq_true rfl) ⟨rfl, rfl⟩
/-- FormulaShaper$Splitter.cellStop -/
def FP_cellStop (b : xBs) (x0 : Int32) (s : xPs) : Option Int32 := (FP_behindMark b x0 s).bind fun r76 => (FB_at r76 b).bind fun r77 => if (sP_isCapital r77) = 0 then (some (-1)) else ((FP_behindMark b (r76 + 1) s).bind fun r79 => (FP_digitsStop b r79 2 s).bind fun r80 => (FP_valueOf b r79 r80 s).bind fun r81 => (FB_at r79 b).bind fun r82 => if r82 = 48 then (some (-1)) else (if (lg_cmp r81 1) < 0 then (some (-1)) else (if 0 < (lg_cmp r81 (80)) then (some (-1)) else ((FB_at r80 b).bind fun r90 => if (sP_isBarredBehindCell r90) = 0 then (some r80) else (some (-1))))))
set_option maxRecDepth 20000 in
theorem CP_cellStop {w : xw_G} {h : xw_H}  {b : xBs} {x0 : Int32} {s : xPs} {out : Int32} (hF : FP_cellStop b x0 s = some out) : xw_C w (mP_cellStop { frames := 3, cells := 0, slots := 0, locals := 60 }) (xw_R (some (.int out)) (vP b s h)) [.ref 1012, .int x0] (vP b s h) := by
  unfold FP_cellStop at hF
  refine xw_enter rfl (show plainName "FormulaShaper$Splitter" = true by decide +kernel) (Nat.le_of_ble_eq_true rfl) ?_
  refine xw_aload_n dP_cellStop_0 rfl ?_
  refine xw_iload_n dP_cellStop_1 rfl ?_
  obtain ⟨r76, er76, hF⟩ := xg_b hF
  refine xg_V1 (k1 := 0) (n1 := 0) (CP_behindMark er76) rfl rfl rfl dP_cellStop_2 (kP_146 _) ⟨Nat.le_of_ble_eq_true rfl, Nat.le_of_ble_eq_true rfl⟩ rfl rfl rfl rfl (Nat.le_of_ble_eq_true rfl) (Nat.le_of_ble_eq_true rfl) (Nat.le_of_ble_eq_true rfl) (Nat.le_of_ble_eq_true rfl) (Nat.le_of_ble_eq_true rfl) ?_
  refine xw_istore_n dP_cellStop_5 (Nat.le_of_ble_eq_true rfl) ?_
  refine xw_Ln (L' := [some (.ref 1012), some (.int x0), some (.int r76), none, none, none, none, none]) rfl ?_
  refine xw_aload_n dP_cellStop_6 rfl ?_
  refine xw_get dP_cellStop_7 fP_9 rfl rfl ?_
  refine xw_iload_n dP_cellStop_10 rfl ?_
  obtain ⟨r77, er77, hF⟩ := xg_b hF
  refine xg_V1 (k1 := 0) (n1 := 0) (CB_at (a := 1001) (by decide) er77) (vP_B (b := b) (s := s) (h := h)) (vP_B (b := b) (s := s) (h := h)).symm rfl dP_cellStop_11 (kP_52 _) ⟨Nat.le_of_ble_eq_true rfl, Nat.le_of_ble_eq_true rfl⟩ rfl rfl rfl rfl (Nat.le_of_ble_eq_true rfl) (Nat.le_of_ble_eq_true rfl) (Nat.le_of_ble_eq_true rfl) (Nat.le_of_ble_eq_true rfl) (Nat.le_of_ble_eq_true rfl) ?_
  refine xg_S1 (k1 := 0) (n1 := 0) (cP_isCapital w) rfl rfl rfl dP_cellStop_14 (kP_74 _) ⟨Nat.le_of_ble_eq_true rfl, Nat.le_of_ble_eq_true rfl⟩ rfl rfl (Nat.le_of_ble_eq_true rfl) (Nat.le_of_ble_eq_true rfl) (Nat.le_of_ble_eq_true rfl) (Nat.le_of_ble_eq_true rfl) (Nat.le_of_ble_eq_true rfl) ?_
  refine xw_if_ne 22 dP_cellStop_17 (by decide) (fun c78 => ?_) (fun c78 => ?_)
  · replace hF := xg_f c78 hF
    refine xw_aload_n dP_cellStop_22 rfl ?_
    refine xw_iload_n dP_cellStop_23 rfl ?_
    refine xw_iconst (1) dP_cellStop_24 (by decide) ?_
    refine xw_iadd dP_cellStop_25 ?_
    obtain ⟨r79, er79, hF⟩ := xg_b hF
    refine xg_V1 (k1 := 0) (n1 := 0) (CP_behindMark er79) rfl rfl rfl dP_cellStop_26 (kP_146 _) ⟨Nat.le_of_ble_eq_true rfl, Nat.le_of_ble_eq_true rfl⟩ rfl rfl rfl rfl (Nat.le_of_ble_eq_true rfl) (Nat.le_of_ble_eq_true rfl) (Nat.le_of_ble_eq_true rfl) (Nat.le_of_ble_eq_true rfl) (Nat.le_of_ble_eq_true rfl) ?_
    refine xw_istore_n dP_cellStop_29 (Nat.le_of_ble_eq_true rfl) ?_
    refine xw_Ln (L' := [some (.ref 1012), some (.int x0), some (.int r76), some (.int r79), none, none, none, none]) rfl ?_
    refine xw_aload_n dP_cellStop_30 rfl ?_
    refine xw_iload_n dP_cellStop_31 rfl ?_
    refine xw_iconst (2) dP_cellStop_32 (by decide) ?_
    obtain ⟨r80, er80, hF⟩ := xg_b hF
    refine xg_V1 (k1 := 0) (n1 := 0) (CP_digitsStop er80) rfl rfl rfl dP_cellStop_33 (kP_100 _) ⟨Nat.le_of_ble_eq_true rfl, Nat.le_of_ble_eq_true rfl⟩ rfl rfl rfl rfl (Nat.le_of_ble_eq_true rfl) (Nat.le_of_ble_eq_true rfl) (Nat.le_of_ble_eq_true rfl) (Nat.le_of_ble_eq_true rfl) (Nat.le_of_ble_eq_true rfl) ?_
    refine xw_istore dP_cellStop_36 (Nat.le_of_ble_eq_true rfl) ?_
    refine xw_Ln (L' := [some (.ref 1012), some (.int x0), some (.int r76), some (.int r79), some (.int r80), none, none, none]) rfl ?_
    refine xw_aload_n dP_cellStop_38 rfl ?_
    refine xw_iload_n dP_cellStop_39 rfl ?_
    refine xw_iload dP_cellStop_40 rfl ?_
    obtain ⟨r81, er81, hF⟩ := xg_b hF
    refine xg_V1 (k1 := 0) (n1 := 0) (CP_valueOf er81) rfl rfl rfl dP_cellStop_42 (kP_104 _) ⟨Nat.le_of_ble_eq_true rfl, Nat.le_of_ble_eq_true rfl⟩ rfl rfl rfl rfl (Nat.le_of_ble_eq_true rfl) (Nat.le_of_ble_eq_true rfl) (Nat.le_of_ble_eq_true rfl) (Nat.le_of_ble_eq_true rfl) (Nat.le_of_ble_eq_true rfl) ?_
    refine xw_lstore dP_cellStop_45 (Nat.le_of_ble_eq_true rfl) ?_
    refine xw_Ln (L' := [some (.ref 1012), some (.int x0), some (.int r76), some (.int r79), some (.int r80), some (.long r81), none, none]) rfl ?_
    refine xw_aload_n dP_cellStop_47 rfl ?_
    refine xw_get dP_cellStop_48 fP_9 rfl rfl ?_
    refine xw_iload_n dP_cellStop_51 rfl ?_
    obtain ⟨r82, er82, hF⟩ := xg_b hF
    refine xg_V1 (k1 := 0) (n1 := 0) (CB_at (a := 1001) (by decide) er82) (vP_B (b := b) (s := s) (h := h)) (vP_B (b := b) (s := s) (h := h)).symm rfl dP_cellStop_52 (kP_52 _) ⟨Nat.le_of_ble_eq_true rfl, Nat.le_of_ble_eq_true rfl⟩ rfl rfl rfl rfl (Nat.le_of_ble_eq_true rfl) (Nat.le_of_ble_eq_true rfl) (Nat.le_of_ble_eq_true rfl) (Nat.le_of_ble_eq_true rfl) (Nat.le_of_ble_eq_true rfl) ?_
    refine xw_bipush (48) dP_cellStop_55 (by decide) ?_
    refine xw_icmp_eq 80 dP_cellStop_57 (by decide) (fun c83 => ?_) (fun c83 => ?_)
    · replace hF := xg_t c83 hF
      refine xw_iconst (0) dP_cellStop_80 (by decide) ?_
      refine xw_istore dP_cellStop_81 (Nat.le_of_ble_eq_true rfl) ?_
      refine xw_Ln (L' := [some (.ref 1012), some (.int x0), some (.int r76), some (.int r79), some (.int r80), some (.long r81), none, some (.int 0)]) rfl ?_
      refine xw_iload dP_cellStop_83 rfl ?_
      refine xw_if_eq 108 dP_cellStop_85 (by decide) (fun _ => ?_) (fun q => absurd q (by decide))
      refine xw_iconst (-1) dP_cellStop_108 (by decide) ?_
      obtain rfl := Option.some.inj hF
      exact xw_ireturn dP_cellStop_109 rfl rfl (Nat.le_of_ble_eq_true rfl) (Nat.le_of_ble_eq_true rfl) ⟨rfl, rfl⟩
    · replace hF := xg_f c83 hF
      refine xw_lload dP_cellStop_60 rfl ?_
      refine xw_lconst (1) dP_cellStop_62 (by decide) ?_
      refine xw_lcmp dP_cellStop_63 ?_
      refine xw_if_lt 80 dP_cellStop_64 (by decide) (fun c85 => ?_) (fun c85 => ?_)
      · replace hF := xg_t c85 hF
        refine xw_iconst (0) dP_cellStop_80 (by decide) ?_
        refine xw_istore dP_cellStop_81 (Nat.le_of_ble_eq_true rfl) ?_
        refine xw_Ln (L' := [some (.ref 1012), some (.int x0), some (.int r76), some (.int r79), some (.int r80), some (.long r81), none, some (.int 0)]) rfl ?_
        refine xw_iload dP_cellStop_83 rfl ?_
        refine xw_if_eq 108 dP_cellStop_85 (by decide) (fun _ => ?_) (fun q => absurd q (by decide))
        refine xw_iconst (-1) dP_cellStop_108 (by decide) ?_
        obtain rfl := Option.some.inj hF
        exact xw_ireturn dP_cellStop_109 rfl rfl (Nat.le_of_ble_eq_true rfl) (Nat.le_of_ble_eq_true rfl) ⟨rfl, rfl⟩
      · replace hF := xg_f c85 hF
        refine xw_lload dP_cellStop_67 rfl ?_
        refine xw_ldc2 dP_cellStop_69 tw_390 ?_
        refine xw_lcmp dP_cellStop_72 ?_
        refine xw_if_gt 80 dP_cellStop_73 (by decide) (fun c87 => ?_) (fun c87 => ?_)
        · replace hF := xg_t c87 hF
          refine xw_iconst (0) dP_cellStop_80 (by decide) ?_
          refine xw_istore dP_cellStop_81 (Nat.le_of_ble_eq_true rfl) ?_
          refine xw_Ln (L' := [some (.ref 1012), some (.int x0), some (.int r76), some (.int r79), some (.int r80), some (.long r81), none, some (.int 0)]) rfl ?_
          refine xw_iload dP_cellStop_83 rfl ?_
          refine xw_if_eq 108 dP_cellStop_85 (by decide) (fun _ => ?_) (fun q => absurd q (by decide))
          refine xw_iconst (-1) dP_cellStop_108 (by decide) ?_
          obtain rfl := Option.some.inj hF
          exact xw_ireturn dP_cellStop_109 rfl rfl (Nat.le_of_ble_eq_true rfl) (Nat.le_of_ble_eq_true rfl) ⟨rfl, rfl⟩
        · replace hF := xg_f c87 hF
          refine xw_iconst (1) dP_cellStop_76 (by decide) ?_
          refine xw_goto 81 dP_cellStop_77 (by decide) ?_
          refine xw_istore dP_cellStop_81 (Nat.le_of_ble_eq_true rfl) ?_
          refine xw_Ln (L' := [some (.ref 1012), some (.int x0), some (.int r76), some (.int r79), some (.int r80), some (.long r81), none, some (.int 1)]) rfl ?_
          refine xw_iload dP_cellStop_83 rfl ?_
          refine xw_if_eq 108 dP_cellStop_85 (by decide) (fun q => absurd q (by decide)) (fun _ => ?_)
          refine xw_aload_n dP_cellStop_88 rfl ?_
          refine xw_get dP_cellStop_89 fP_9 rfl rfl ?_
          refine xw_iload dP_cellStop_92 rfl ?_
          obtain ⟨r90, er90, hF⟩ := xg_b hF
          refine xg_V1 (k1 := 0) (n1 := 0) (CB_at (a := 1001) (by decide) er90) (vP_B (b := b) (s := s) (h := h)) (vP_B (b := b) (s := s) (h := h)).symm rfl dP_cellStop_94 (kP_52 _) ⟨Nat.le_of_ble_eq_true rfl, Nat.le_of_ble_eq_true rfl⟩ rfl rfl rfl rfl (Nat.le_of_ble_eq_true rfl) (Nat.le_of_ble_eq_true rfl) (Nat.le_of_ble_eq_true rfl) (Nat.le_of_ble_eq_true rfl) (Nat.le_of_ble_eq_true rfl) ?_
          refine xg_S1 (k1 := 0) (n1 := 0) (cP_isBarredBehindCell w) rfl rfl rfl dP_cellStop_97 (kP_151 _) ⟨Nat.le_of_ble_eq_true rfl, Nat.le_of_ble_eq_true rfl⟩ rfl rfl (Nat.le_of_ble_eq_true rfl) (Nat.le_of_ble_eq_true rfl) (Nat.le_of_ble_eq_true rfl) (Nat.le_of_ble_eq_true rfl) (Nat.le_of_ble_eq_true rfl) ?_
          refine xw_if_ne 108 dP_cellStop_100 (by decide) (fun c91 => ?_) (fun c91 => ?_)
          · replace hF := xg_f c91 hF
            refine xw_iconst (-1) dP_cellStop_108 (by decide) ?_
            obtain rfl := Option.some.inj hF
            exact xw_ireturn dP_cellStop_109 rfl rfl (Nat.le_of_ble_eq_true rfl) (Nat.le_of_ble_eq_true rfl) ⟨rfl, rfl⟩
          · replace hF := xg_t c91 hF
            refine xw_iload dP_cellStop_103 rfl ?_
            refine xw_goto 109 dP_cellStop_105 (by decide) ?_
            obtain rfl := Option.some.inj hF
            exact xw_ireturn dP_cellStop_109 rfl rfl (Nat.le_of_ble_eq_true rfl) (Nat.le_of_ble_eq_true rfl) ⟨rfl, rfl⟩
  · replace hF := xg_t c78 hF
    refine xw_iconst (-1) dP_cellStop_20 (by decide) ?_
    obtain rfl := Option.some.inj hF
    exact xw_ireturn dP_cellStop_21 rfl rfl (Nat.le_of_ble_eq_true rfl) (Nat.le_of_ble_eq_true rfl) ⟨rfl, rfl⟩
def FP_writeOut_2 (b : xBs) : Nat → Int32 → Int32 → xPs → Option xPs
  | 0, _, _, _ => none
  | fu + 1, l2, l3, s => if l2 ≤ l3 then (some s) else ((FB_at l3 b).bind fun r93 => (FF_addByte r93 s.2.1).bind fun r94 => FP_writeOut_2 b fu l2 (l3 + 1) (s.1, r94, s.2.2))
/-- FormulaShaper$Splitter.writeOut -/
def FP_writeOut (b : xBs) (x0 : Int32) (x1 : Int32) (s : xPs) : Option xPs := FP_writeOut_2 b xFuel x1 x0 s
set_option maxRecDepth 20000 in
theorem CP_writeOut_2 {w : xw_G} {h : xw_H}  {b : xBs} : ∀ (fu : Nat) {l2 : Int32} {l3 : Int32} {s : xPs} {out : xPs} {h0 : xw_H}, FP_writeOut_2 b fu l2 l3 s = some out → xw_X w (mP_writeOut { frames := 2, cells := 0, slots := 0, locals := 44 }) (xw_R none (vP b out h)) h0 0 0 2 [some (.ref 1012), none, some (.int l2), some (.int l3)] [] (vP b s h) := by
  intro fu
  induction fu with
  | zero =>
    intro l2 l3 s out h0 hF
    rw [FP_writeOut_2] at hF
    cases hF
  | succ fu ih =>
    intro l2 l3 s out h0 hF
    rw [FP_writeOut_2] at hF
    refine xw_iload_n dP_writeOut_2 rfl ?_
    refine xw_iload_n dP_writeOut_3 rfl ?_
    refine xw_icmp_ge 28 dP_writeOut_4 (by decide) (fun c92 => ?_) (fun c92 => ?_)
    · replace hF := xg_t c92 hF
      obtain rfl := Option.some.inj hF
      exact xw_return dP_writeOut_28 rfl (Nat.le_of_ble_eq_true rfl) (Nat.le_of_ble_eq_true rfl) ⟨rfl, rfl⟩
    · replace hF := xg_f c92 hF
      refine xw_aload_n dP_writeOut_7 rfl ?_
      refine xw_get dP_writeOut_8 fP_19 rfl rfl ?_
      refine xw_aload_n dP_writeOut_11 rfl ?_
      refine xw_get dP_writeOut_12 fP_9 rfl rfl ?_
      refine xw_iload_n dP_writeOut_15 rfl ?_
      obtain ⟨r93, er93, hF⟩ := xg_b hF
      refine xg_V1 (k1 := 0) (n1 := 0) (CB_at (a := 1001) (by decide) er93) (vP_B (b := b) (s := s) (h := h)) (vP_B (b := b) (s := s) (h := h)).symm rfl dP_writeOut_16 (kP_52 _) ⟨Nat.le_of_ble_eq_true rfl, Nat.le_of_ble_eq_true rfl⟩ rfl rfl rfl rfl (Nat.le_of_ble_eq_true rfl) (Nat.le_of_ble_eq_true rfl) (Nat.le_of_ble_eq_true rfl) (Nat.le_of_ble_eq_true rfl) (Nat.le_of_ble_eq_true rfl) ?_
      obtain ⟨r94, er94, hF⟩ := xg_b hF
      refine xg_V0 (k1 := 0) (n1 := 0) (CF_addByte (a := 1010) (by decide) er94) (vP_F (b := b) (s := s) (h := h)) (vP_F (b := b) (s := (s.1, r94, s.2.2)) (h := h)).symm rfl dP_writeOut_19 (kP_86 _) ⟨Nat.le_of_ble_eq_true rfl, Nat.le_of_ble_eq_true rfl⟩ rfl rfl rfl rfl (Nat.le_of_ble_eq_true rfl) (Nat.le_of_ble_eq_true rfl) (Nat.le_of_ble_eq_true rfl) (Nat.le_of_ble_eq_true rfl) (Nat.le_of_ble_eq_true rfl) ?_
      refine xw_iinc ((l3 + 1)) dP_writeOut_22 rfl rfl (Nat.le_of_ble_eq_true rfl) ?_
      refine xw_Ln (L' := [some (.ref 1012), none, some (.int l2), some (.int (l3 + 1))]) rfl ?_
      refine xw_goto 2 dP_writeOut_25 (by decide) ?_
      exact ih hF
set_option maxRecDepth 20000 in
theorem CP_writeOut {w : xw_G} {h : xw_H}  {b : xBs} {x0 : Int32} {x1 : Int32} {s : xPs} {out : xPs} (hF : FP_writeOut b x0 x1 s = some out) : xw_C w (mP_writeOut { frames := 2, cells := 0, slots := 0, locals := 44 }) (xw_R none (vP b out h)) [.ref 1012, .int x0, .int x1] (vP b s h) := by
  unfold FP_writeOut at hF
  refine xw_enter rfl (show plainName "FormulaShaper$Splitter" = true by decide +kernel) (Nat.le_of_ble_eq_true rfl) ?_
  refine xw_iload_n dP_writeOut_0 rfl ?_
  refine xw_istore_n dP_writeOut_1 (Nat.le_of_ble_eq_true rfl) ?_
  refine xw_Ln (L' := [some (.ref 1012), some (.int x0), some (.int x1), some (.int x0)]) rfl ?_
  refine xw_drop (L' := [some (.ref 1012), none, some (.int x1), some (.int x0)]) ⟨rfl, ⟨rfl, ⟨rfl, trivial⟩⟩⟩ ?_
  exact CP_writeOut_2 xFuel hF
/-- FormulaShaper$Splitter.take -/
def FP_take (b : xBs) (x0 : Int32) (x1 : Int32) (s : xPs) : Option xPs := (FT_add x0 s.2.2 s.1).bind fun r95 => (FP_writeOut b s.2.2 x1 (r95, s.2.1, s.2.2)).bind fun r96 => some (r96.1, r96.2.1, x1)
set_option maxRecDepth 20000 in
theorem CP_take {w : xw_G} {h : xw_H}  {b : xBs} {x0 : Int32} {x1 : Int32} {s : xPs} {out : xPs} (hF : FP_take b x0 x1 s = some out) : xw_C w (mP_take { frames := 3, cells := 0, slots := 0, locals := 67 }) (xw_R none (vP b out h)) [.ref 1012, .int x0, .int x1] (vP b s h) := by
  unfold FP_take at hF
  refine xw_enter rfl (show plainName "FormulaShaper$Splitter" = true by decide +kernel) (Nat.le_of_ble_eq_true rfl) ?_
  refine xw_aload_n dP_take_0 rfl ?_
  refine xw_get dP_take_1 fP_15 rfl rfl ?_
  refine xw_iload_n dP_take_4 rfl ?_
  refine xw_aload_n dP_take_5 rfl ?_
  refine xw_get dP_take_6 fP_23 rfl rfl ?_
  obtain ⟨r95, er95, hF⟩ := xg_b hF
  refine xg_V0 (k1 := 0) (n1 := 0) (CT_add er95) (vP_T (b := b) (s := s) (h := h)) (vP_T (b := b) (s := (r95, s.2.1, s.2.2)) (h := h)).symm rfl dP_take_9 (kP_43 _) ⟨Nat.le_of_ble_eq_true rfl, Nat.le_of_ble_eq_true rfl⟩ rfl rfl rfl rfl (Nat.le_of_ble_eq_true rfl) (Nat.le_of_ble_eq_true rfl) (Nat.le_of_ble_eq_true rfl) (Nat.le_of_ble_eq_true rfl) (Nat.le_of_ble_eq_true rfl) ?_
  refine xw_aload_n dP_take_12 rfl ?_
  refine xw_aload_n dP_take_13 rfl ?_
  refine xw_get dP_take_14 fP_23 rfl rfl ?_
  refine xw_iload_n dP_take_17 rfl ?_
  obtain ⟨r96, er96, hF⟩ := xg_b hF
  refine xg_V0 (k1 := 0) (n1 := 0) (CP_writeOut er96) rfl rfl rfl dP_take_18 (kP_83 _) ⟨Nat.le_of_ble_eq_true rfl, Nat.le_of_ble_eq_true rfl⟩ rfl rfl rfl rfl (Nat.le_of_ble_eq_true rfl) (Nat.le_of_ble_eq_true rfl) (Nat.le_of_ble_eq_true rfl) (Nat.le_of_ble_eq_true rfl) (Nat.le_of_ble_eq_true rfl) ?_
  refine xw_aload_n dP_take_21 rfl ?_
  refine xw_iload_n dP_take_22 rfl ?_
  refine xg_put dP_take_23 fP_23 rfl (by decide) (Nat.le_of_ble_eq_true rfl) (fun _ => rfl) (fun _ => rfl) vP_at ?_
  obtain rfl := Option.some.inj hF
  exact xw_return dP_take_26 rfl (Nat.le_of_ble_eq_true rfl) (Nat.le_of_ble_eq_true rfl) ⟨rfl, rfl⟩
def FP_next_0 (b : xBs) : Nat → xPs → Option (Int32 × xPs)
  | 0, _ => none
  | fu + 1, s => (FB_size b).bind fun r97 => if r97 ≤ s.2.2 then ((FB_at s.2.2 b).bind fun r99 => some (r99, s)) else ((FB_at s.2.2 b).bind fun r100 => if r100 = 32 then (FP_next_0 b fu  (s.1, s.2.1, (s.2.2 + 1))) else ((FB_at s.2.2 b).bind fun r102 => some (r102, s)))
/-- FormulaShaper$Splitter.next -/
def FP_next (b : xBs)  (s : xPs) : Option (Int32 × xPs) := FP_next_0 b xFuel  s
set_option maxRecDepth 20000 in
theorem CP_next_0 {w : xw_G} {h : xw_H}  {b : xBs} : ∀ (fu : Nat) {s : xPs} {out : (Int32 × xPs)} {h0 : xw_H}, FP_next_0 b fu  s = some out → xw_X w (mP_next { frames := 1, cells := 0, slots := 0, locals := 21 }) (xw_R (some (.int out.1)) (vP b out.2 h)) h0 0 0 0 [some (.ref 1012)] [] (vP b s h) := by
  intro fu
  induction fu with
  | zero =>
    intro  s out h0 hF
    rw [FP_next_0] at hF
    cases hF
  | succ fu ih =>
    intro  s out h0 hF
    rw [FP_next_0] at hF
    refine xw_aload_n dP_next_0 rfl ?_
    refine xw_get dP_next_1 fP_23 rfl rfl ?_
    refine xw_aload_n dP_next_4 rfl ?_
    refine xw_get dP_next_5 fP_9 rfl rfl ?_
    obtain ⟨r97, er97, hF⟩ := xg_b hF
    refine xg_V1 (k1 := 0) (n1 := 0) (CB_size (a := 1001) (by decide) er97) (vP_B (b := b) (s := s) (h := h)) (vP_B (b := b) (s := s) (h := h)).symm rfl dP_next_8 (kP_47 _) ⟨Nat.le_of_ble_eq_true rfl, Nat.le_of_ble_eq_true rfl⟩ rfl rfl rfl rfl (Nat.le_of_ble_eq_true rfl) (Nat.le_of_ble_eq_true rfl) (Nat.le_of_ble_eq_true rfl) (Nat.le_of_ble_eq_true rfl) (Nat.le_of_ble_eq_true rfl) ?_
    refine xw_icmp_ge 43 dP_next_11 (by decide) (fun c98 => ?_) (fun c98 => ?_)
    · replace hF := xg_t c98 hF
      refine xw_aload_n dP_next_43 rfl ?_
      refine xw_get dP_next_44 fP_9 rfl rfl ?_
      refine xw_aload_n dP_next_47 rfl ?_
      refine xw_get dP_next_48 fP_23 rfl rfl ?_
      obtain ⟨r99, er99, hF⟩ := xg_b hF
      refine xg_V1 (k1 := 0) (n1 := 0) (CB_at (a := 1001) (by decide) er99) (vP_B (b := b) (s := s) (h := h)) (vP_B (b := b) (s := s) (h := h)).symm rfl dP_next_51 (kP_52 _) ⟨Nat.le_of_ble_eq_true rfl, Nat.le_of_ble_eq_true rfl⟩ rfl rfl rfl rfl (Nat.le_of_ble_eq_true rfl) (Nat.le_of_ble_eq_true rfl) (Nat.le_of_ble_eq_true rfl) (Nat.le_of_ble_eq_true rfl) (Nat.le_of_ble_eq_true rfl) ?_
      obtain rfl := Option.some.inj hF
      exact xw_ireturn dP_next_54 rfl rfl (Nat.le_of_ble_eq_true rfl) (Nat.le_of_ble_eq_true rfl) ⟨rfl, rfl⟩
    · replace hF := xg_f c98 hF
      refine xw_aload_n dP_next_14 rfl ?_
      refine xw_get dP_next_15 fP_9 rfl rfl ?_
      refine xw_aload_n dP_next_18 rfl ?_
      refine xw_get dP_next_19 fP_23 rfl rfl ?_
      obtain ⟨r100, er100, hF⟩ := xg_b hF
      refine xg_V1 (k1 := 0) (n1 := 0) (CB_at (a := 1001) (by decide) er100) (vP_B (b := b) (s := s) (h := h)) (vP_B (b := b) (s := s) (h := h)).symm rfl dP_next_22 (kP_52 _) ⟨Nat.le_of_ble_eq_true rfl, Nat.le_of_ble_eq_true rfl⟩ rfl rfl rfl rfl (Nat.le_of_ble_eq_true rfl) (Nat.le_of_ble_eq_true rfl) (Nat.le_of_ble_eq_true rfl) (Nat.le_of_ble_eq_true rfl) (Nat.le_of_ble_eq_true rfl) ?_
      refine xw_bipush (32) dP_next_25 (by decide) ?_
      refine xw_icmp_ne 43 dP_next_27 (by decide) (fun c101 => ?_) (fun c101 => ?_)
      · replace hF := xg_f c101 hF
        refine xw_aload_n dP_next_43 rfl ?_
        refine xw_get dP_next_44 fP_9 rfl rfl ?_
        refine xw_aload_n dP_next_47 rfl ?_
        refine xw_get dP_next_48 fP_23 rfl rfl ?_
        obtain ⟨r102, er102, hF⟩ := xg_b hF
        refine xg_V1 (k1 := 0) (n1 := 0) (CB_at (a := 1001) (by decide) er102) (vP_B (b := b) (s := s) (h := h)) (vP_B (b := b) (s := s) (h := h)).symm rfl dP_next_51 (kP_52 _) ⟨Nat.le_of_ble_eq_true rfl, Nat.le_of_ble_eq_true rfl⟩ rfl rfl rfl rfl (Nat.le_of_ble_eq_true rfl) (Nat.le_of_ble_eq_true rfl) (Nat.le_of_ble_eq_true rfl) (Nat.le_of_ble_eq_true rfl) (Nat.le_of_ble_eq_true rfl) ?_
        obtain rfl := Option.some.inj hF
        exact xw_ireturn dP_next_54 rfl rfl (Nat.le_of_ble_eq_true rfl) (Nat.le_of_ble_eq_true rfl) ⟨rfl, rfl⟩
      · replace hF := xg_t c101 hF
        refine xw_aload_n dP_next_30 rfl ?_
        refine xw_dup_r dP_next_31 ?_
        refine xw_get dP_next_32 fP_23 rfl rfl ?_
        refine xw_iconst (1) dP_next_35 (by decide) ?_
        refine xw_iadd dP_next_36 ?_
        refine xg_put dP_next_37 fP_23 rfl (by decide) (Nat.le_of_ble_eq_true rfl) (fun _ => rfl) (fun _ => rfl) vP_at ?_
        refine xw_goto 0 dP_next_40 (by decide) ?_
        exact ih hF
set_option maxRecDepth 20000 in
theorem CP_next {w : xw_G} {h : xw_H}  {b : xBs}  {s : xPs} {out : (Int32 × xPs)} (hF : FP_next b  s = some out) : xw_C w (mP_next { frames := 1, cells := 0, slots := 0, locals := 21 }) (xw_R (some (.int out.1)) (vP b out.2 h)) [.ref 1012] (vP b s h) := by
  unfold FP_next at hF
  refine xw_enter rfl (show plainName "FormulaShaper$Splitter" = true by decide +kernel) (Nat.le_of_ble_eq_true rfl) ?_
  exact CP_next_0 xFuel hF
def FP_takesMark_44 (b : xBs) (l1 : Int32) (l2 : Int32) (s : xPs) : Option (Bool × xPs) := if l1 = 62 then (if l2 = 61 then ((FP_take b l1 (s.2.2 + 2) s).bind fun r114 => some (true, r114)) else ((FP_take b l1 (s.2.2 + 1) s).bind fun r112 => some (true, r112))) else ((FP_take b l1 (s.2.2 + 1) s).bind fun r109 => some (true, r109))
/-- FormulaShaper$Splitter.takesMark -/
def FP_takesMark (b : xBs) (x0 : Int32) (s : xPs) : Option (Bool × xPs) := if 14 < xk_N then (if 0 ≤ (xk_ix 14 (xg_c x0)) then ((FB_at (s.2.2 + 1) b).bind fun r105 => if x0 = 60 then (if r105 = 61 then ((FP_take b x0 (s.2.2 + 2) s).bind fun r117 => some (true, r117)) else (if r105 = 62 then ((FP_take b x0 (s.2.2 + 2) s).bind fun r120 => some (true, r120)) else (FP_takesMark_44 b x0 r105 s))) else (FP_takesMark_44 b x0 r105 s)) else (some (false, s))) else none
set_option maxRecDepth 20000 in
theorem CP_takesMark_44 {w : xw_G} {h : xw_H}  {b : xBs} {l1 : Int32} {l2 : Int32} {s : xPs} {out : (Bool × xPs)} {h0 : xw_H} (hF : FP_takesMark_44 b l1 l2 s = some out) : xw_X w (mP_takesMark { frames := 4, cells := 0, slots := 0, locals := 91 }) (xw_R (some (.int (xb out.1))) (vP b out.2 h)) h0 0 0 44 [some (.ref 1012), some (.int l1), some (.int l2), none] [] (vP b s h) := by
  unfold FP_takesMark_44 at hF
  refine xw_iload_n dP_takesMark_44 rfl ?_
  refine xw_bipush (62) dP_takesMark_45 (by decide) ?_
  refine xw_icmp_ne 60 dP_takesMark_47 (by decide) (fun c107 => ?_) (fun c107 => ?_)
  · replace hF := xg_f c107 hF
    refine xw_iconst (0) dP_takesMark_60 (by decide) ?_
    refine xw_istore_n dP_takesMark_61 (Nat.le_of_ble_eq_true rfl) ?_
    refine xw_Ln (L' := [some (.ref 1012), some (.int l1), some (.int l2), some (.int 0)]) rfl ?_
    refine xw_aload_n dP_takesMark_62 rfl ?_
    refine xw_iload_n dP_takesMark_63 rfl ?_
    refine xw_iload_n dP_takesMark_64 rfl ?_
    refine xw_if_eq 77 dP_takesMark_65 (by decide) (fun _ => ?_) (fun q => absurd q (by decide))
    refine xw_aload_n dP_takesMark_77 rfl ?_
    refine xw_get dP_takesMark_78 fP_23 rfl rfl ?_
    refine xw_iconst (1) dP_takesMark_81 (by decide) ?_
    refine xw_iadd dP_takesMark_82 ?_
    obtain ⟨r109, er109, hF⟩ := xg_b hF
    refine xg_V0 (k1 := 0) (n1 := 0) (CP_take er109) rfl rfl rfl dP_takesMark_83 (kP_97 _) ⟨Nat.le_of_ble_eq_true rfl, Nat.le_of_ble_eq_true rfl⟩ rfl rfl rfl rfl (Nat.le_of_ble_eq_true rfl) (Nat.le_of_ble_eq_true rfl) (Nat.le_of_ble_eq_true rfl) (Nat.le_of_ble_eq_true rfl) (Nat.le_of_ble_eq_true rfl) ?_
    refine xw_iconst (1) dP_takesMark_86 (by decide) ?_
    obtain rfl := Option.some.inj hF
    exact xw_ireturn dP_takesMark_87 rfl (xb_nar true) (Nat.le_of_ble_eq_true rfl) (Nat.le_of_ble_eq_true rfl) ⟨rfl, rfl⟩
  · replace hF := xg_t c107 hF
    refine xw_iload_n dP_takesMark_50 rfl ?_
    refine xw_bipush (61) dP_takesMark_51 (by decide) ?_
    refine xw_icmp_ne 60 dP_takesMark_53 (by decide) (fun c110 => ?_) (fun c110 => ?_)
    · replace hF := xg_f c110 hF
      refine xw_iconst (0) dP_takesMark_60 (by decide) ?_
      refine xw_istore_n dP_takesMark_61 (Nat.le_of_ble_eq_true rfl) ?_
      refine xw_Ln (L' := [some (.ref 1012), some (.int l1), some (.int l2), some (.int 0)]) rfl ?_
      refine xw_aload_n dP_takesMark_62 rfl ?_
      refine xw_iload_n dP_takesMark_63 rfl ?_
      refine xw_iload_n dP_takesMark_64 rfl ?_
      refine xw_if_eq 77 dP_takesMark_65 (by decide) (fun _ => ?_) (fun q => absurd q (by decide))
      refine xw_aload_n dP_takesMark_77 rfl ?_
      refine xw_get dP_takesMark_78 fP_23 rfl rfl ?_
      refine xw_iconst (1) dP_takesMark_81 (by decide) ?_
      refine xw_iadd dP_takesMark_82 ?_
      obtain ⟨r112, er112, hF⟩ := xg_b hF
      refine xg_V0 (k1 := 0) (n1 := 0) (CP_take er112) rfl rfl rfl dP_takesMark_83 (kP_97 _) ⟨Nat.le_of_ble_eq_true rfl, Nat.le_of_ble_eq_true rfl⟩ rfl rfl rfl rfl (Nat.le_of_ble_eq_true rfl) (Nat.le_of_ble_eq_true rfl) (Nat.le_of_ble_eq_true rfl) (Nat.le_of_ble_eq_true rfl) (Nat.le_of_ble_eq_true rfl) ?_
      refine xw_iconst (1) dP_takesMark_86 (by decide) ?_
      obtain rfl := Option.some.inj hF
      exact xw_ireturn dP_takesMark_87 rfl (xb_nar true) (Nat.le_of_ble_eq_true rfl) (Nat.le_of_ble_eq_true rfl) ⟨rfl, rfl⟩
    · replace hF := xg_t c110 hF
      refine xw_iconst (1) dP_takesMark_56 (by decide) ?_
      refine xw_goto 61 dP_takesMark_57 (by decide) ?_
      refine xw_istore_n dP_takesMark_61 (Nat.le_of_ble_eq_true rfl) ?_
      refine xw_Ln (L' := [some (.ref 1012), some (.int l1), some (.int l2), some (.int 1)]) rfl ?_
      refine xw_aload_n dP_takesMark_62 rfl ?_
      refine xw_iload_n dP_takesMark_63 rfl ?_
      refine xw_iload_n dP_takesMark_64 rfl ?_
      refine xw_if_eq 77 dP_takesMark_65 (by decide) (fun q => absurd q (by decide)) (fun _ => ?_)
      refine xw_aload_n dP_takesMark_68 rfl ?_
      refine xw_get dP_takesMark_69 fP_23 rfl rfl ?_
      refine xw_iconst (2) dP_takesMark_72 (by decide) ?_
      refine xw_iadd dP_takesMark_73 ?_
      refine xw_goto 83 dP_takesMark_74 (by decide) ?_
      obtain ⟨r114, er114, hF⟩ := xg_b hF
      refine xg_V0 (k1 := 0) (n1 := 0) (CP_take er114) rfl rfl rfl dP_takesMark_83 (kP_97 _) ⟨Nat.le_of_ble_eq_true rfl, Nat.le_of_ble_eq_true rfl⟩ rfl rfl rfl rfl (Nat.le_of_ble_eq_true rfl) (Nat.le_of_ble_eq_true rfl) (Nat.le_of_ble_eq_true rfl) (Nat.le_of_ble_eq_true rfl) (Nat.le_of_ble_eq_true rfl) ?_
      refine xw_iconst (1) dP_takesMark_86 (by decide) ?_
      obtain rfl := Option.some.inj hF
      exact xw_ireturn dP_takesMark_87 rfl (xb_nar true) (Nat.le_of_ble_eq_true rfl) (Nat.le_of_ble_eq_true rfl) ⟨rfl, rfl⟩
set_option maxRecDepth 20000 in
theorem CP_takesMark {w : xw_G} {h : xw_H}  {b : xBs} {x0 : Int32} {s : xPs} {out : (Bool × xPs)} (hF : FP_takesMark b x0 s = some out) : xw_C w (mP_takesMark { frames := 4, cells := 0, slots := 0, locals := 91 }) (xw_R (some (.int (xb out.1))) (vP b out.2 h)) [.ref 1012, .int x0] (vP b s h) := by
  unfold FP_takesMark at hF
  refine xw_enter rfl (show plainName "FormulaShaper$Splitter" = true by decide +kernel) (Nat.le_of_ble_eq_true rfl) ?_
  refine xw_ldcS 14 dP_takesMark_0 (List.mem_of_getElem? (i := 14) rfl) (by decide) ?_
  refine xw_iload_n dP_takesMark_2 rfl ?_
  refine xw_i2c dP_takesMark_3 ?_
  obtain ⟨g103, hF⟩ := xg_g hF
  refine xg_K1 (k1 := 0) (n1 := 0) (CQ_indexOf (w := w) g103) rfl rfl rfl dP_takesMark_4 (kP_92 _) ⟨Nat.le_of_ble_eq_true rfl, Nat.le_of_ble_eq_true rfl⟩ rfl rfl (xk_mO g103) (xk_lt9 g103) (Nat.le_of_ble_eq_true rfl) (Nat.le_of_ble_eq_true rfl) (Nat.le_of_ble_eq_true rfl) (Nat.le_of_ble_eq_true rfl) (Nat.le_of_ble_eq_true rfl) ?_
  refine xw_if_ge 12 dP_takesMark_7 (by decide) (fun c104 => ?_) (fun c104 => ?_)
  · replace hF := xg_t c104 hF
    refine xw_aload_n dP_takesMark_12 rfl ?_
    refine xw_get dP_takesMark_13 fP_9 rfl rfl ?_
    refine xw_aload_n dP_takesMark_16 rfl ?_
    refine xw_get dP_takesMark_17 fP_23 rfl rfl ?_
    refine xw_iconst (1) dP_takesMark_20 (by decide) ?_
    refine xw_iadd dP_takesMark_21 ?_
    obtain ⟨r105, er105, hF⟩ := xg_b hF
    refine xg_V1 (k1 := 0) (n1 := 0) (CB_at (a := 1001) (by decide) er105) (vP_B (b := b) (s := s) (h := h)) (vP_B (b := b) (s := s) (h := h)).symm rfl dP_takesMark_22 (kP_52 _) ⟨Nat.le_of_ble_eq_true rfl, Nat.le_of_ble_eq_true rfl⟩ rfl rfl rfl rfl (Nat.le_of_ble_eq_true rfl) (Nat.le_of_ble_eq_true rfl) (Nat.le_of_ble_eq_true rfl) (Nat.le_of_ble_eq_true rfl) (Nat.le_of_ble_eq_true rfl) ?_
    refine xw_istore_n dP_takesMark_25 (Nat.le_of_ble_eq_true rfl) ?_
    refine xw_Ln (L' := [some (.ref 1012), some (.int x0), some (.int r105), none]) rfl ?_
    refine xw_iload_n dP_takesMark_26 rfl ?_
    refine xw_bipush (60) dP_takesMark_27 (by decide) ?_
    refine xw_icmp_ne 44 dP_takesMark_29 (by decide) (fun c106 => ?_) (fun c106 => ?_)
    · replace hF := xg_f c106 hF
      exact CP_takesMark_44 hF
    · replace hF := xg_t c106 hF
      refine xw_iload_n dP_takesMark_32 rfl ?_
      refine xw_bipush (61) dP_takesMark_33 (by decide) ?_
      refine xw_icmp_eq 56 dP_takesMark_35 (by decide) (fun c115 => ?_) (fun c115 => ?_)
      · replace hF := xg_t c115 hF
        refine xw_iconst (1) dP_takesMark_56 (by decide) ?_
        refine xw_goto 61 dP_takesMark_57 (by decide) ?_
        refine xw_istore_n dP_takesMark_61 (Nat.le_of_ble_eq_true rfl) ?_
        refine xw_Ln (L' := [some (.ref 1012), some (.int x0), some (.int r105), some (.int 1)]) rfl ?_
        refine xw_aload_n dP_takesMark_62 rfl ?_
        refine xw_iload_n dP_takesMark_63 rfl ?_
        refine xw_iload_n dP_takesMark_64 rfl ?_
        refine xw_if_eq 77 dP_takesMark_65 (by decide) (fun q => absurd q (by decide)) (fun _ => ?_)
        refine xw_aload_n dP_takesMark_68 rfl ?_
        refine xw_get dP_takesMark_69 fP_23 rfl rfl ?_
        refine xw_iconst (2) dP_takesMark_72 (by decide) ?_
        refine xw_iadd dP_takesMark_73 ?_
        refine xw_goto 83 dP_takesMark_74 (by decide) ?_
        obtain ⟨r117, er117, hF⟩ := xg_b hF
        refine xg_V0 (k1 := 0) (n1 := 0) (CP_take er117) rfl rfl rfl dP_takesMark_83 (kP_97 _) ⟨Nat.le_of_ble_eq_true rfl, Nat.le_of_ble_eq_true rfl⟩ rfl rfl rfl rfl (Nat.le_of_ble_eq_true rfl) (Nat.le_of_ble_eq_true rfl) (Nat.le_of_ble_eq_true rfl) (Nat.le_of_ble_eq_true rfl) (Nat.le_of_ble_eq_true rfl) ?_
        refine xw_iconst (1) dP_takesMark_86 (by decide) ?_
        obtain rfl := Option.some.inj hF
        exact xw_ireturn dP_takesMark_87 rfl (xb_nar true) (Nat.le_of_ble_eq_true rfl) (Nat.le_of_ble_eq_true rfl) ⟨rfl, rfl⟩
      · replace hF := xg_f c115 hF
        refine xw_iload_n dP_takesMark_38 rfl ?_
        refine xw_bipush (62) dP_takesMark_39 (by decide) ?_
        refine xw_icmp_eq 56 dP_takesMark_41 (by decide) (fun c118 => ?_) (fun c118 => ?_)
        · replace hF := xg_t c118 hF
          refine xw_iconst (1) dP_takesMark_56 (by decide) ?_
          refine xw_goto 61 dP_takesMark_57 (by decide) ?_
          refine xw_istore_n dP_takesMark_61 (Nat.le_of_ble_eq_true rfl) ?_
          refine xw_Ln (L' := [some (.ref 1012), some (.int x0), some (.int r105), some (.int 1)]) rfl ?_
          refine xw_aload_n dP_takesMark_62 rfl ?_
          refine xw_iload_n dP_takesMark_63 rfl ?_
          refine xw_iload_n dP_takesMark_64 rfl ?_
          refine xw_if_eq 77 dP_takesMark_65 (by decide) (fun q => absurd q (by decide)) (fun _ => ?_)
          refine xw_aload_n dP_takesMark_68 rfl ?_
          refine xw_get dP_takesMark_69 fP_23 rfl rfl ?_
          refine xw_iconst (2) dP_takesMark_72 (by decide) ?_
          refine xw_iadd dP_takesMark_73 ?_
          refine xw_goto 83 dP_takesMark_74 (by decide) ?_
          obtain ⟨r120, er120, hF⟩ := xg_b hF
          refine xg_V0 (k1 := 0) (n1 := 0) (CP_take er120) rfl rfl rfl dP_takesMark_83 (kP_97 _) ⟨Nat.le_of_ble_eq_true rfl, Nat.le_of_ble_eq_true rfl⟩ rfl rfl rfl rfl (Nat.le_of_ble_eq_true rfl) (Nat.le_of_ble_eq_true rfl) (Nat.le_of_ble_eq_true rfl) (Nat.le_of_ble_eq_true rfl) (Nat.le_of_ble_eq_true rfl) ?_
          refine xw_iconst (1) dP_takesMark_86 (by decide) ?_
          obtain rfl := Option.some.inj hF
          exact xw_ireturn dP_takesMark_87 rfl (xb_nar true) (Nat.le_of_ble_eq_true rfl) (Nat.le_of_ble_eq_true rfl) ⟨rfl, rfl⟩
        · replace hF := xg_f c118 hF
          exact CP_takesMark_44 hF
  · replace hF := xg_f c104 hF
    refine xw_iconst (0) dP_takesMark_10 (by decide) ?_
    obtain rfl := Option.some.inj hF
    exact xw_ireturn dP_takesMark_11 rfl (xb_nar false) (Nat.le_of_ble_eq_true rfl) (Nat.le_of_ble_eq_true rfl) ⟨rfl, rfl⟩
def FP_takesNumber_129 (b : xBs) (l1 : Int32) (l2 : Int32) (l3 : Int32) (l4 : Int32) (s : xPs) : Option (Bool × xPs) := (FP_valueOf b l3 l1 s).bind fun r126 => if 0 < (lg_cmp r126 (90000000000)) then (some (false, s)) else (if (lg_cmp r126 (90000000000)) = 0 then (if l4 ≤ l1 then ((FT_add 258 s.2.2 s.1).bind fun r132 => (FP_writeOut b l3 l4 (r132, s.2.1, s.2.2)).bind fun r133 => some (true, (r133.1, r133.2.1, l2))) else (some (false, s))) else ((FT_add 258 s.2.2 s.1).bind fun r129 => (FP_writeOut b l3 l4 (r129, s.2.1, s.2.2)).bind fun r130 => some (true, (r130.1, r130.2.1, l2))))
def FP_takesNumber_85 (b : xBs) : Nat → Int32 → Int32 → Int32 → Int32 → xPs → Option (Bool × xPs)
  | 0, _, _, _, _, _ => none
  | fu + 1, l1, l2, l3, l4, s => if l4 ≤ l1 then (FP_takesNumber_129 b l1 l2 l3 l4 s) else ((FB_at (l4 - 1) b).bind fun r134 => if r134 = 48 then (FP_takesNumber_85 b fu l1 l2 l3 (l4 + (-1)) s) else ((FB_at (l4 - 1) b).bind fun r136 => if r136 = 46 then (FP_takesNumber_85 b fu l1 l2 l3 (l4 + (-1)) s) else (FP_takesNumber_129 b l1 l2 l3 l4 s)))
def FP_takesNumber_56 (b : xBs) : Nat → Int32 → Int32 → Int32 → xPs → Option (Bool × xPs)
  | 0, _, _, _, _ => none
  | fu + 1, l1, l2, l3, s => if (l1 - 1) ≤ l3 then (FP_takesNumber_85 b xFuel l1 l2 l3 l2 s) else ((FB_at l3 b).bind fun r138 => if r138 = 48 then (FP_takesNumber_56 b fu l1 l2 (l3 + 1) s) else (FP_takesNumber_85 b xFuel l1 l2 l3 l2 s))
/-- FormulaShaper$Splitter.takesNumber -/
def FP_takesNumber (b : xBs)  (s : xPs) : Option (Bool × xPs) := (FP_digitsStop b s.2.2 11 s).bind fun r121 => (FB_at r121 b).bind fun r122 => if r122 = 46 then ((FB_at (r121 + 1) b).bind fun r140 => if (sP_isDigit r140) = 0 then (FP_takesNumber_56 b xFuel r121 r121 s.2.2 s) else ((FP_digitsStop b (r121 + 1) 4 s).bind fun r142 => FP_takesNumber_56 b xFuel r121 r142 s.2.2 s)) else (FP_takesNumber_56 b xFuel r121 r121 s.2.2 s)
set_option maxRecDepth 20000 in
theorem CP_takesNumber_129 {w : xw_G} {h : xw_H}  {b : xBs} {l1 : Int32} {l2 : Int32} {l3 : Int32} {l4 : Int32} {s : xPs} {out : (Bool × xPs)} {h0 : xw_H} (hF : FP_takesNumber_129 b l1 l2 l3 l4 s = some out) : xw_X w (mP_takesNumber { frames := 3, cells := 0, slots := 0, locals := 67 }) (xw_R (some (.int (xb out.1))) (vP b out.2 h)) h0 0 0 129 [some (.ref 1012), some (.int l1), some (.int l2), some (.int l3), some (.int l4), none, none] [] (vP b s h) := by
  unfold FP_takesNumber_129 at hF
  refine xw_aload_n dP_takesNumber_129 rfl ?_
  refine xw_iload_n dP_takesNumber_130 rfl ?_
  refine xw_iload_n dP_takesNumber_131 rfl ?_
  obtain ⟨r126, er126, hF⟩ := xg_b hF
  refine xg_V1 (k1 := 0) (n1 := 0) (CP_valueOf er126) rfl rfl rfl dP_takesNumber_132 (kP_104 _) ⟨Nat.le_of_ble_eq_true rfl, Nat.le_of_ble_eq_true rfl⟩ rfl rfl rfl rfl (Nat.le_of_ble_eq_true rfl) (Nat.le_of_ble_eq_true rfl) (Nat.le_of_ble_eq_true rfl) (Nat.le_of_ble_eq_true rfl) (Nat.le_of_ble_eq_true rfl) ?_
  refine xw_lstore dP_takesNumber_135 (Nat.le_of_ble_eq_true rfl) ?_
  refine xw_Ln (L' := [some (.ref 1012), some (.int l1), some (.int l2), some (.int l3), some (.int l4), some (.long r126), none]) rfl ?_
  refine xw_lload dP_takesNumber_137 rfl ?_
  refine xw_ldc2 dP_takesNumber_139 tw_292 ?_
  refine xw_lcmp dP_takesNumber_142 ?_
  refine xw_if_gt 161 dP_takesNumber_143 (by decide) (fun c127 => ?_) (fun c127 => ?_)
  · replace hF := xg_t c127 hF
    refine xw_iconst (0) dP_takesNumber_161 (by decide) ?_
    obtain rfl := Option.some.inj hF
    exact xw_ireturn dP_takesNumber_162 rfl (xb_nar false) (Nat.le_of_ble_eq_true rfl) (Nat.le_of_ble_eq_true rfl) ⟨rfl, rfl⟩
  · replace hF := xg_f c127 hF
    refine xw_lload dP_takesNumber_146 rfl ?_
    refine xw_ldc2 dP_takesNumber_148 tw_292 ?_
    refine xw_lcmp dP_takesNumber_151 ?_
    refine xw_if_ne 163 dP_takesNumber_152 (by decide) (fun c128 => ?_) (fun c128 => ?_)
    · replace hF := xg_f c128 hF
      refine xw_aload_n dP_takesNumber_163 rfl ?_
      refine xw_get dP_takesNumber_164 fP_15 rfl rfl ?_
      refine xw_sipush (258) dP_takesNumber_167 (by decide) ?_
      refine xw_aload_n dP_takesNumber_170 rfl ?_
      refine xw_get dP_takesNumber_171 fP_23 rfl rfl ?_
      obtain ⟨r129, er129, hF⟩ := xg_b hF
      refine xg_V0 (k1 := 0) (n1 := 0) (CT_add er129) (vP_T (b := b) (s := s) (h := h)) (vP_T (b := b) (s := (r129, s.2.1, s.2.2)) (h := h)).symm rfl dP_takesNumber_174 (kP_43 _) ⟨Nat.le_of_ble_eq_true rfl, Nat.le_of_ble_eq_true rfl⟩ rfl rfl rfl rfl (Nat.le_of_ble_eq_true rfl) (Nat.le_of_ble_eq_true rfl) (Nat.le_of_ble_eq_true rfl) (Nat.le_of_ble_eq_true rfl) (Nat.le_of_ble_eq_true rfl) ?_
      refine xw_aload_n dP_takesNumber_177 rfl ?_
      refine xw_iload_n dP_takesNumber_178 rfl ?_
      refine xw_iload dP_takesNumber_179 rfl ?_
      obtain ⟨r130, er130, hF⟩ := xg_b hF
      refine xg_V0 (k1 := 0) (n1 := 0) (CP_writeOut er130) rfl rfl rfl dP_takesNumber_181 (kP_83 _) ⟨Nat.le_of_ble_eq_true rfl, Nat.le_of_ble_eq_true rfl⟩ rfl rfl rfl rfl (Nat.le_of_ble_eq_true rfl) (Nat.le_of_ble_eq_true rfl) (Nat.le_of_ble_eq_true rfl) (Nat.le_of_ble_eq_true rfl) (Nat.le_of_ble_eq_true rfl) ?_
      refine xw_aload_n dP_takesNumber_184 rfl ?_
      refine xw_iload_n dP_takesNumber_185 rfl ?_
      refine xg_put dP_takesNumber_186 fP_23 rfl (by decide) (Nat.le_of_ble_eq_true rfl) (fun _ => rfl) (fun _ => rfl) vP_at ?_
      refine xw_iconst (1) dP_takesNumber_189 (by decide) ?_
      obtain rfl := Option.some.inj hF
      exact xw_ireturn dP_takesNumber_190 rfl (xb_nar true) (Nat.le_of_ble_eq_true rfl) (Nat.le_of_ble_eq_true rfl) ⟨rfl, rfl⟩
    · replace hF := xg_t c128 hF
      refine xw_iload dP_takesNumber_155 rfl ?_
      refine xw_iload_n dP_takesNumber_157 rfl ?_
      refine xw_icmp_le 163 dP_takesNumber_158 (by decide) (fun c131 => ?_) (fun c131 => ?_)
      · replace hF := xg_t c131 hF
        refine xw_aload_n dP_takesNumber_163 rfl ?_
        refine xw_get dP_takesNumber_164 fP_15 rfl rfl ?_
        refine xw_sipush (258) dP_takesNumber_167 (by decide) ?_
        refine xw_aload_n dP_takesNumber_170 rfl ?_
        refine xw_get dP_takesNumber_171 fP_23 rfl rfl ?_
        obtain ⟨r132, er132, hF⟩ := xg_b hF
        refine xg_V0 (k1 := 0) (n1 := 0) (CT_add er132) (vP_T (b := b) (s := s) (h := h)) (vP_T (b := b) (s := (r132, s.2.1, s.2.2)) (h := h)).symm rfl dP_takesNumber_174 (kP_43 _) ⟨Nat.le_of_ble_eq_true rfl, Nat.le_of_ble_eq_true rfl⟩ rfl rfl rfl rfl (Nat.le_of_ble_eq_true rfl) (Nat.le_of_ble_eq_true rfl) (Nat.le_of_ble_eq_true rfl) (Nat.le_of_ble_eq_true rfl) (Nat.le_of_ble_eq_true rfl) ?_
        refine xw_aload_n dP_takesNumber_177 rfl ?_
        refine xw_iload_n dP_takesNumber_178 rfl ?_
        refine xw_iload dP_takesNumber_179 rfl ?_
        obtain ⟨r133, er133, hF⟩ := xg_b hF
        refine xg_V0 (k1 := 0) (n1 := 0) (CP_writeOut er133) rfl rfl rfl dP_takesNumber_181 (kP_83 _) ⟨Nat.le_of_ble_eq_true rfl, Nat.le_of_ble_eq_true rfl⟩ rfl rfl rfl rfl (Nat.le_of_ble_eq_true rfl) (Nat.le_of_ble_eq_true rfl) (Nat.le_of_ble_eq_true rfl) (Nat.le_of_ble_eq_true rfl) (Nat.le_of_ble_eq_true rfl) ?_
        refine xw_aload_n dP_takesNumber_184 rfl ?_
        refine xw_iload_n dP_takesNumber_185 rfl ?_
        refine xg_put dP_takesNumber_186 fP_23 rfl (by decide) (Nat.le_of_ble_eq_true rfl) (fun _ => rfl) (fun _ => rfl) vP_at ?_
        refine xw_iconst (1) dP_takesNumber_189 (by decide) ?_
        obtain rfl := Option.some.inj hF
        exact xw_ireturn dP_takesNumber_190 rfl (xb_nar true) (Nat.le_of_ble_eq_true rfl) (Nat.le_of_ble_eq_true rfl) ⟨rfl, rfl⟩
      · replace hF := xg_f c131 hF
        refine xw_iconst (0) dP_takesNumber_161 (by decide) ?_
        obtain rfl := Option.some.inj hF
        exact xw_ireturn dP_takesNumber_162 rfl (xb_nar false) (Nat.le_of_ble_eq_true rfl) (Nat.le_of_ble_eq_true rfl) ⟨rfl, rfl⟩
set_option maxRecDepth 20000 in
theorem CP_takesNumber_85 {w : xw_G} {h : xw_H}  {b : xBs} : ∀ (fu : Nat) {l1 : Int32} {l2 : Int32} {l3 : Int32} {l4 : Int32} {s : xPs} {out : (Bool × xPs)} {h0 : xw_H}, FP_takesNumber_85 b fu l1 l2 l3 l4 s = some out → xw_X w (mP_takesNumber { frames := 3, cells := 0, slots := 0, locals := 67 }) (xw_R (some (.int (xb out.1))) (vP b out.2 h)) h0 0 0 85 [some (.ref 1012), some (.int l1), some (.int l2), some (.int l3), some (.int l4), none, none] [] (vP b s h) := by
  intro fu
  induction fu with
  | zero =>
    intro l1 l2 l3 l4 s out h0 hF
    rw [FP_takesNumber_85] at hF
    cases hF
  | succ fu ih =>
    intro l1 l2 l3 l4 s out h0 hF
    rw [FP_takesNumber_85] at hF
    refine xw_iload dP_takesNumber_85 rfl ?_
    refine xw_iload_n dP_takesNumber_87 rfl ?_
    refine xw_icmp_le 129 dP_takesNumber_88 (by decide) (fun c125 => ?_) (fun c125 => ?_)
    · replace hF := xg_t c125 hF
      exact CP_takesNumber_129 hF
    · replace hF := xg_f c125 hF
      refine xw_aload_n dP_takesNumber_91 rfl ?_
      refine xw_get dP_takesNumber_92 fP_9 rfl rfl ?_
      refine xw_iload dP_takesNumber_95 rfl ?_
      refine xw_iconst (1) dP_takesNumber_97 (by decide) ?_
      refine xw_isub dP_takesNumber_98 ?_
      obtain ⟨r134, er134, hF⟩ := xg_b hF
      refine xg_V1 (k1 := 0) (n1 := 0) (CB_at (a := 1001) (by decide) er134) (vP_B (b := b) (s := s) (h := h)) (vP_B (b := b) (s := s) (h := h)).symm rfl dP_takesNumber_99 (kP_52 _) ⟨Nat.le_of_ble_eq_true rfl, Nat.le_of_ble_eq_true rfl⟩ rfl rfl rfl rfl (Nat.le_of_ble_eq_true rfl) (Nat.le_of_ble_eq_true rfl) (Nat.le_of_ble_eq_true rfl) (Nat.le_of_ble_eq_true rfl) (Nat.le_of_ble_eq_true rfl) ?_
      refine xw_bipush (48) dP_takesNumber_102 (by decide) ?_
      refine xw_icmp_eq 123 dP_takesNumber_104 (by decide) (fun c135 => ?_) (fun c135 => ?_)
      · replace hF := xg_t c135 hF
        refine xw_iinc ((l4 + (-1))) dP_takesNumber_123 rfl rfl (Nat.le_of_ble_eq_true rfl) ?_
        refine xw_Ln (L' := [some (.ref 1012), some (.int l1), some (.int l2), some (.int l3), some (.int (l4 + (-1))), none, none]) rfl ?_
        refine xw_goto 85 dP_takesNumber_126 (by decide) ?_
        exact ih hF
      · replace hF := xg_f c135 hF
        refine xw_aload_n dP_takesNumber_107 rfl ?_
        refine xw_get dP_takesNumber_108 fP_9 rfl rfl ?_
        refine xw_iload dP_takesNumber_111 rfl ?_
        refine xw_iconst (1) dP_takesNumber_113 (by decide) ?_
        refine xw_isub dP_takesNumber_114 ?_
        obtain ⟨r136, er136, hF⟩ := xg_b hF
        refine xg_V1 (k1 := 0) (n1 := 0) (CB_at (a := 1001) (by decide) er136) (vP_B (b := b) (s := s) (h := h)) (vP_B (b := b) (s := s) (h := h)).symm rfl dP_takesNumber_115 (kP_52 _) ⟨Nat.le_of_ble_eq_true rfl, Nat.le_of_ble_eq_true rfl⟩ rfl rfl rfl rfl (Nat.le_of_ble_eq_true rfl) (Nat.le_of_ble_eq_true rfl) (Nat.le_of_ble_eq_true rfl) (Nat.le_of_ble_eq_true rfl) (Nat.le_of_ble_eq_true rfl) ?_
        refine xw_bipush (46) dP_takesNumber_118 (by decide) ?_
        refine xw_icmp_ne 129 dP_takesNumber_120 (by decide) (fun c137 => ?_) (fun c137 => ?_)
        · replace hF := xg_f c137 hF
          exact CP_takesNumber_129 hF
        · replace hF := xg_t c137 hF
          refine xw_iinc ((l4 + (-1))) dP_takesNumber_123 rfl rfl (Nat.le_of_ble_eq_true rfl) ?_
          refine xw_Ln (L' := [some (.ref 1012), some (.int l1), some (.int l2), some (.int l3), some (.int (l4 + (-1))), none, none]) rfl ?_
          refine xw_goto 85 dP_takesNumber_126 (by decide) ?_
          exact ih hF
set_option maxRecDepth 20000 in
theorem CP_takesNumber_56 {w : xw_G} {h : xw_H}  {b : xBs} : ∀ (fu : Nat) {l1 : Int32} {l2 : Int32} {l3 : Int32} {s : xPs} {out : (Bool × xPs)} {h0 : xw_H}, FP_takesNumber_56 b fu l1 l2 l3 s = some out → xw_X w (mP_takesNumber { frames := 3, cells := 0, slots := 0, locals := 67 }) (xw_R (some (.int (xb out.1))) (vP b out.2 h)) h0 0 0 56 [some (.ref 1012), some (.int l1), some (.int l2), some (.int l3), none, none, none] [] (vP b s h) := by
  intro fu
  induction fu with
  | zero =>
    intro l1 l2 l3 s out h0 hF
    rw [FP_takesNumber_56] at hF
    cases hF
  | succ fu ih =>
    intro l1 l2 l3 s out h0 hF
    rw [FP_takesNumber_56] at hF
    refine xw_iload_n dP_takesNumber_56 rfl ?_
    refine xw_iload_n dP_takesNumber_57 rfl ?_
    refine xw_iconst (1) dP_takesNumber_58 (by decide) ?_
    refine xw_isub dP_takesNumber_59 ?_
    refine xw_icmp_ge 82 dP_takesNumber_60 (by decide) (fun c124 => ?_) (fun c124 => ?_)
    · replace hF := xg_t c124 hF
      refine xw_iload_n dP_takesNumber_82 rfl ?_
      refine xw_istore dP_takesNumber_83 (Nat.le_of_ble_eq_true rfl) ?_
      refine xw_Ln (L' := [some (.ref 1012), some (.int l1), some (.int l2), some (.int l3), some (.int l2), none, none]) rfl ?_
      exact CP_takesNumber_85 xFuel hF
    · replace hF := xg_f c124 hF
      refine xw_aload_n dP_takesNumber_63 rfl ?_
      refine xw_get dP_takesNumber_64 fP_9 rfl rfl ?_
      refine xw_iload_n dP_takesNumber_67 rfl ?_
      obtain ⟨r138, er138, hF⟩ := xg_b hF
      refine xg_V1 (k1 := 0) (n1 := 0) (CB_at (a := 1001) (by decide) er138) (vP_B (b := b) (s := s) (h := h)) (vP_B (b := b) (s := s) (h := h)).symm rfl dP_takesNumber_68 (kP_52 _) ⟨Nat.le_of_ble_eq_true rfl, Nat.le_of_ble_eq_true rfl⟩ rfl rfl rfl rfl (Nat.le_of_ble_eq_true rfl) (Nat.le_of_ble_eq_true rfl) (Nat.le_of_ble_eq_true rfl) (Nat.le_of_ble_eq_true rfl) (Nat.le_of_ble_eq_true rfl) ?_
      refine xw_bipush (48) dP_takesNumber_71 (by decide) ?_
      refine xw_icmp_ne 82 dP_takesNumber_73 (by decide) (fun c139 => ?_) (fun c139 => ?_)
      · replace hF := xg_f c139 hF
        refine xw_iload_n dP_takesNumber_82 rfl ?_
        refine xw_istore dP_takesNumber_83 (Nat.le_of_ble_eq_true rfl) ?_
        refine xw_Ln (L' := [some (.ref 1012), some (.int l1), some (.int l2), some (.int l3), some (.int l2), none, none]) rfl ?_
        exact CP_takesNumber_85 xFuel hF
      · replace hF := xg_t c139 hF
        refine xw_iinc ((l3 + 1)) dP_takesNumber_76 rfl rfl (Nat.le_of_ble_eq_true rfl) ?_
        refine xw_Ln (L' := [some (.ref 1012), some (.int l1), some (.int l2), some (.int (l3 + 1)), none, none, none]) rfl ?_
        refine xw_goto 56 dP_takesNumber_79 (by decide) ?_
        exact ih hF
set_option maxRecDepth 20000 in
theorem CP_takesNumber {w : xw_G} {h : xw_H}  {b : xBs}  {s : xPs} {out : (Bool × xPs)} (hF : FP_takesNumber b  s = some out) : xw_C w (mP_takesNumber { frames := 3, cells := 0, slots := 0, locals := 67 }) (xw_R (some (.int (xb out.1))) (vP b out.2 h)) [.ref 1012] (vP b s h) := by
  unfold FP_takesNumber at hF
  refine xw_enter rfl (show plainName "FormulaShaper$Splitter" = true by decide +kernel) (Nat.le_of_ble_eq_true rfl) ?_
  refine xw_aload_n dP_takesNumber_0 rfl ?_
  refine xw_aload_n dP_takesNumber_1 rfl ?_
  refine xw_get dP_takesNumber_2 fP_23 rfl rfl ?_
  refine xw_bipush (11) dP_takesNumber_5 (by decide) ?_
  obtain ⟨r121, er121, hF⟩ := xg_b hF
  refine xg_V1 (k1 := 0) (n1 := 0) (CP_digitsStop er121) rfl rfl rfl dP_takesNumber_7 (kP_100 _) ⟨Nat.le_of_ble_eq_true rfl, Nat.le_of_ble_eq_true rfl⟩ rfl rfl rfl rfl (Nat.le_of_ble_eq_true rfl) (Nat.le_of_ble_eq_true rfl) (Nat.le_of_ble_eq_true rfl) (Nat.le_of_ble_eq_true rfl) (Nat.le_of_ble_eq_true rfl) ?_
  refine xw_istore_n dP_takesNumber_10 (Nat.le_of_ble_eq_true rfl) ?_
  refine xw_Ln (L' := [some (.ref 1012), some (.int r121), none, none, none, none, none]) rfl ?_
  refine xw_iload_n dP_takesNumber_11 rfl ?_
  refine xw_istore_n dP_takesNumber_12 (Nat.le_of_ble_eq_true rfl) ?_
  refine xw_Ln (L' := [some (.ref 1012), some (.int r121), some (.int r121), none, none, none, none]) rfl ?_
  refine xw_aload_n dP_takesNumber_13 rfl ?_
  refine xw_get dP_takesNumber_14 fP_9 rfl rfl ?_
  refine xw_iload_n dP_takesNumber_17 rfl ?_
  obtain ⟨r122, er122, hF⟩ := xg_b hF
  refine xg_V1 (k1 := 0) (n1 := 0) (CB_at (a := 1001) (by decide) er122) (vP_B (b := b) (s := s) (h := h)) (vP_B (b := b) (s := s) (h := h)).symm rfl dP_takesNumber_18 (kP_52 _) ⟨Nat.le_of_ble_eq_true rfl, Nat.le_of_ble_eq_true rfl⟩ rfl rfl rfl rfl (Nat.le_of_ble_eq_true rfl) (Nat.le_of_ble_eq_true rfl) (Nat.le_of_ble_eq_true rfl) (Nat.le_of_ble_eq_true rfl) (Nat.le_of_ble_eq_true rfl) ?_
  refine xw_bipush (46) dP_takesNumber_21 (by decide) ?_
  refine xw_icmp_ne 51 dP_takesNumber_23 (by decide) (fun c123 => ?_) (fun c123 => ?_)
  · replace hF := xg_f c123 hF
    refine xw_aload_n dP_takesNumber_51 rfl ?_
    refine xw_get dP_takesNumber_52 fP_23 rfl rfl ?_
    refine xw_istore_n dP_takesNumber_55 (Nat.le_of_ble_eq_true rfl) ?_
    refine xw_Ln (L' := [some (.ref 1012), some (.int r121), some (.int r121), some (.int s.2.2), none, none, none]) rfl ?_
    exact CP_takesNumber_56 xFuel hF
  · replace hF := xg_t c123 hF
    refine xw_aload_n dP_takesNumber_26 rfl ?_
    refine xw_get dP_takesNumber_27 fP_9 rfl rfl ?_
    refine xw_iload_n dP_takesNumber_30 rfl ?_
    refine xw_iconst (1) dP_takesNumber_31 (by decide) ?_
    refine xw_iadd dP_takesNumber_32 ?_
    obtain ⟨r140, er140, hF⟩ := xg_b hF
    refine xg_V1 (k1 := 0) (n1 := 0) (CB_at (a := 1001) (by decide) er140) (vP_B (b := b) (s := s) (h := h)) (vP_B (b := b) (s := s) (h := h)).symm rfl dP_takesNumber_33 (kP_52 _) ⟨Nat.le_of_ble_eq_true rfl, Nat.le_of_ble_eq_true rfl⟩ rfl rfl rfl rfl (Nat.le_of_ble_eq_true rfl) (Nat.le_of_ble_eq_true rfl) (Nat.le_of_ble_eq_true rfl) (Nat.le_of_ble_eq_true rfl) (Nat.le_of_ble_eq_true rfl) ?_
    refine xg_S1 (k1 := 0) (n1 := 0) (cP_isDigit w) rfl rfl rfl dP_takesNumber_36 (kP_55 _) ⟨Nat.le_of_ble_eq_true rfl, Nat.le_of_ble_eq_true rfl⟩ rfl rfl (Nat.le_of_ble_eq_true rfl) (Nat.le_of_ble_eq_true rfl) (Nat.le_of_ble_eq_true rfl) (Nat.le_of_ble_eq_true rfl) (Nat.le_of_ble_eq_true rfl) ?_
    refine xw_if_eq 51 dP_takesNumber_39 (by decide) (fun c141 => ?_) (fun c141 => ?_)
    · replace hF := xg_t c141 hF
      refine xw_aload_n dP_takesNumber_51 rfl ?_
      refine xw_get dP_takesNumber_52 fP_23 rfl rfl ?_
      refine xw_istore_n dP_takesNumber_55 (Nat.le_of_ble_eq_true rfl) ?_
      refine xw_Ln (L' := [some (.ref 1012), some (.int r121), some (.int r121), some (.int s.2.2), none, none, none]) rfl ?_
      exact CP_takesNumber_56 xFuel hF
    · replace hF := xg_f c141 hF
      refine xw_aload_n dP_takesNumber_42 rfl ?_
      refine xw_iload_n dP_takesNumber_43 rfl ?_
      refine xw_iconst (1) dP_takesNumber_44 (by decide) ?_
      refine xw_iadd dP_takesNumber_45 ?_
      refine xw_iconst (4) dP_takesNumber_46 (by decide) ?_
      obtain ⟨r142, er142, hF⟩ := xg_b hF
      refine xg_V1 (k1 := 0) (n1 := 0) (CP_digitsStop er142) rfl rfl rfl dP_takesNumber_47 (kP_100 _) ⟨Nat.le_of_ble_eq_true rfl, Nat.le_of_ble_eq_true rfl⟩ rfl rfl rfl rfl (Nat.le_of_ble_eq_true rfl) (Nat.le_of_ble_eq_true rfl) (Nat.le_of_ble_eq_true rfl) (Nat.le_of_ble_eq_true rfl) (Nat.le_of_ble_eq_true rfl) ?_
      refine xw_istore_n dP_takesNumber_50 (Nat.le_of_ble_eq_true rfl) ?_
      refine xw_Ln (L' := [some (.ref 1012), some (.int r121), some (.int r142), none, none, none, none]) rfl ?_
      refine xw_aload_n dP_takesNumber_51 rfl ?_
      refine xw_get dP_takesNumber_52 fP_23 rfl rfl ?_
      refine xw_istore_n dP_takesNumber_55 (Nat.le_of_ble_eq_true rfl) ?_
      refine xw_Ln (L' := [some (.ref 1012), some (.int r121), some (.int r142), some (.int s.2.2), none, none, none]) rfl ?_
      exact CP_takesNumber_56 xFuel hF
def FP_takesText_7 (b : xBs) : Nat → Int32 → xPs → Option (Bool × xPs)
  | 0, _, _ => none
  | fu + 1, l1, s => (FB_size b).bind fun r143 => if r143 ≤ l1 then (some (false, s)) else ((FB_at l1 b).bind fun r145 => if r145 < 32 then (some (false, s)) else (if r145 ≤ 126 then (if r145 = 34 then ((FB_at (l1 + 1) b).bind fun r150 => if r150 = 34 then (if r145 = 34 then (FP_takesText_7 b fu ((l1 + 1) + 1) s) else (FP_takesText_7 b fu (l1 + 1) s)) else ((FP_take b 259 (l1 + 1) s).bind fun r153 => some (true, r153))) else (if r145 = 34 then (FP_takesText_7 b fu ((l1 + 1) + 1) s) else (FP_takesText_7 b fu (l1 + 1) s))) else (some (false, s))))
/-- FormulaShaper$Splitter.takesText -/
def FP_takesText (b : xBs)  (s : xPs) : Option (Bool × xPs) := FP_takesText_7 b xFuel (s.2.2 + 1) s
set_option maxRecDepth 20000 in
theorem CP_takesText_7 {w : xw_G} {h : xw_H}  {b : xBs} : ∀ (fu : Nat) {l1 : Int32} {s : xPs} {out : (Bool × xPs)} {h0 : xw_H}, FP_takesText_7 b fu l1 s = some out → xw_X w (mP_takesText { frames := 4, cells := 0, slots := 0, locals := 89 }) (xw_R (some (.int (xb out.1))) (vP b out.2 h)) h0 0 0 7 [some (.ref 1012), some (.int l1), none] [] (vP b s h) := by
  intro fu
  induction fu with
  | zero =>
    intro l1 s out h0 hF
    rw [FP_takesText_7] at hF
    cases hF
  | succ fu ih =>
    intro l1 s out h0 hF
    rw [FP_takesText_7] at hF
    refine xw_iload_n dP_takesText_7 rfl ?_
    refine xw_aload_n dP_takesText_8 rfl ?_
    refine xw_get dP_takesText_9 fP_9 rfl rfl ?_
    obtain ⟨r143, er143, hF⟩ := xg_b hF
    refine xg_V1 (k1 := 0) (n1 := 0) (CB_size (a := 1001) (by decide) er143) (vP_B (b := b) (s := s) (h := h)) (vP_B (b := b) (s := s) (h := h)).symm rfl dP_takesText_12 (kP_47 _) ⟨Nat.le_of_ble_eq_true rfl, Nat.le_of_ble_eq_true rfl⟩ rfl rfl rfl rfl (Nat.le_of_ble_eq_true rfl) (Nat.le_of_ble_eq_true rfl) (Nat.le_of_ble_eq_true rfl) (Nat.le_of_ble_eq_true rfl) (Nat.le_of_ble_eq_true rfl) ?_
    refine xw_icmp_ge 89 dP_takesText_15 (by decide) (fun c144 => ?_) (fun c144 => ?_)
    · replace hF := xg_t c144 hF
      refine xw_iconst (0) dP_takesText_89 (by decide) ?_
      obtain rfl := Option.some.inj hF
      exact xw_ireturn dP_takesText_90 rfl (xb_nar false) (Nat.le_of_ble_eq_true rfl) (Nat.le_of_ble_eq_true rfl) ⟨rfl, rfl⟩
    · replace hF := xg_f c144 hF
      refine xw_aload_n dP_takesText_18 rfl ?_
      refine xw_get dP_takesText_19 fP_9 rfl rfl ?_
      refine xw_iload_n dP_takesText_22 rfl ?_
      obtain ⟨r145, er145, hF⟩ := xg_b hF
      refine xg_V1 (k1 := 0) (n1 := 0) (CB_at (a := 1001) (by decide) er145) (vP_B (b := b) (s := s) (h := h)) (vP_B (b := b) (s := s) (h := h)).symm rfl dP_takesText_23 (kP_52 _) ⟨Nat.le_of_ble_eq_true rfl, Nat.le_of_ble_eq_true rfl⟩ rfl rfl rfl rfl (Nat.le_of_ble_eq_true rfl) (Nat.le_of_ble_eq_true rfl) (Nat.le_of_ble_eq_true rfl) (Nat.le_of_ble_eq_true rfl) (Nat.le_of_ble_eq_true rfl) ?_
      refine xw_istore_n dP_takesText_26 (Nat.le_of_ble_eq_true rfl) ?_
      refine xw_Ln (L' := [some (.ref 1012), some (.int l1), some (.int r145)]) rfl ?_
      refine xw_iload_n dP_takesText_27 rfl ?_
      refine xw_bipush (32) dP_takesText_28 (by decide) ?_
      refine xw_icmp_lt 39 dP_takesText_30 (by decide) (fun c146 => ?_) (fun c146 => ?_)
      · replace hF := xg_t c146 hF
        refine xw_iconst (0) dP_takesText_39 (by decide) ?_
        obtain rfl := Option.some.inj hF
        exact xw_ireturn dP_takesText_40 rfl (xb_nar false) (Nat.le_of_ble_eq_true rfl) (Nat.le_of_ble_eq_true rfl) ⟨rfl, rfl⟩
      · replace hF := xg_f c146 hF
        refine xw_iload_n dP_takesText_33 rfl ?_
        refine xw_bipush (126) dP_takesText_34 (by decide) ?_
        refine xw_icmp_le 41 dP_takesText_36 (by decide) (fun c147 => ?_) (fun c147 => ?_)
        · replace hF := xg_t c147 hF
          refine xw_iload_n dP_takesText_41 rfl ?_
          refine xw_bipush (34) dP_takesText_42 (by decide) ?_
          refine xw_icmp_ne 74 dP_takesText_44 (by decide) (fun c148 => ?_) (fun c148 => ?_)
          · replace hF := xg_f c148 hF
            refine xw_iload_n dP_takesText_74 rfl ?_
            refine xw_bipush (34) dP_takesText_75 (by decide) ?_
            refine xw_icmp_ne 83 dP_takesText_77 (by decide) (fun c149 => ?_) (fun c149 => ?_)
            · replace hF := xg_f c149 hF
              refine xw_iinc ((l1 + 1)) dP_takesText_83 rfl rfl (Nat.le_of_ble_eq_true rfl) ?_
              refine xw_Ln (L' := [some (.ref 1012), some (.int (l1 + 1)), some (.int r145)]) rfl ?_
              refine xw_goto 7 dP_takesText_86 (by decide) ?_
              refine xw_drop (L' := [some (.ref 1012), some (.int (l1 + 1)), none]) ⟨rfl, ⟨rfl, trivial⟩⟩ ?_
              exact ih hF
            · replace hF := xg_t c149 hF
              refine xw_iinc ((l1 + 1)) dP_takesText_80 rfl rfl (Nat.le_of_ble_eq_true rfl) ?_
              refine xw_Ln (L' := [some (.ref 1012), some (.int (l1 + 1)), some (.int r145)]) rfl ?_
              refine xw_iinc (((l1 + 1) + 1)) dP_takesText_83 rfl rfl (Nat.le_of_ble_eq_true rfl) ?_
              refine xw_Ln (L' := [some (.ref 1012), some (.int ((l1 + 1) + 1)), some (.int r145)]) rfl ?_
              refine xw_goto 7 dP_takesText_86 (by decide) ?_
              refine xw_drop (L' := [some (.ref 1012), some (.int ((l1 + 1) + 1)), none]) ⟨rfl, ⟨rfl, trivial⟩⟩ ?_
              exact ih hF
          · replace hF := xg_t c148 hF
            refine xw_aload_n dP_takesText_47 rfl ?_
            refine xw_get dP_takesText_48 fP_9 rfl rfl ?_
            refine xw_iload_n dP_takesText_51 rfl ?_
            refine xw_iconst (1) dP_takesText_52 (by decide) ?_
            refine xw_iadd dP_takesText_53 ?_
            obtain ⟨r150, er150, hF⟩ := xg_b hF
            refine xg_V1 (k1 := 0) (n1 := 0) (CB_at (a := 1001) (by decide) er150) (vP_B (b := b) (s := s) (h := h)) (vP_B (b := b) (s := s) (h := h)).symm rfl dP_takesText_54 (kP_52 _) ⟨Nat.le_of_ble_eq_true rfl, Nat.le_of_ble_eq_true rfl⟩ rfl rfl rfl rfl (Nat.le_of_ble_eq_true rfl) (Nat.le_of_ble_eq_true rfl) (Nat.le_of_ble_eq_true rfl) (Nat.le_of_ble_eq_true rfl) (Nat.le_of_ble_eq_true rfl) ?_
            refine xw_bipush (34) dP_takesText_57 (by decide) ?_
            refine xw_icmp_eq 74 dP_takesText_59 (by decide) (fun c151 => ?_) (fun c151 => ?_)
            · replace hF := xg_t c151 hF
              refine xw_iload_n dP_takesText_74 rfl ?_
              refine xw_bipush (34) dP_takesText_75 (by decide) ?_
              refine xw_icmp_ne 83 dP_takesText_77 (by decide) (fun c152 => ?_) (fun c152 => ?_)
              · replace hF := xg_f c152 hF
                refine xw_iinc ((l1 + 1)) dP_takesText_83 rfl rfl (Nat.le_of_ble_eq_true rfl) ?_
                refine xw_Ln (L' := [some (.ref 1012), some (.int (l1 + 1)), some (.int r145)]) rfl ?_
                refine xw_goto 7 dP_takesText_86 (by decide) ?_
                refine xw_drop (L' := [some (.ref 1012), some (.int (l1 + 1)), none]) ⟨rfl, ⟨rfl, trivial⟩⟩ ?_
                exact ih hF
              · replace hF := xg_t c152 hF
                refine xw_iinc ((l1 + 1)) dP_takesText_80 rfl rfl (Nat.le_of_ble_eq_true rfl) ?_
                refine xw_Ln (L' := [some (.ref 1012), some (.int (l1 + 1)), some (.int r145)]) rfl ?_
                refine xw_iinc (((l1 + 1) + 1)) dP_takesText_83 rfl rfl (Nat.le_of_ble_eq_true rfl) ?_
                refine xw_Ln (L' := [some (.ref 1012), some (.int ((l1 + 1) + 1)), some (.int r145)]) rfl ?_
                refine xw_goto 7 dP_takesText_86 (by decide) ?_
                refine xw_drop (L' := [some (.ref 1012), some (.int ((l1 + 1) + 1)), none]) ⟨rfl, ⟨rfl, trivial⟩⟩ ?_
                exact ih hF
            · replace hF := xg_f c151 hF
              refine xw_aload_n dP_takesText_62 rfl ?_
              refine xw_sipush (259) dP_takesText_63 (by decide) ?_
              refine xw_iload_n dP_takesText_66 rfl ?_
              refine xw_iconst (1) dP_takesText_67 (by decide) ?_
              refine xw_iadd dP_takesText_68 ?_
              obtain ⟨r153, er153, hF⟩ := xg_b hF
              refine xg_V0 (k1 := 0) (n1 := 0) (CP_take er153) rfl rfl rfl dP_takesText_69 (kP_97 _) ⟨Nat.le_of_ble_eq_true rfl, Nat.le_of_ble_eq_true rfl⟩ rfl rfl rfl rfl (Nat.le_of_ble_eq_true rfl) (Nat.le_of_ble_eq_true rfl) (Nat.le_of_ble_eq_true rfl) (Nat.le_of_ble_eq_true rfl) (Nat.le_of_ble_eq_true rfl) ?_
              refine xw_iconst (1) dP_takesText_72 (by decide) ?_
              obtain rfl := Option.some.inj hF
              exact xw_ireturn dP_takesText_73 rfl (xb_nar true) (Nat.le_of_ble_eq_true rfl) (Nat.le_of_ble_eq_true rfl) ⟨rfl, rfl⟩
        · replace hF := xg_f c147 hF
          refine xw_iconst (0) dP_takesText_39 (by decide) ?_
          obtain rfl := Option.some.inj hF
          exact xw_ireturn dP_takesText_40 rfl (xb_nar false) (Nat.le_of_ble_eq_true rfl) (Nat.le_of_ble_eq_true rfl) ⟨rfl, rfl⟩
set_option maxRecDepth 20000 in
theorem CP_takesText {w : xw_G} {h : xw_H}  {b : xBs}  {s : xPs} {out : (Bool × xPs)} (hF : FP_takesText b  s = some out) : xw_C w (mP_takesText { frames := 4, cells := 0, slots := 0, locals := 89 }) (xw_R (some (.int (xb out.1))) (vP b out.2 h)) [.ref 1012] (vP b s h) := by
  unfold FP_takesText at hF
  refine xw_enter rfl (show plainName "FormulaShaper$Splitter" = true by decide +kernel) (Nat.le_of_ble_eq_true rfl) ?_
  refine xw_aload_n dP_takesText_0 rfl ?_
  refine xw_get dP_takesText_1 fP_23 rfl rfl ?_
  refine xw_iconst (1) dP_takesText_4 (by decide) ?_
  refine xw_iadd dP_takesText_5 ?_
  refine xw_istore_n dP_takesText_6 (Nat.le_of_ble_eq_true rfl) ?_
  refine xw_Ln (L' := [some (.ref 1012), some (.int (s.2.2 + 1)), none]) rfl ?_
  exact CP_takesText_7 xFuel hF
def FP_takesError_2 (b : xBs) : Nat → Int32 → xPs → Option (Bool × xPs)
  | 0, _, _ => none
  | fu + 1, l1, s => if 7 < l1 then (some (false, s)) else ((FB_hasOneOf 15 s.2.2 l1 b).bind fun r155 => if r155 = true then ((FP_take b 260 (s.2.2 + l1) s).bind fun r157 => some (true, r157)) else (FP_takesError_2 b fu (l1 + 1) s))
/-- FormulaShaper$Splitter.takesError -/
def FP_takesError (b : xBs)  (s : xPs) : Option (Bool × xPs) := FP_takesError_2 b xFuel 4 s
set_option maxRecDepth 20000 in
theorem CP_takesError_2 {w : xw_G} {h : xw_H}  {b : xBs} : ∀ (fu : Nat) {l1 : Int32} {s : xPs} {out : (Bool × xPs)} {h0 : xw_H}, FP_takesError_2 b fu l1 s = some out → xw_X w (mP_takesError { frames := 6, cells := 0, slots := 0, locals := 135 }) (xw_R (some (.int (xb out.1))) (vP b out.2 h)) h0 0 0 2 [some (.ref 1012), some (.int l1)] [] (vP b s h) := by
  intro fu
  induction fu with
  | zero =>
    intro l1 s out h0 hF
    rw [FP_takesError_2] at hF
    cases hF
  | succ fu ih =>
    intro l1 s out h0 hF
    rw [FP_takesError_2] at hF
    refine xw_iload_n dP_takesError_2 rfl ?_
    refine xw_bipush (7) dP_takesError_3 (by decide) ?_
    refine xw_icmp_gt 46 dP_takesError_5 (by decide) (fun c154 => ?_) (fun c154 => ?_)
    · replace hF := xg_t c154 hF
      refine xw_iconst (0) dP_takesError_46 (by decide) ?_
      obtain rfl := Option.some.inj hF
      exact xw_ireturn dP_takesError_47 rfl (xb_nar false) (Nat.le_of_ble_eq_true rfl) (Nat.le_of_ble_eq_true rfl) ⟨rfl, rfl⟩
    · replace hF := xg_f c154 hF
      refine xw_aload_n dP_takesError_8 rfl ?_
      refine xw_get dP_takesError_9 fP_9 rfl rfl ?_
      refine xw_ldcS 15 dP_takesError_12 (List.mem_of_getElem? (i := 15) rfl) (by decide) ?_
      refine xw_aload_n dP_takesError_14 rfl ?_
      refine xw_get dP_takesError_15 fP_23 rfl rfl ?_
      refine xw_iload_n dP_takesError_18 rfl ?_
      obtain ⟨r155, er155, hF⟩ := xg_b hF
      refine xg_V1 (k1 := 0) (n1 := 0) (CB_hasOneOf (a := 1001) (by decide) er155) (vP_B (b := b) (s := s) (h := h)) (vP_B (b := b) (s := s) (h := h)).symm rfl dP_takesError_19 (kP_112 _) ⟨Nat.le_of_ble_eq_true rfl, Nat.le_of_ble_eq_true rfl⟩ rfl rfl rfl rfl (Nat.le_of_ble_eq_true rfl) (Nat.le_of_ble_eq_true rfl) (Nat.le_of_ble_eq_true rfl) (Nat.le_of_ble_eq_true rfl) (Nat.le_of_ble_eq_true rfl) ?_
      refine xw_if_eqB 40 dP_takesError_22 (by decide) (fun c156 => ?_) (fun c156 => ?_)
      · replace hF := xg_f c156 hF
        refine xw_iinc ((l1 + 1)) dP_takesError_40 rfl rfl (Nat.le_of_ble_eq_true rfl) ?_
        refine xw_Ln (L' := [some (.ref 1012), some (.int (l1 + 1))]) rfl ?_
        refine xw_goto 2 dP_takesError_43 (by decide) ?_
        exact ih hF
      · replace hF := xg_t c156 hF
        refine xw_aload_n dP_takesError_25 rfl ?_
        refine xw_sipush (260) dP_takesError_26 (by decide) ?_
        refine xw_aload_n dP_takesError_29 rfl ?_
        refine xw_get dP_takesError_30 fP_23 rfl rfl ?_
        refine xw_iload_n dP_takesError_33 rfl ?_
        refine xw_iadd dP_takesError_34 ?_
        obtain ⟨r157, er157, hF⟩ := xg_b hF
        refine xg_V0 (k1 := 0) (n1 := 0) (CP_take er157) rfl rfl rfl dP_takesError_35 (kP_97 _) ⟨Nat.le_of_ble_eq_true rfl, Nat.le_of_ble_eq_true rfl⟩ rfl rfl rfl rfl (Nat.le_of_ble_eq_true rfl) (Nat.le_of_ble_eq_true rfl) (Nat.le_of_ble_eq_true rfl) (Nat.le_of_ble_eq_true rfl) (Nat.le_of_ble_eq_true rfl) ?_
        refine xw_iconst (1) dP_takesError_38 (by decide) ?_
        obtain rfl := Option.some.inj hF
        exact xw_ireturn dP_takesError_39 rfl (xb_nar true) (Nat.le_of_ble_eq_true rfl) (Nat.le_of_ble_eq_true rfl) ⟨rfl, rfl⟩
set_option maxRecDepth 20000 in
theorem CP_takesError {w : xw_G} {h : xw_H}  {b : xBs}  {s : xPs} {out : (Bool × xPs)} (hF : FP_takesError b  s = some out) : xw_C w (mP_takesError { frames := 6, cells := 0, slots := 0, locals := 135 }) (xw_R (some (.int (xb out.1))) (vP b out.2 h)) [.ref 1012] (vP b s h) := by
  unfold FP_takesError at hF
  refine xw_enter rfl (show plainName "FormulaShaper$Splitter" = true by decide +kernel) (Nat.le_of_ble_eq_true rfl) ?_
  refine xw_iconst (4) dP_takesError_0 (by decide) ?_
  refine xw_istore_n dP_takesError_1 (Nat.le_of_ble_eq_true rfl) ?_
  refine xw_Ln (L' := [some (.ref 1012), some (.int 4)]) rfl ?_
  exact CP_takesError_2 xFuel hF
def FP_takesName_5 (b : xBs) : Nat → Int32 → xPs → Option (Bool × xPs)
  | 0, _, _ => none
  | fu + 1, l1, s => (FB_size b).bind fun r158 => if r158 ≤ l1 then (if (l1 - s.2.2) ≤ 12 then ((FB_hasOneOf 16 s.2.2 (l1 - s.2.2) b).bind fun r161 => if r161 = true then ((FP_take b 261 l1 s).bind fun r165 => some (true, r165)) else ((FY_indexOf s.2.2 (l1 - s.2.2) b).bind fun r163 => (FP_take b (263 + r163) l1 s).bind fun r164 => some (true, r164))) else (some (false, s))) else ((FB_at l1 b).bind fun r166 => if (sP_isNamePart r166) = 0 then (if (l1 - s.2.2) ≤ 12 then ((FB_hasOneOf 16 s.2.2 (l1 - s.2.2) b).bind fun r169 => if r169 = true then ((FP_take b 261 l1 s).bind fun r173 => some (true, r173)) else ((FY_indexOf s.2.2 (l1 - s.2.2) b).bind fun r171 => (FP_take b (263 + r171) l1 s).bind fun r172 => some (true, r172))) else (some (false, s))) else (FP_takesName_5 b fu (l1 + 1) s))
/-- FormulaShaper$Splitter.takesName -/
def FP_takesName (b : xBs)  (s : xPs) : Option (Bool × xPs) := FP_takesName_5 b xFuel s.2.2 s
set_option maxRecDepth 20000 in
theorem CP_takesName_5 {w : xw_G} {h : xw_H}  {b : xBs} : ∀ (fu : Nat) {l1 : Int32} {s : xPs} {out : (Bool × xPs)} {h0 : xw_H}, FP_takesName_5 b fu l1 s = some out → xw_X w (mP_takesName { frames := 7, cells := 0, slots := 0, locals := 158 }) (xw_R (some (.int (xb out.1))) (vP b out.2 h)) h0 0 0 5 [some (.ref 1012), some (.int l1), none, none] [] (vP b s h) := by
  intro fu
  induction fu with
  | zero =>
    intro l1 s out h0 hF
    rw [FP_takesName_5] at hF
    cases hF
  | succ fu ih =>
    intro l1 s out h0 hF
    rw [FP_takesName_5] at hF
    refine xw_iload_n dP_takesName_5 rfl ?_
    refine xw_aload_n dP_takesName_6 rfl ?_
    refine xw_get dP_takesName_7 fP_9 rfl rfl ?_
    obtain ⟨r158, er158, hF⟩ := xg_b hF
    refine xg_V1 (k1 := 0) (n1 := 0) (CB_size (a := 1001) (by decide) er158) (vP_B (b := b) (s := s) (h := h)) (vP_B (b := b) (s := s) (h := h)).symm rfl dP_takesName_10 (kP_47 _) ⟨Nat.le_of_ble_eq_true rfl, Nat.le_of_ble_eq_true rfl⟩ rfl rfl rfl rfl (Nat.le_of_ble_eq_true rfl) (Nat.le_of_ble_eq_true rfl) (Nat.le_of_ble_eq_true rfl) (Nat.le_of_ble_eq_true rfl) (Nat.le_of_ble_eq_true rfl) ?_
    refine xw_icmp_ge 36 dP_takesName_13 (by decide) (fun c159 => ?_) (fun c159 => ?_)
    · replace hF := xg_t c159 hF
      refine xw_iload_n dP_takesName_36 rfl ?_
      refine xw_aload_n dP_takesName_37 rfl ?_
      refine xw_get dP_takesName_38 fP_23 rfl rfl ?_
      refine xw_isub dP_takesName_41 ?_
      refine xw_istore_n dP_takesName_42 (Nat.le_of_ble_eq_true rfl) ?_
      refine xw_Ln (L' := [some (.ref 1012), some (.int l1), some (.int (l1 - s.2.2)), none]) rfl ?_
      refine xw_iload_n dP_takesName_43 rfl ?_
      refine xw_bipush (12) dP_takesName_44 (by decide) ?_
      refine xw_icmp_le 51 dP_takesName_46 (by decide) (fun c160 => ?_) (fun c160 => ?_)
      · replace hF := xg_t c160 hF
        refine xw_aload_n dP_takesName_51 rfl ?_
        refine xw_get dP_takesName_52 fP_9 rfl rfl ?_
        refine xw_ldcS 16 dP_takesName_55 (List.mem_of_getElem? (i := 16) rfl) (by decide) ?_
        refine xw_aload_n dP_takesName_57 rfl ?_
        refine xw_get dP_takesName_58 fP_23 rfl rfl ?_
        refine xw_iload_n dP_takesName_61 rfl ?_
        obtain ⟨r161, er161, hF⟩ := xg_b hF
        refine xg_V1 (k1 := 0) (n1 := 0) (CB_hasOneOf (a := 1001) (by decide) er161) (vP_B (b := b) (s := s) (h := h)) (vP_B (b := b) (s := s) (h := h)).symm rfl dP_takesName_62 (kP_112 _) ⟨Nat.le_of_ble_eq_true rfl, Nat.le_of_ble_eq_true rfl⟩ rfl rfl rfl rfl (Nat.le_of_ble_eq_true rfl) (Nat.le_of_ble_eq_true rfl) (Nat.le_of_ble_eq_true rfl) (Nat.le_of_ble_eq_true rfl) (Nat.le_of_ble_eq_true rfl) ?_
        refine xw_istore_n dP_takesName_65 (Nat.le_of_ble_eq_true rfl) ?_
        refine xw_Ln (L' := [some (.ref 1012), some (.int l1), some (.int (l1 - s.2.2)), some (.int (xb r161))]) rfl ?_
        refine xw_aload_n dP_takesName_66 rfl ?_
        refine xw_iload_n dP_takesName_67 rfl ?_
        refine xw_if_eqB 77 dP_takesName_68 (by decide) (fun c162 => ?_) (fun c162 => ?_)
        · replace hF := xg_f c162 hF
          refine xw_sipush (263) dP_takesName_77 (by decide) ?_
          refine xw_aload_n dP_takesName_80 rfl ?_
          refine xw_get dP_takesName_81 fP_9 rfl rfl ?_
          refine xw_aload_n dP_takesName_84 rfl ?_
          refine xw_get dP_takesName_85 fP_23 rfl rfl ?_
          refine xw_iload_n dP_takesName_88 rfl ?_
          obtain ⟨r163, er163, hF⟩ := xg_b hF
          refine xg_S1 (k1 := 0) (n1 := 0) (CY_indexOf (a := 1001) (by decide) er163) (vP_B (b := b) (s := s) (h := h)) (vP_B (b := b) (s := s) (h := h)).symm rfl dP_takesName_89 (kP_121 _) ⟨Nat.le_of_ble_eq_true rfl, Nat.le_of_ble_eq_true rfl⟩ rfl rfl (Nat.le_of_ble_eq_true rfl) (Nat.le_of_ble_eq_true rfl) (Nat.le_of_ble_eq_true rfl) (Nat.le_of_ble_eq_true rfl) (Nat.le_of_ble_eq_true rfl) ?_
          refine xw_iadd dP_takesName_92 ?_
          refine xw_iload_n dP_takesName_93 rfl ?_
          obtain ⟨r164, er164, hF⟩ := xg_b hF
          refine xg_V0 (k1 := 0) (n1 := 0) (CP_take er164) rfl rfl rfl dP_takesName_94 (kP_97 _) ⟨Nat.le_of_ble_eq_true rfl, Nat.le_of_ble_eq_true rfl⟩ rfl rfl rfl rfl (Nat.le_of_ble_eq_true rfl) (Nat.le_of_ble_eq_true rfl) (Nat.le_of_ble_eq_true rfl) (Nat.le_of_ble_eq_true rfl) (Nat.le_of_ble_eq_true rfl) ?_
          refine xw_iconst (1) dP_takesName_97 (by decide) ?_
          obtain rfl := Option.some.inj hF
          exact xw_ireturn dP_takesName_98 rfl (xb_nar true) (Nat.le_of_ble_eq_true rfl) (Nat.le_of_ble_eq_true rfl) ⟨rfl, rfl⟩
        · replace hF := xg_t c162 hF
          refine xw_sipush (261) dP_takesName_71 (by decide) ?_
          refine xw_goto 93 dP_takesName_74 (by decide) ?_
          refine xw_iload_n dP_takesName_93 rfl ?_
          obtain ⟨r165, er165, hF⟩ := xg_b hF
          refine xg_V0 (k1 := 0) (n1 := 0) (CP_take er165) rfl rfl rfl dP_takesName_94 (kP_97 _) ⟨Nat.le_of_ble_eq_true rfl, Nat.le_of_ble_eq_true rfl⟩ rfl rfl rfl rfl (Nat.le_of_ble_eq_true rfl) (Nat.le_of_ble_eq_true rfl) (Nat.le_of_ble_eq_true rfl) (Nat.le_of_ble_eq_true rfl) (Nat.le_of_ble_eq_true rfl) ?_
          refine xw_iconst (1) dP_takesName_97 (by decide) ?_
          obtain rfl := Option.some.inj hF
          exact xw_ireturn dP_takesName_98 rfl (xb_nar true) (Nat.le_of_ble_eq_true rfl) (Nat.le_of_ble_eq_true rfl) ⟨rfl, rfl⟩
      · replace hF := xg_f c160 hF
        refine xw_iconst (0) dP_takesName_49 (by decide) ?_
        obtain rfl := Option.some.inj hF
        exact xw_ireturn dP_takesName_50 rfl (xb_nar false) (Nat.le_of_ble_eq_true rfl) (Nat.le_of_ble_eq_true rfl) ⟨rfl, rfl⟩
    · replace hF := xg_f c159 hF
      refine xw_aload_n dP_takesName_16 rfl ?_
      refine xw_get dP_takesName_17 fP_9 rfl rfl ?_
      refine xw_iload_n dP_takesName_20 rfl ?_
      obtain ⟨r166, er166, hF⟩ := xg_b hF
      refine xg_V1 (k1 := 0) (n1 := 0) (CB_at (a := 1001) (by decide) er166) (vP_B (b := b) (s := s) (h := h)) (vP_B (b := b) (s := s) (h := h)).symm rfl dP_takesName_21 (kP_52 _) ⟨Nat.le_of_ble_eq_true rfl, Nat.le_of_ble_eq_true rfl⟩ rfl rfl rfl rfl (Nat.le_of_ble_eq_true rfl) (Nat.le_of_ble_eq_true rfl) (Nat.le_of_ble_eq_true rfl) (Nat.le_of_ble_eq_true rfl) (Nat.le_of_ble_eq_true rfl) ?_
      refine xg_S1 (k1 := 0) (n1 := 0) (cP_isNamePart w) rfl rfl rfl dP_takesName_24 (kP_116 _) ⟨Nat.le_of_ble_eq_true rfl, Nat.le_of_ble_eq_true rfl⟩ rfl rfl (Nat.le_of_ble_eq_true rfl) (Nat.le_of_ble_eq_true rfl) (Nat.le_of_ble_eq_true rfl) (Nat.le_of_ble_eq_true rfl) (Nat.le_of_ble_eq_true rfl) ?_
      refine xw_if_eq 36 dP_takesName_27 (by decide) (fun c167 => ?_) (fun c167 => ?_)
      · replace hF := xg_t c167 hF
        refine xw_iload_n dP_takesName_36 rfl ?_
        refine xw_aload_n dP_takesName_37 rfl ?_
        refine xw_get dP_takesName_38 fP_23 rfl rfl ?_
        refine xw_isub dP_takesName_41 ?_
        refine xw_istore_n dP_takesName_42 (Nat.le_of_ble_eq_true rfl) ?_
        refine xw_Ln (L' := [some (.ref 1012), some (.int l1), some (.int (l1 - s.2.2)), none]) rfl ?_
        refine xw_iload_n dP_takesName_43 rfl ?_
        refine xw_bipush (12) dP_takesName_44 (by decide) ?_
        refine xw_icmp_le 51 dP_takesName_46 (by decide) (fun c168 => ?_) (fun c168 => ?_)
        · replace hF := xg_t c168 hF
          refine xw_aload_n dP_takesName_51 rfl ?_
          refine xw_get dP_takesName_52 fP_9 rfl rfl ?_
          refine xw_ldcS 16 dP_takesName_55 (List.mem_of_getElem? (i := 16) rfl) (by decide) ?_
          refine xw_aload_n dP_takesName_57 rfl ?_
          refine xw_get dP_takesName_58 fP_23 rfl rfl ?_
          refine xw_iload_n dP_takesName_61 rfl ?_
          obtain ⟨r169, er169, hF⟩ := xg_b hF
          refine xg_V1 (k1 := 0) (n1 := 0) (CB_hasOneOf (a := 1001) (by decide) er169) (vP_B (b := b) (s := s) (h := h)) (vP_B (b := b) (s := s) (h := h)).symm rfl dP_takesName_62 (kP_112 _) ⟨Nat.le_of_ble_eq_true rfl, Nat.le_of_ble_eq_true rfl⟩ rfl rfl rfl rfl (Nat.le_of_ble_eq_true rfl) (Nat.le_of_ble_eq_true rfl) (Nat.le_of_ble_eq_true rfl) (Nat.le_of_ble_eq_true rfl) (Nat.le_of_ble_eq_true rfl) ?_
          refine xw_istore_n dP_takesName_65 (Nat.le_of_ble_eq_true rfl) ?_
          refine xw_Ln (L' := [some (.ref 1012), some (.int l1), some (.int (l1 - s.2.2)), some (.int (xb r169))]) rfl ?_
          refine xw_aload_n dP_takesName_66 rfl ?_
          refine xw_iload_n dP_takesName_67 rfl ?_
          refine xw_if_eqB 77 dP_takesName_68 (by decide) (fun c170 => ?_) (fun c170 => ?_)
          · replace hF := xg_f c170 hF
            refine xw_sipush (263) dP_takesName_77 (by decide) ?_
            refine xw_aload_n dP_takesName_80 rfl ?_
            refine xw_get dP_takesName_81 fP_9 rfl rfl ?_
            refine xw_aload_n dP_takesName_84 rfl ?_
            refine xw_get dP_takesName_85 fP_23 rfl rfl ?_
            refine xw_iload_n dP_takesName_88 rfl ?_
            obtain ⟨r171, er171, hF⟩ := xg_b hF
            refine xg_S1 (k1 := 0) (n1 := 0) (CY_indexOf (a := 1001) (by decide) er171) (vP_B (b := b) (s := s) (h := h)) (vP_B (b := b) (s := s) (h := h)).symm rfl dP_takesName_89 (kP_121 _) ⟨Nat.le_of_ble_eq_true rfl, Nat.le_of_ble_eq_true rfl⟩ rfl rfl (Nat.le_of_ble_eq_true rfl) (Nat.le_of_ble_eq_true rfl) (Nat.le_of_ble_eq_true rfl) (Nat.le_of_ble_eq_true rfl) (Nat.le_of_ble_eq_true rfl) ?_
            refine xw_iadd dP_takesName_92 ?_
            refine xw_iload_n dP_takesName_93 rfl ?_
            obtain ⟨r172, er172, hF⟩ := xg_b hF
            refine xg_V0 (k1 := 0) (n1 := 0) (CP_take er172) rfl rfl rfl dP_takesName_94 (kP_97 _) ⟨Nat.le_of_ble_eq_true rfl, Nat.le_of_ble_eq_true rfl⟩ rfl rfl rfl rfl (Nat.le_of_ble_eq_true rfl) (Nat.le_of_ble_eq_true rfl) (Nat.le_of_ble_eq_true rfl) (Nat.le_of_ble_eq_true rfl) (Nat.le_of_ble_eq_true rfl) ?_
            refine xw_iconst (1) dP_takesName_97 (by decide) ?_
            obtain rfl := Option.some.inj hF
            exact xw_ireturn dP_takesName_98 rfl (xb_nar true) (Nat.le_of_ble_eq_true rfl) (Nat.le_of_ble_eq_true rfl) ⟨rfl, rfl⟩
          · replace hF := xg_t c170 hF
            refine xw_sipush (261) dP_takesName_71 (by decide) ?_
            refine xw_goto 93 dP_takesName_74 (by decide) ?_
            refine xw_iload_n dP_takesName_93 rfl ?_
            obtain ⟨r173, er173, hF⟩ := xg_b hF
            refine xg_V0 (k1 := 0) (n1 := 0) (CP_take er173) rfl rfl rfl dP_takesName_94 (kP_97 _) ⟨Nat.le_of_ble_eq_true rfl, Nat.le_of_ble_eq_true rfl⟩ rfl rfl rfl rfl (Nat.le_of_ble_eq_true rfl) (Nat.le_of_ble_eq_true rfl) (Nat.le_of_ble_eq_true rfl) (Nat.le_of_ble_eq_true rfl) (Nat.le_of_ble_eq_true rfl) ?_
            refine xw_iconst (1) dP_takesName_97 (by decide) ?_
            obtain rfl := Option.some.inj hF
            exact xw_ireturn dP_takesName_98 rfl (xb_nar true) (Nat.le_of_ble_eq_true rfl) (Nat.le_of_ble_eq_true rfl) ⟨rfl, rfl⟩
        · replace hF := xg_f c168 hF
          refine xw_iconst (0) dP_takesName_49 (by decide) ?_
          obtain rfl := Option.some.inj hF
          exact xw_ireturn dP_takesName_50 rfl (xb_nar false) (Nat.le_of_ble_eq_true rfl) (Nat.le_of_ble_eq_true rfl) ⟨rfl, rfl⟩
      · replace hF := xg_f c167 hF
        refine xw_iinc ((l1 + 1)) dP_takesName_30 rfl rfl (Nat.le_of_ble_eq_true rfl) ?_
        refine xw_Ln (L' := [some (.ref 1012), some (.int (l1 + 1)), none, none]) rfl ?_
        refine xw_goto 5 dP_takesName_33 (by decide) ?_
        exact ih hF
set_option maxRecDepth 20000 in
theorem CP_takesName {w : xw_G} {h : xw_H}  {b : xBs}  {s : xPs} {out : (Bool × xPs)} (hF : FP_takesName b  s = some out) : xw_C w (mP_takesName { frames := 7, cells := 0, slots := 0, locals := 158 }) (xw_R (some (.int (xb out.1))) (vP b out.2 h)) [.ref 1012] (vP b s h) := by
  unfold FP_takesName at hF
  refine xw_enter rfl (show plainName "FormulaShaper$Splitter" = true by decide +kernel) (Nat.le_of_ble_eq_true rfl) ?_
  refine xw_aload_n dP_takesName_0 rfl ?_
  refine xw_get dP_takesName_1 fP_23 rfl rfl ?_
  refine xw_istore_n dP_takesName_4 (Nat.le_of_ble_eq_true rfl) ?_
  refine xw_Ln (L' := [some (.ref 1012), some (.int s.2.2), none, none]) rfl ?_
  exact CP_takesName_5 xFuel hF
/-- FormulaShaper$Splitter.takesReference -/
def FP_takesReference (b : xBs)  (s : xPs) : Option (Bool × xPs) := (FT_add 262 s.2.2 s.1).bind fun r174 => (FP_cellStop b s.2.2 (r174, s.2.1, s.2.2)).bind fun r175 => (FP_rowOf b s.2.2 r175 (r174, s.2.1, s.2.2)).bind fun r176 => (FP_columnOf b s.2.2 (r174, s.2.1, s.2.2)).bind fun r177 => (FP_next b (r174, s.2.1, r175)).bind fun r178 => if r178.1 = 58 then ((FP_next b (r178.2.1, r178.2.2.1, (r178.2.2.2 + 1))).bind fun r180 => (FP_cellStop b r180.2.2.2 r180.2).bind fun r181 => if r181 = (-1) then (some (false, r180.2)) else ((FP_rowOf b r180.2.2.2 r181 r180.2).bind fun r183 => (FP_columnOf b r180.2.2.2 r180.2).bind fun r184 => (FF_addReference (sR_of (sA_of r176 r183) (sA_of r177 r184) 1) r180.2.2.1).bind fun r185 => some (true, (r180.2.1, r185, r181)))) else ((FF_addReference (sR_of (sA_of r176 r176) (sA_of r177 r177) 0) r178.2.2.1).bind fun r186 => some (true, (r178.2.1, r186, r178.2.2.2)))
set_option maxRecDepth 20000 in
theorem CP_takesReference {w : xw_G} {h : xw_H}  {b : xBs}  {s : xPs} {out : (Bool × xPs)} (hF : FP_takesReference b  s = some out) : xw_C w (mP_takesReference { frames := 4, cells := 0, slots := 0, locals := 88 }) (xw_R (some (.int (xb out.1))) (vP b out.2 h)) [.ref 1012] (vP b s h) := by
  unfold FP_takesReference at hF
  refine xw_enter rfl (show plainName "FormulaShaper$Splitter" = true by decide +kernel) (Nat.le_of_ble_eq_true rfl) ?_
  refine xw_aload_n dP_takesReference_0 rfl ?_
  refine xw_get dP_takesReference_1 fP_15 rfl rfl ?_
  refine xw_sipush (262) dP_takesReference_4 (by decide) ?_
  refine xw_aload_n dP_takesReference_7 rfl ?_
  refine xw_get dP_takesReference_8 fP_23 rfl rfl ?_
  obtain ⟨r174, er174, hF⟩ := xg_b hF
  refine xg_V0 (k1 := 0) (n1 := 0) (CT_add er174) (vP_T (b := b) (s := s) (h := h)) (vP_T (b := b) (s := (r174, s.2.1, s.2.2)) (h := h)).symm rfl dP_takesReference_11 (kP_43 _) ⟨Nat.le_of_ble_eq_true rfl, Nat.le_of_ble_eq_true rfl⟩ rfl rfl rfl rfl (Nat.le_of_ble_eq_true rfl) (Nat.le_of_ble_eq_true rfl) (Nat.le_of_ble_eq_true rfl) (Nat.le_of_ble_eq_true rfl) (Nat.le_of_ble_eq_true rfl) ?_
  refine xw_aload_n dP_takesReference_14 rfl ?_
  refine xw_aload_n dP_takesReference_15 rfl ?_
  refine xw_get dP_takesReference_16 fP_23 rfl rfl ?_
  obtain ⟨r175, er175, hF⟩ := xg_b hF
  refine xg_V1 (k1 := 0) (n1 := 0) (CP_cellStop er175) rfl rfl rfl dP_takesReference_19 (kP_68 _) ⟨Nat.le_of_ble_eq_true rfl, Nat.le_of_ble_eq_true rfl⟩ rfl rfl rfl rfl (Nat.le_of_ble_eq_true rfl) (Nat.le_of_ble_eq_true rfl) (Nat.le_of_ble_eq_true rfl) (Nat.le_of_ble_eq_true rfl) (Nat.le_of_ble_eq_true rfl) ?_
  refine xw_istore_n dP_takesReference_22 (Nat.le_of_ble_eq_true rfl) ?_
  refine xw_Ln (L' := [some (.ref 1012), some (.int r175), none, none, none, none, none]) rfl ?_
  refine xw_aload_n dP_takesReference_23 rfl ?_
  refine xw_aload_n dP_takesReference_24 rfl ?_
  refine xw_get dP_takesReference_25 fP_23 rfl rfl ?_
  refine xw_iload_n dP_takesReference_28 rfl ?_
  obtain ⟨r176, er176, hF⟩ := xg_b hF
  refine xg_V1 (k1 := 0) (n1 := 0) (CP_rowOf er176) rfl rfl rfl dP_takesReference_29 (kP_126 _) ⟨Nat.le_of_ble_eq_true rfl, Nat.le_of_ble_eq_true rfl⟩ rfl rfl rfl rfl (Nat.le_of_ble_eq_true rfl) (Nat.le_of_ble_eq_true rfl) (Nat.le_of_ble_eq_true rfl) (Nat.le_of_ble_eq_true rfl) (Nat.le_of_ble_eq_true rfl) ?_
  refine xw_istore_n dP_takesReference_32 (Nat.le_of_ble_eq_true rfl) ?_
  refine xw_Ln (L' := [some (.ref 1012), some (.int r175), some (.int r176), none, none, none, none]) rfl ?_
  refine xw_aload_n dP_takesReference_33 rfl ?_
  refine xw_aload_n dP_takesReference_34 rfl ?_
  refine xw_get dP_takesReference_35 fP_23 rfl rfl ?_
  obtain ⟨r177, er177, hF⟩ := xg_b hF
  refine xg_V1 (k1 := 0) (n1 := 0) (CP_columnOf er177) rfl rfl rfl dP_takesReference_38 (kP_129 _) ⟨Nat.le_of_ble_eq_true rfl, Nat.le_of_ble_eq_true rfl⟩ rfl rfl rfl rfl (Nat.le_of_ble_eq_true rfl) (Nat.le_of_ble_eq_true rfl) (Nat.le_of_ble_eq_true rfl) (Nat.le_of_ble_eq_true rfl) (Nat.le_of_ble_eq_true rfl) ?_
  refine xw_istore_n dP_takesReference_41 (Nat.le_of_ble_eq_true rfl) ?_
  refine xw_Ln (L' := [some (.ref 1012), some (.int r175), some (.int r176), some (.int r177), none, none, none]) rfl ?_
  refine xw_aload_n dP_takesReference_42 rfl ?_
  refine xw_iload_n dP_takesReference_43 rfl ?_
  refine xg_put dP_takesReference_44 fP_23 rfl (by decide) (Nat.le_of_ble_eq_true rfl) (fun _ => rfl) (fun _ => rfl) vP_at ?_
  refine xw_aload_n dP_takesReference_47 rfl ?_
  obtain ⟨r178, er178, hF⟩ := xg_b hF
  refine xg_V1 (k1 := 0) (n1 := 0) (CP_next er178) rfl rfl rfl dP_takesReference_48 (kP_35 _) ⟨Nat.le_of_ble_eq_true rfl, Nat.le_of_ble_eq_true rfl⟩ rfl rfl rfl rfl (Nat.le_of_ble_eq_true rfl) (Nat.le_of_ble_eq_true rfl) (Nat.le_of_ble_eq_true rfl) (Nat.le_of_ble_eq_true rfl) (Nat.le_of_ble_eq_true rfl) ?_
  refine xw_bipush (58) dP_takesReference_51 (by decide) ?_
  refine xw_icmp_eq 79 dP_takesReference_53 (by decide) (fun c179 => ?_) (fun c179 => ?_)
  · replace hF := xg_t c179 hF
    refine xw_aload_n dP_takesReference_79 rfl ?_
    refine xw_dup_r dP_takesReference_80 ?_
    refine xw_get dP_takesReference_81 fP_23 rfl rfl ?_
    refine xw_iconst (1) dP_takesReference_84 (by decide) ?_
    refine xw_iadd dP_takesReference_85 ?_
    refine xg_put dP_takesReference_86 fP_23 rfl (by decide) (Nat.le_of_ble_eq_true rfl) (fun _ => rfl) (fun _ => rfl) vP_at ?_
    refine xw_aload_n dP_takesReference_89 rfl ?_
    obtain ⟨r180, er180, hF⟩ := xg_b hF
    refine xg_V1 (k1 := 0) (n1 := 0) (CP_next er180) rfl rfl rfl dP_takesReference_90 (kP_35 _) ⟨Nat.le_of_ble_eq_true rfl, Nat.le_of_ble_eq_true rfl⟩ rfl rfl rfl rfl (Nat.le_of_ble_eq_true rfl) (Nat.le_of_ble_eq_true rfl) (Nat.le_of_ble_eq_true rfl) (Nat.le_of_ble_eq_true rfl) (Nat.le_of_ble_eq_true rfl) ?_
    refine xw_pop_i dP_takesReference_93 ?_
    refine xw_aload_n dP_takesReference_94 rfl ?_
    refine xw_aload_n dP_takesReference_95 rfl ?_
    refine xw_get dP_takesReference_96 fP_23 rfl rfl ?_
    obtain ⟨r181, er181, hF⟩ := xg_b hF
    refine xg_V1 (k1 := 0) (n1 := 0) (CP_cellStop er181) rfl rfl rfl dP_takesReference_99 (kP_68 _) ⟨Nat.le_of_ble_eq_true rfl, Nat.le_of_ble_eq_true rfl⟩ rfl rfl rfl rfl (Nat.le_of_ble_eq_true rfl) (Nat.le_of_ble_eq_true rfl) (Nat.le_of_ble_eq_true rfl) (Nat.le_of_ble_eq_true rfl) (Nat.le_of_ble_eq_true rfl) ?_
    refine xw_istore dP_takesReference_102 (Nat.le_of_ble_eq_true rfl) ?_
    refine xw_Ln (L' := [some (.ref 1012), some (.int r175), some (.int r176), some (.int r177), some (.int r181), none, none]) rfl ?_
    refine xw_iload dP_takesReference_104 rfl ?_
    refine xw_iconst (-1) dP_takesReference_106 (by decide) ?_
    refine xw_icmp_ne 112 dP_takesReference_107 (by decide) (fun c182 => ?_) (fun c182 => ?_)
    · replace hF := xg_f c182 hF
      refine xw_iload_n dP_takesReference_112 rfl ?_
      refine xw_aload_n dP_takesReference_113 rfl ?_
      refine xw_aload_n dP_takesReference_114 rfl ?_
      refine xw_get dP_takesReference_115 fP_23 rfl rfl ?_
      refine xw_iload dP_takesReference_118 rfl ?_
      obtain ⟨r183, er183, hF⟩ := xg_b hF
      refine xg_V1 (k1 := 0) (n1 := 0) (CP_rowOf er183) rfl rfl rfl dP_takesReference_120 (kP_126 _) ⟨Nat.le_of_ble_eq_true rfl, Nat.le_of_ble_eq_true rfl⟩ rfl rfl rfl rfl (Nat.le_of_ble_eq_true rfl) (Nat.le_of_ble_eq_true rfl) (Nat.le_of_ble_eq_true rfl) (Nat.le_of_ble_eq_true rfl) (Nat.le_of_ble_eq_true rfl) ?_
      refine xg_S1 (k1 := 0) (n1 := 0) (cA_of w) rfl rfl rfl dP_takesReference_123 (kP_132 _) ⟨Nat.le_of_ble_eq_true rfl, Nat.le_of_ble_eq_true rfl⟩ rfl rfl (Nat.le_of_ble_eq_true rfl) (Nat.le_of_ble_eq_true rfl) (Nat.le_of_ble_eq_true rfl) (Nat.le_of_ble_eq_true rfl) (Nat.le_of_ble_eq_true rfl) ?_
      refine xw_istore dP_takesReference_126 (Nat.le_of_ble_eq_true rfl) ?_
      refine xw_Ln (L' := [some (.ref 1012), some (.int r175), some (.int r176), some (.int r177), some (.int r181), some (.int (sA_of r176 r183)), none]) rfl ?_
      refine xw_iload_n dP_takesReference_128 rfl ?_
      refine xw_aload_n dP_takesReference_129 rfl ?_
      refine xw_aload_n dP_takesReference_130 rfl ?_
      refine xw_get dP_takesReference_131 fP_23 rfl rfl ?_
      obtain ⟨r184, er184, hF⟩ := xg_b hF
      refine xg_V1 (k1 := 0) (n1 := 0) (CP_columnOf er184) rfl rfl rfl dP_takesReference_134 (kP_129 _) ⟨Nat.le_of_ble_eq_true rfl, Nat.le_of_ble_eq_true rfl⟩ rfl rfl rfl rfl (Nat.le_of_ble_eq_true rfl) (Nat.le_of_ble_eq_true rfl) (Nat.le_of_ble_eq_true rfl) (Nat.le_of_ble_eq_true rfl) (Nat.le_of_ble_eq_true rfl) ?_
      refine xg_S1 (k1 := 0) (n1 := 0) (cA_of w) rfl rfl rfl dP_takesReference_137 (kP_132 _) ⟨Nat.le_of_ble_eq_true rfl, Nat.le_of_ble_eq_true rfl⟩ rfl rfl (Nat.le_of_ble_eq_true rfl) (Nat.le_of_ble_eq_true rfl) (Nat.le_of_ble_eq_true rfl) (Nat.le_of_ble_eq_true rfl) (Nat.le_of_ble_eq_true rfl) ?_
      refine xw_istore dP_takesReference_140 (Nat.le_of_ble_eq_true rfl) ?_
      refine xw_Ln (L' := [some (.ref 1012), some (.int r175), some (.int r176), some (.int r177), some (.int r181), some (.int (sA_of r176 r183)), some (.int (sA_of r177 r184))]) rfl ?_
      refine xw_aload_n dP_takesReference_142 rfl ?_
      refine xw_get dP_takesReference_143 fP_19 rfl rfl ?_
      refine xw_iload dP_takesReference_146 rfl ?_
      refine xw_iload dP_takesReference_148 rfl ?_
      refine xw_iconst (1) dP_takesReference_150 (by decide) ?_
      refine xg_S1 (k1 := 0) (n1 := 0) (cR_of w) rfl rfl rfl dP_takesReference_151 (kP_137 _) ⟨Nat.le_of_ble_eq_true rfl, Nat.le_of_ble_eq_true rfl⟩ rfl rfl (Nat.le_of_ble_eq_true rfl) (Nat.le_of_ble_eq_true rfl) (Nat.le_of_ble_eq_true rfl) (Nat.le_of_ble_eq_true rfl) (Nat.le_of_ble_eq_true rfl) ?_
      obtain ⟨r185, er185, hF⟩ := xg_b hF
      refine xg_V0 (k1 := 0) (n1 := 0) (CF_addReference (a := 1010) (by decide) er185) (vP_F (b := b) (s := r180.2) (h := h)) (vP_F (b := b) (s := (r180.2.1, r185, r180.2.2.2)) (h := h)).symm rfl dP_takesReference_154 (kP_142 _) ⟨Nat.le_of_ble_eq_true rfl, Nat.le_of_ble_eq_true rfl⟩ rfl rfl rfl rfl (Nat.le_of_ble_eq_true rfl) (Nat.le_of_ble_eq_true rfl) (Nat.le_of_ble_eq_true rfl) (Nat.le_of_ble_eq_true rfl) (Nat.le_of_ble_eq_true rfl) ?_
      refine xw_aload_n dP_takesReference_157 rfl ?_
      refine xw_iload dP_takesReference_158 rfl ?_
      refine xg_put dP_takesReference_160 fP_23 rfl (by decide) (Nat.le_of_ble_eq_true rfl) (fun _ => rfl) (fun _ => rfl) vP_at ?_
      refine xw_iconst (1) dP_takesReference_163 (by decide) ?_
      obtain rfl := Option.some.inj hF
      exact xw_ireturn dP_takesReference_164 rfl (xb_nar true) (Nat.le_of_ble_eq_true rfl) (Nat.le_of_ble_eq_true rfl) ⟨rfl, rfl⟩
    · replace hF := xg_t c182 hF
      refine xw_iconst (0) dP_takesReference_110 (by decide) ?_
      obtain rfl := Option.some.inj hF
      exact xw_ireturn dP_takesReference_111 rfl (xb_nar false) (Nat.le_of_ble_eq_true rfl) (Nat.le_of_ble_eq_true rfl) ⟨rfl, rfl⟩
  · replace hF := xg_f c179 hF
    refine xw_aload_n dP_takesReference_56 rfl ?_
    refine xw_get dP_takesReference_57 fP_19 rfl rfl ?_
    refine xw_iload_n dP_takesReference_60 rfl ?_
    refine xw_iload_n dP_takesReference_61 rfl ?_
    refine xg_S1 (k1 := 0) (n1 := 0) (cA_of w) rfl rfl rfl dP_takesReference_62 (kP_132 _) ⟨Nat.le_of_ble_eq_true rfl, Nat.le_of_ble_eq_true rfl⟩ rfl rfl (Nat.le_of_ble_eq_true rfl) (Nat.le_of_ble_eq_true rfl) (Nat.le_of_ble_eq_true rfl) (Nat.le_of_ble_eq_true rfl) (Nat.le_of_ble_eq_true rfl) ?_
    refine xw_iload_n dP_takesReference_65 rfl ?_
    refine xw_iload_n dP_takesReference_66 rfl ?_
    refine xg_S1 (k1 := 0) (n1 := 0) (cA_of w) rfl rfl rfl dP_takesReference_67 (kP_132 _) ⟨Nat.le_of_ble_eq_true rfl, Nat.le_of_ble_eq_true rfl⟩ rfl rfl (Nat.le_of_ble_eq_true rfl) (Nat.le_of_ble_eq_true rfl) (Nat.le_of_ble_eq_true rfl) (Nat.le_of_ble_eq_true rfl) (Nat.le_of_ble_eq_true rfl) ?_
    refine xw_iconst (0) dP_takesReference_70 (by decide) ?_
    refine xg_S1 (k1 := 0) (n1 := 0) (cR_of w) rfl rfl rfl dP_takesReference_71 (kP_137 _) ⟨Nat.le_of_ble_eq_true rfl, Nat.le_of_ble_eq_true rfl⟩ rfl rfl (Nat.le_of_ble_eq_true rfl) (Nat.le_of_ble_eq_true rfl) (Nat.le_of_ble_eq_true rfl) (Nat.le_of_ble_eq_true rfl) (Nat.le_of_ble_eq_true rfl) ?_
    obtain ⟨r186, er186, hF⟩ := xg_b hF
    refine xg_V0 (k1 := 0) (n1 := 0) (CF_addReference (a := 1010) (by decide) er186) (vP_F (b := b) (s := r178.2) (h := h)) (vP_F (b := b) (s := (r178.2.1, r186, r178.2.2.2)) (h := h)).symm rfl dP_takesReference_74 (kP_142 _) ⟨Nat.le_of_ble_eq_true rfl, Nat.le_of_ble_eq_true rfl⟩ rfl rfl rfl rfl (Nat.le_of_ble_eq_true rfl) (Nat.le_of_ble_eq_true rfl) (Nat.le_of_ble_eq_true rfl) (Nat.le_of_ble_eq_true rfl) (Nat.le_of_ble_eq_true rfl) ?_
    refine xw_iconst (1) dP_takesReference_77 (by decide) ?_
    obtain rfl := Option.some.inj hF
    exact xw_ireturn dP_takesReference_78 rfl (xb_nar true) (Nat.le_of_ble_eq_true rfl) (Nat.le_of_ble_eq_true rfl) ⟨rfl, rfl⟩
/-- FormulaShaper$Splitter.takesThing -/
def FP_takesThing (b : xBs)  (s : xPs) : Option (Bool × xPs) := (FP_next b s).bind fun r187 => if (sP_isDigit r187.1) = 0 then (if r187.1 = 34 then ((FP_takesText b r187.2).bind fun r198 => some (r198.1, r198.2)) else (if r187.1 = 35 then ((FP_takesError b r187.2).bind fun r197 => some (r197.1, r197.2)) else ((FP_cellStop b r187.2.2.2 r187.2).bind fun r191 => if r191 = (-1) then (if (sP_isCapital r187.1) = 0 then ((FP_takesMark b r187.1 r187.2).bind fun r194 => some (r194.1, r194.2)) else ((FP_takesName b r187.2).bind fun r195 => some (r195.1, r195.2))) else ((FP_takesReference b r187.2).bind fun r196 => some (r196.1, r196.2))))) else ((FP_takesNumber b r187.2).bind fun r199 => some (r199.1, r199.2))
set_option maxRecDepth 20000 in
theorem CP_takesThing {w : xw_G} {h : xw_H}  {b : xBs}  {s : xPs} {out : (Bool × xPs)} (hF : FP_takesThing b  s = some out) : xw_C w (mP_takesThing { frames := 8, cells := 0, slots := 0, locals := 181 }) (xw_R (some (.int (xb out.1))) (vP b out.2 h)) [.ref 1012] (vP b s h) := by
  unfold FP_takesThing at hF
  refine xw_enter rfl (show plainName "FormulaShaper$Splitter" = true by decide +kernel) (Nat.le_of_ble_eq_true rfl) ?_
  refine xw_aload_n dP_takesThing_0 rfl ?_
  obtain ⟨r187, er187, hF⟩ := xg_b hF
  refine xg_V1 (k1 := 0) (n1 := 0) (CP_next er187) rfl rfl rfl dP_takesThing_1 (kP_35 _) ⟨Nat.le_of_ble_eq_true rfl, Nat.le_of_ble_eq_true rfl⟩ rfl rfl rfl rfl (Nat.le_of_ble_eq_true rfl) (Nat.le_of_ble_eq_true rfl) (Nat.le_of_ble_eq_true rfl) (Nat.le_of_ble_eq_true rfl) (Nat.le_of_ble_eq_true rfl) ?_
  refine xw_istore_n dP_takesThing_4 (Nat.le_of_ble_eq_true rfl) ?_
  refine xw_Ln (L' := [some (.ref 1012), some (.int r187.1)]) rfl ?_
  refine xw_iload_n dP_takesThing_5 rfl ?_
  refine xg_S1 (k1 := 0) (n1 := 0) (cP_isDigit w) rfl rfl rfl dP_takesThing_6 (kP_55 _) ⟨Nat.le_of_ble_eq_true rfl, Nat.le_of_ble_eq_true rfl⟩ rfl rfl (Nat.le_of_ble_eq_true rfl) (Nat.le_of_ble_eq_true rfl) (Nat.le_of_ble_eq_true rfl) (Nat.le_of_ble_eq_true rfl) (Nat.le_of_ble_eq_true rfl) ?_
  refine xw_if_eq 17 dP_takesThing_9 (by decide) (fun c188 => ?_) (fun c188 => ?_)
  · replace hF := xg_t c188 hF
    refine xw_iload_n dP_takesThing_17 rfl ?_
    refine xw_bipush (34) dP_takesThing_18 (by decide) ?_
    refine xw_icmp_ne 28 dP_takesThing_20 (by decide) (fun c189 => ?_) (fun c189 => ?_)
    · replace hF := xg_f c189 hF
      refine xw_iload_n dP_takesThing_28 rfl ?_
      refine xw_bipush (35) dP_takesThing_29 (by decide) ?_
      refine xw_icmp_ne 39 dP_takesThing_31 (by decide) (fun c190 => ?_) (fun c190 => ?_)
      · replace hF := xg_f c190 hF
        refine xw_aload_n dP_takesThing_39 rfl ?_
        refine xw_aload_n dP_takesThing_40 rfl ?_
        refine xw_get dP_takesThing_41 fP_23 rfl rfl ?_
        obtain ⟨r191, er191, hF⟩ := xg_b hF
        refine xg_V1 (k1 := 0) (n1 := 0) (CP_cellStop er191) rfl rfl rfl dP_takesThing_44 (kP_68 _) ⟨Nat.le_of_ble_eq_true rfl, Nat.le_of_ble_eq_true rfl⟩ rfl rfl rfl rfl (Nat.le_of_ble_eq_true rfl) (Nat.le_of_ble_eq_true rfl) (Nat.le_of_ble_eq_true rfl) (Nat.le_of_ble_eq_true rfl) (Nat.le_of_ble_eq_true rfl) ?_
        refine xw_iconst (-1) dP_takesThing_47 (by decide) ?_
        refine xw_icmp_eq 56 dP_takesThing_48 (by decide) (fun c192 => ?_) (fun c192 => ?_)
        · replace hF := xg_t c192 hF
          refine xw_iload_n dP_takesThing_56 rfl ?_
          refine xg_S1 (k1 := 0) (n1 := 0) (cP_isCapital w) rfl rfl rfl dP_takesThing_57 (kP_74 _) ⟨Nat.le_of_ble_eq_true rfl, Nat.le_of_ble_eq_true rfl⟩ rfl rfl (Nat.le_of_ble_eq_true rfl) (Nat.le_of_ble_eq_true rfl) (Nat.le_of_ble_eq_true rfl) (Nat.le_of_ble_eq_true rfl) (Nat.le_of_ble_eq_true rfl) ?_
          refine xw_if_eq 70 dP_takesThing_60 (by decide) (fun c193 => ?_) (fun c193 => ?_)
          · replace hF := xg_t c193 hF
            refine xw_aload_n dP_takesThing_70 rfl ?_
            refine xw_iload_n dP_takesThing_71 rfl ?_
            obtain ⟨r194, er194, hF⟩ := xg_b hF
            refine xg_V1 (k1 := 0) (n1 := 0) (CP_takesMark er194) rfl rfl rfl dP_takesThing_72 (kP_80 _) ⟨Nat.le_of_ble_eq_true rfl, Nat.le_of_ble_eq_true rfl⟩ rfl rfl rfl rfl (Nat.le_of_ble_eq_true rfl) (Nat.le_of_ble_eq_true rfl) (Nat.le_of_ble_eq_true rfl) (Nat.le_of_ble_eq_true rfl) (Nat.le_of_ble_eq_true rfl) ?_
            obtain rfl := Option.some.inj hF
            exact xw_ireturn dP_takesThing_75 rfl (xb_nar r194.1) (Nat.le_of_ble_eq_true rfl) (Nat.le_of_ble_eq_true rfl) ⟨rfl, rfl⟩
          · replace hF := xg_f c193 hF
            refine xw_aload_n dP_takesThing_63 rfl ?_
            obtain ⟨r195, er195, hF⟩ := xg_b hF
            refine xg_V1 (k1 := 0) (n1 := 0) (CP_takesName er195) rfl rfl rfl dP_takesThing_64 (kP_77 _) ⟨Nat.le_of_ble_eq_true rfl, Nat.le_of_ble_eq_true rfl⟩ rfl rfl rfl rfl (Nat.le_of_ble_eq_true rfl) (Nat.le_of_ble_eq_true rfl) (Nat.le_of_ble_eq_true rfl) (Nat.le_of_ble_eq_true rfl) (Nat.le_of_ble_eq_true rfl) ?_
            refine xw_goto 75 dP_takesThing_67 (by decide) ?_
            obtain rfl := Option.some.inj hF
            exact xw_ireturn dP_takesThing_75 rfl (xb_nar r195.1) (Nat.le_of_ble_eq_true rfl) (Nat.le_of_ble_eq_true rfl) ⟨rfl, rfl⟩
        · replace hF := xg_f c192 hF
          refine xw_aload_n dP_takesThing_51 rfl ?_
          obtain ⟨r196, er196, hF⟩ := xg_b hF
          refine xg_V1 (k1 := 0) (n1 := 0) (CP_takesReference er196) rfl rfl rfl dP_takesThing_52 (kP_71 _) ⟨Nat.le_of_ble_eq_true rfl, Nat.le_of_ble_eq_true rfl⟩ rfl rfl rfl rfl (Nat.le_of_ble_eq_true rfl) (Nat.le_of_ble_eq_true rfl) (Nat.le_of_ble_eq_true rfl) (Nat.le_of_ble_eq_true rfl) (Nat.le_of_ble_eq_true rfl) ?_
          obtain rfl := Option.some.inj hF
          exact xw_ireturn dP_takesThing_55 rfl (xb_nar r196.1) (Nat.le_of_ble_eq_true rfl) (Nat.le_of_ble_eq_true rfl) ⟨rfl, rfl⟩
      · replace hF := xg_t c190 hF
        refine xw_aload_n dP_takesThing_34 rfl ?_
        obtain ⟨r197, er197, hF⟩ := xg_b hF
        refine xg_V1 (k1 := 0) (n1 := 0) (CP_takesError er197) rfl rfl rfl dP_takesThing_35 (kP_65 _) ⟨Nat.le_of_ble_eq_true rfl, Nat.le_of_ble_eq_true rfl⟩ rfl rfl rfl rfl (Nat.le_of_ble_eq_true rfl) (Nat.le_of_ble_eq_true rfl) (Nat.le_of_ble_eq_true rfl) (Nat.le_of_ble_eq_true rfl) (Nat.le_of_ble_eq_true rfl) ?_
        obtain rfl := Option.some.inj hF
        exact xw_ireturn dP_takesThing_38 rfl (xb_nar r197.1) (Nat.le_of_ble_eq_true rfl) (Nat.le_of_ble_eq_true rfl) ⟨rfl, rfl⟩
    · replace hF := xg_t c189 hF
      refine xw_aload_n dP_takesThing_23 rfl ?_
      obtain ⟨r198, er198, hF⟩ := xg_b hF
      refine xg_V1 (k1 := 0) (n1 := 0) (CP_takesText er198) rfl rfl rfl dP_takesThing_24 (kP_62 _) ⟨Nat.le_of_ble_eq_true rfl, Nat.le_of_ble_eq_true rfl⟩ rfl rfl rfl rfl (Nat.le_of_ble_eq_true rfl) (Nat.le_of_ble_eq_true rfl) (Nat.le_of_ble_eq_true rfl) (Nat.le_of_ble_eq_true rfl) (Nat.le_of_ble_eq_true rfl) ?_
      obtain rfl := Option.some.inj hF
      exact xw_ireturn dP_takesThing_27 rfl (xb_nar r198.1) (Nat.le_of_ble_eq_true rfl) (Nat.le_of_ble_eq_true rfl) ⟨rfl, rfl⟩
  · replace hF := xg_f c188 hF
    refine xw_aload_n dP_takesThing_12 rfl ?_
    obtain ⟨r199, er199, hF⟩ := xg_b hF
    refine xg_V1 (k1 := 0) (n1 := 0) (CP_takesNumber er199) rfl rfl rfl dP_takesThing_13 (kP_59 _) ⟨Nat.le_of_ble_eq_true rfl, Nat.le_of_ble_eq_true rfl⟩ rfl rfl rfl rfl (Nat.le_of_ble_eq_true rfl) (Nat.le_of_ble_eq_true rfl) (Nat.le_of_ble_eq_true rfl) (Nat.le_of_ble_eq_true rfl) (Nat.le_of_ble_eq_true rfl) ?_
    obtain rfl := Option.some.inj hF
    exact xw_ireturn dP_takesThing_16 rfl (xb_nar r199.1) (Nat.le_of_ble_eq_true rfl) (Nat.le_of_ble_eq_true rfl) ⟨rfl, rfl⟩
def FP_split_18 (b : xBs) : Nat → Bool → Int32 → xPs → Option xPs
  | 0, _, _, _ => none
  | fu + 1, l1, l2, s => if 2000 ≤ l2 then (if l1 = true then ((FT_add 256 s.2.2 s.1).bind fun r205 => some (r205, s.2.1, s.2.2)) else ((FT_add 257 s.2.2 s.1).bind fun r204 => some (r204, s.2.1, s.2.2))) else (if l1 = true then ((FP_next b s).bind fun r210 => if r210.1 = (-1) then (if l1 = true then ((FT_add 256 r210.2.2.2 r210.2.1).bind fun r214 => some (r214, r210.2.2.1, r210.2.2.2)) else ((FT_add 257 r210.2.2.2 r210.2.1).bind fun r213 => some (r213, r210.2.2.1, r210.2.2.2))) else ((FP_takesThing b r210.2).bind fun r215 => FP_split_18 b fu r215.1 (l2 + 1) r215.2)) else (if l1 = true then ((FT_add 256 s.2.2 s.1).bind fun r209 => some (r209, s.2.1, s.2.2)) else ((FT_add 257 s.2.2 s.1).bind fun r208 => some (r208, s.2.1, s.2.2))))
/-- FormulaShaper$Splitter.split -/
def FP_split (b : xBs)  (s : xPs) : Option xPs := (FT_clear s.1).bind fun r200 => (FF_clear s.2.1).bind fun r201 => FP_split_18 b xFuel true 0 (r200, r201, s.2.2)
set_option maxRecDepth 20000 in
theorem CP_split_18 {w : xw_G} {h : xw_H}  {b : xBs} : ∀ (fu : Nat) {l1 : Bool} {l2 : Int32} {s : xPs} {out : xPs} {h0 : xw_H}, FP_split_18 b fu l1 l2 s = some out → xw_X w (mP_split { frames := 9, cells := 0, slots := 0, locals := 202 }) (xw_R none (vP b out h)) h0 0 0 18 [some (.ref 1012), some (.int (xb l1)), some (.int l2)] [] (vP b s h) := by
  intro fu
  induction fu with
  | zero =>
    intro l1 l2 s out h0 hF
    rw [FP_split_18] at hF
    cases hF
  | succ fu ih =>
    intro l1 l2 s out h0 hF
    rw [FP_split_18] at hF
    refine xw_iload_n dP_split_18 rfl ?_
    refine xw_sipush (2000) dP_split_19 (by decide) ?_
    refine xw_icmp_ge 48 dP_split_22 (by decide) (fun c202 => ?_) (fun c202 => ?_)
    · replace hF := xg_t c202 hF
      refine xw_aload_n dP_split_48 rfl ?_
      refine xw_get dP_split_49 fP_15 rfl rfl ?_
      refine xw_iload_n dP_split_52 rfl ?_
      refine xw_if_eqB 62 dP_split_53 (by decide) (fun c203 => ?_) (fun c203 => ?_)
      · replace hF := xg_f c203 hF
        refine xw_sipush (257) dP_split_62 (by decide) ?_
        refine xw_aload_n dP_split_65 rfl ?_
        refine xw_get dP_split_66 fP_23 rfl rfl ?_
        obtain ⟨r204, er204, hF⟩ := xg_b hF
        refine xg_V0 (k1 := 0) (n1 := 0) (CT_add er204) (vP_T (b := b) (s := s) (h := h)) (vP_T (b := b) (s := (r204, s.2.1, s.2.2)) (h := h)).symm rfl dP_split_69 (kP_43 _) ⟨Nat.le_of_ble_eq_true rfl, Nat.le_of_ble_eq_true rfl⟩ rfl rfl rfl rfl (Nat.le_of_ble_eq_true rfl) (Nat.le_of_ble_eq_true rfl) (Nat.le_of_ble_eq_true rfl) (Nat.le_of_ble_eq_true rfl) (Nat.le_of_ble_eq_true rfl) ?_
        obtain rfl := Option.some.inj hF
        exact xw_return dP_split_72 rfl (Nat.le_of_ble_eq_true rfl) (Nat.le_of_ble_eq_true rfl) ⟨rfl, rfl⟩
      · replace hF := xg_t c203 hF
        refine xw_sipush (256) dP_split_56 (by decide) ?_
        refine xw_goto 65 dP_split_59 (by decide) ?_
        refine xw_aload_n dP_split_65 rfl ?_
        refine xw_get dP_split_66 fP_23 rfl rfl ?_
        obtain ⟨r205, er205, hF⟩ := xg_b hF
        refine xg_V0 (k1 := 0) (n1 := 0) (CT_add er205) (vP_T (b := b) (s := s) (h := h)) (vP_T (b := b) (s := (r205, s.2.1, s.2.2)) (h := h)).symm rfl dP_split_69 (kP_43 _) ⟨Nat.le_of_ble_eq_true rfl, Nat.le_of_ble_eq_true rfl⟩ rfl rfl rfl rfl (Nat.le_of_ble_eq_true rfl) (Nat.le_of_ble_eq_true rfl) (Nat.le_of_ble_eq_true rfl) (Nat.le_of_ble_eq_true rfl) (Nat.le_of_ble_eq_true rfl) ?_
        obtain rfl := Option.some.inj hF
        exact xw_return dP_split_72 rfl (Nat.le_of_ble_eq_true rfl) (Nat.le_of_ble_eq_true rfl) ⟨rfl, rfl⟩
    · replace hF := xg_f c202 hF
      refine xw_iload_n dP_split_25 rfl ?_
      refine xw_if_eqB 48 dP_split_26 (by decide) (fun c206 => ?_) (fun c206 => ?_)
      · replace hF := xg_f c206 hF
        refine xw_aload_n dP_split_48 rfl ?_
        refine xw_get dP_split_49 fP_15 rfl rfl ?_
        refine xw_iload_n dP_split_52 rfl ?_
        refine xw_if_eqB 62 dP_split_53 (by decide) (fun c207 => ?_) (fun c207 => ?_)
        · replace hF := xg_f c207 hF
          refine xw_sipush (257) dP_split_62 (by decide) ?_
          refine xw_aload_n dP_split_65 rfl ?_
          refine xw_get dP_split_66 fP_23 rfl rfl ?_
          obtain ⟨r208, er208, hF⟩ := xg_b hF
          refine xg_V0 (k1 := 0) (n1 := 0) (CT_add er208) (vP_T (b := b) (s := s) (h := h)) (vP_T (b := b) (s := (r208, s.2.1, s.2.2)) (h := h)).symm rfl dP_split_69 (kP_43 _) ⟨Nat.le_of_ble_eq_true rfl, Nat.le_of_ble_eq_true rfl⟩ rfl rfl rfl rfl (Nat.le_of_ble_eq_true rfl) (Nat.le_of_ble_eq_true rfl) (Nat.le_of_ble_eq_true rfl) (Nat.le_of_ble_eq_true rfl) (Nat.le_of_ble_eq_true rfl) ?_
          obtain rfl := Option.some.inj hF
          exact xw_return dP_split_72 rfl (Nat.le_of_ble_eq_true rfl) (Nat.le_of_ble_eq_true rfl) ⟨rfl, rfl⟩
        · replace hF := xg_t c207 hF
          refine xw_sipush (256) dP_split_56 (by decide) ?_
          refine xw_goto 65 dP_split_59 (by decide) ?_
          refine xw_aload_n dP_split_65 rfl ?_
          refine xw_get dP_split_66 fP_23 rfl rfl ?_
          obtain ⟨r209, er209, hF⟩ := xg_b hF
          refine xg_V0 (k1 := 0) (n1 := 0) (CT_add er209) (vP_T (b := b) (s := s) (h := h)) (vP_T (b := b) (s := (r209, s.2.1, s.2.2)) (h := h)).symm rfl dP_split_69 (kP_43 _) ⟨Nat.le_of_ble_eq_true rfl, Nat.le_of_ble_eq_true rfl⟩ rfl rfl rfl rfl (Nat.le_of_ble_eq_true rfl) (Nat.le_of_ble_eq_true rfl) (Nat.le_of_ble_eq_true rfl) (Nat.le_of_ble_eq_true rfl) (Nat.le_of_ble_eq_true rfl) ?_
          obtain rfl := Option.some.inj hF
          exact xw_return dP_split_72 rfl (Nat.le_of_ble_eq_true rfl) (Nat.le_of_ble_eq_true rfl) ⟨rfl, rfl⟩
      · replace hF := xg_t c206 hF
        refine xw_aload_n dP_split_29 rfl ?_
        obtain ⟨r210, er210, hF⟩ := xg_b hF
        refine xg_V1 (k1 := 0) (n1 := 0) (CP_next er210) rfl rfl rfl dP_split_30 (kP_35 _) ⟨Nat.le_of_ble_eq_true rfl, Nat.le_of_ble_eq_true rfl⟩ rfl rfl rfl rfl (Nat.le_of_ble_eq_true rfl) (Nat.le_of_ble_eq_true rfl) (Nat.le_of_ble_eq_true rfl) (Nat.le_of_ble_eq_true rfl) (Nat.le_of_ble_eq_true rfl) ?_
        refine xw_iconst (-1) dP_split_33 (by decide) ?_
        refine xw_icmp_eq 48 dP_split_34 (by decide) (fun c211 => ?_) (fun c211 => ?_)
        · replace hF := xg_t c211 hF
          refine xw_aload_n dP_split_48 rfl ?_
          refine xw_get dP_split_49 fP_15 rfl rfl ?_
          refine xw_iload_n dP_split_52 rfl ?_
          refine xw_if_eqB 62 dP_split_53 (by decide) (fun c212 => ?_) (fun c212 => ?_)
          · replace hF := xg_f c212 hF
            refine xw_sipush (257) dP_split_62 (by decide) ?_
            refine xw_aload_n dP_split_65 rfl ?_
            refine xw_get dP_split_66 fP_23 rfl rfl ?_
            obtain ⟨r213, er213, hF⟩ := xg_b hF
            refine xg_V0 (k1 := 0) (n1 := 0) (CT_add er213) (vP_T (b := b) (s := r210.2) (h := h)) (vP_T (b := b) (s := (r213, r210.2.2.1, r210.2.2.2)) (h := h)).symm rfl dP_split_69 (kP_43 _) ⟨Nat.le_of_ble_eq_true rfl, Nat.le_of_ble_eq_true rfl⟩ rfl rfl rfl rfl (Nat.le_of_ble_eq_true rfl) (Nat.le_of_ble_eq_true rfl) (Nat.le_of_ble_eq_true rfl) (Nat.le_of_ble_eq_true rfl) (Nat.le_of_ble_eq_true rfl) ?_
            obtain rfl := Option.some.inj hF
            exact xw_return dP_split_72 rfl (Nat.le_of_ble_eq_true rfl) (Nat.le_of_ble_eq_true rfl) ⟨rfl, rfl⟩
          · replace hF := xg_t c212 hF
            refine xw_sipush (256) dP_split_56 (by decide) ?_
            refine xw_goto 65 dP_split_59 (by decide) ?_
            refine xw_aload_n dP_split_65 rfl ?_
            refine xw_get dP_split_66 fP_23 rfl rfl ?_
            obtain ⟨r214, er214, hF⟩ := xg_b hF
            refine xg_V0 (k1 := 0) (n1 := 0) (CT_add er214) (vP_T (b := b) (s := r210.2) (h := h)) (vP_T (b := b) (s := (r214, r210.2.2.1, r210.2.2.2)) (h := h)).symm rfl dP_split_69 (kP_43 _) ⟨Nat.le_of_ble_eq_true rfl, Nat.le_of_ble_eq_true rfl⟩ rfl rfl rfl rfl (Nat.le_of_ble_eq_true rfl) (Nat.le_of_ble_eq_true rfl) (Nat.le_of_ble_eq_true rfl) (Nat.le_of_ble_eq_true rfl) (Nat.le_of_ble_eq_true rfl) ?_
            obtain rfl := Option.some.inj hF
            exact xw_return dP_split_72 rfl (Nat.le_of_ble_eq_true rfl) (Nat.le_of_ble_eq_true rfl) ⟨rfl, rfl⟩
        · replace hF := xg_f c211 hF
          refine xw_aload_n dP_split_37 rfl ?_
          obtain ⟨r215, er215, hF⟩ := xg_b hF
          refine xg_V1 (k1 := 0) (n1 := 0) (CP_takesThing er215) rfl rfl rfl dP_split_38 (kP_39 _) ⟨Nat.le_of_ble_eq_true rfl, Nat.le_of_ble_eq_true rfl⟩ rfl rfl rfl rfl (Nat.le_of_ble_eq_true rfl) (Nat.le_of_ble_eq_true rfl) (Nat.le_of_ble_eq_true rfl) (Nat.le_of_ble_eq_true rfl) (Nat.le_of_ble_eq_true rfl) ?_
          refine xw_istore_n dP_split_41 (Nat.le_of_ble_eq_true rfl) ?_
          refine xw_Ln (L' := [some (.ref 1012), some (.int (xb r215.1)), some (.int l2)]) rfl ?_
          refine xw_iinc ((l2 + 1)) dP_split_42 rfl rfl (Nat.le_of_ble_eq_true rfl) ?_
          refine xw_Ln (L' := [some (.ref 1012), some (.int (xb r215.1)), some (.int (l2 + 1))]) rfl ?_
          refine xw_goto 18 dP_split_45 (by decide) ?_
          exact ih hF
set_option maxRecDepth 20000 in
theorem CP_split {w : xw_G} {h : xw_H}  {b : xBs}  {s : xPs} {out : xPs} (hF : FP_split b  s = some out) : xw_C w (mP_split { frames := 9, cells := 0, slots := 0, locals := 202 }) (xw_R none (vP b out h)) [.ref 1012] (vP b s h) := by
  unfold FP_split at hF
  refine xw_enter rfl (show plainName "FormulaShaper$Splitter" = true by decide +kernel) (Nat.le_of_ble_eq_true rfl) ?_
  refine xw_aload_n dP_split_0 rfl ?_
  refine xw_get dP_split_1 fP_15 rfl rfl ?_
  obtain ⟨r200, er200, hF⟩ := xg_b hF
  refine xg_V0 (k1 := 0) (n1 := 0) (CT_clear er200) (vP_T (b := b) (s := s) (h := h)) (vP_T (b := b) (s := (r200, s.2.1, s.2.2)) (h := h)).symm rfl dP_split_4 (kP_27 _) ⟨Nat.le_of_ble_eq_true rfl, Nat.le_of_ble_eq_true rfl⟩ rfl rfl rfl rfl (Nat.le_of_ble_eq_true rfl) (Nat.le_of_ble_eq_true rfl) (Nat.le_of_ble_eq_true rfl) (Nat.le_of_ble_eq_true rfl) (Nat.le_of_ble_eq_true rfl) ?_
  refine xw_aload_n dP_split_7 rfl ?_
  refine xw_get dP_split_8 fP_19 rfl rfl ?_
  obtain ⟨r201, er201, hF⟩ := xg_b hF
  refine xg_V0 (k1 := 0) (n1 := 0) (CF_clear (a := 1010) (by decide) er201) (vP_F (b := b) (s := (r200, s.2.1, s.2.2)) (h := h)) (vP_F (b := b) (s := (r200, r201, s.2.2)) (h := h)).symm rfl dP_split_11 (kP_32 _) ⟨Nat.le_of_ble_eq_true rfl, Nat.le_of_ble_eq_true rfl⟩ rfl rfl rfl rfl (Nat.le_of_ble_eq_true rfl) (Nat.le_of_ble_eq_true rfl) (Nat.le_of_ble_eq_true rfl) (Nat.le_of_ble_eq_true rfl) (Nat.le_of_ble_eq_true rfl) ?_
  refine xw_iconst (1) dP_split_14 (by decide) ?_
  refine xw_istore_n dP_split_15 (Nat.le_of_ble_eq_true rfl) ?_
  refine xw_Ln (L' := [some (.ref 1012), some (.int 1), none]) rfl ?_
  refine xw_iconst (0) dP_split_16 (by decide) ?_
  refine xw_istore_n dP_split_17 (Nat.le_of_ble_eq_true rfl) ?_
  refine xw_Ln (L' := [some (.ref 1012), some (.int 1), some (.int 0)]) rfl ?_
  exact CP_split_18 xFuel hF
