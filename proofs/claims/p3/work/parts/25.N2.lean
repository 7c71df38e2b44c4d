/-- FormulaShaper$Bytes.size -/
def FB_size   (s : xBs) : Option Int32 := some s.2
set_option maxRecDepth 20000 in
theorem CB_size {w : xw_G} {h : xw_H} {a : Nat} (ha : 1000 ≤ a)   {s : xBs} {out : Int32} (hF : FB_size   s = some out) : xw_C w (mB_size { frames := 0, cells := 0, slots := 0, locals := 0 }) (xw_R (some (.int out)) (vB a s h)) [.ref a] (vB a s h) := by
  unfold FB_size at hF
  refine xw_enter rfl (show plainName "FormulaShaper$Bytes" = true by decide +kernel) (Nat.le_of_ble_eq_true rfl) ?_
  refine xw_aload_n dB_size_0 rfl ?_
  refine xw_get dB_size_1 fB_15 vB_o rfl ?_
  obtain rfl := Option.some.inj hF
  exact xw_ireturn dB_size_4 rfl rfl (Nat.le_of_ble_eq_true rfl) (Nat.le_of_ble_eq_true rfl) ⟨rfl, rfl⟩
/-- FormulaShaper$Bytes.at -/
def FB_at  (x0 : Int32) (s : xBs) : Option Int32 := if x0 < 0 then (some (-1)) else (if s.2 ≤ x0 then (some (-1)) else (if 0 ≤ x0 ∧ x0 < nI 2000 then (some ((s.1 (x0).toNatClampNeg) &&& 255)) else none))
set_option maxRecDepth 20000 in
theorem CB_at {w : xw_G} {h : xw_H} {a : Nat} (ha : 1000 ≤ a)  {x0 : Int32} {s : xBs} {out : Int32} (hF : FB_at  x0 s = some out) : xw_C w (mB_at { frames := 0, cells := 0, slots := 0, locals := 0 }) (xw_R (some (.int out)) (vB a s h)) [.ref a, .int x0] (vB a s h) := by
  unfold FB_at at hF
  refine xw_enter rfl (show plainName "FormulaShaper$Bytes" = true by decide +kernel) (Nat.le_of_ble_eq_true rfl) ?_
  refine xw_iload_n dB_at_0 rfl ?_
  refine xw_if_lt 25 dB_at_1 (by decide) (fun c1 => ?_) (fun c1 => ?_)
  · replace hF := xg_t c1 hF
    refine xw_iconst (-1) dB_at_25 (by decide) ?_
    obtain rfl := Option.some.inj hF
    exact xw_ireturn dB_at_26 rfl rfl (Nat.le_of_ble_eq_true rfl) (Nat.le_of_ble_eq_true rfl) ⟨rfl, rfl⟩
  · replace hF := xg_f c1 hF
    refine xw_iload_n dB_at_4 rfl ?_
    refine xw_aload_n dB_at_5 rfl ?_
    refine xw_get dB_at_6 fB_15 vB_o rfl ?_
    refine xw_icmp_ge 25 dB_at_9 (by decide) (fun c2 => ?_) (fun c2 => ?_)
    · replace hF := xg_t c2 hF
      refine xw_iconst (-1) dB_at_25 (by decide) ?_
      obtain rfl := Option.some.inj hF
      exact xw_ireturn dB_at_26 rfl rfl (Nat.le_of_ble_eq_true rfl) (Nat.le_of_ble_eq_true rfl) ⟨rfl, rfl⟩
    · replace hF := xg_f c2 hF
      refine xw_aload_n dB_at_12 rfl ?_
      refine xw_get dB_at_13 fB_9 vB_o rfl ?_
      refine xw_iload_n dB_at_16 rfl ?_
      obtain ⟨g3, hF⟩ := xg_g hF
      refine xg_baload g3 dB_at_17 vB_a (by decide) ?_
      refine xw_sipush (255) dB_at_18 (by decide) ?_
      refine xw_iand dB_at_21 ?_
      refine xw_goto 26 dB_at_22 (by decide) ?_
      obtain rfl := Option.some.inj hF
      exact xw_ireturn dB_at_26 rfl rfl (Nat.le_of_ble_eq_true rfl) (Nat.le_of_ble_eq_true rfl) ⟨rfl, rfl⟩
/-- FormulaShaper$Bytes.add -/
def FB_add  (x0 : Int32) (s : xBs) : Option xBs := if (nI 2000) ≤ s.2 then (some s) else (if 0 ≤ s.2 ∧ s.2 < nI 2000 then (some ((upd s.1 (s.2).toNatClampNeg (vp_nar .byte (x0).toInt8.toInt32)), (s.2 + 1))) else none)
set_option maxRecDepth 20000 in
theorem CB_add {w : xw_G} {h : xw_H} {a : Nat} (ha : 1000 ≤ a)  {x0 : Int32} {s : xBs} {out : xBs} (hF : FB_add  x0 s = some out) : xw_C w (mB_add { frames := 0, cells := 0, slots := 0, locals := 0 }) (xw_R none (vB a out h)) [.ref a, .int x0] (vB a s h) := by
  unfold FB_add at hF
  refine xw_enter rfl (show plainName "FormulaShaper$Bytes" = true by decide +kernel) (Nat.le_of_ble_eq_true rfl) ?_
  refine xw_aload_n dB_add_0 rfl ?_
  refine xw_get dB_add_1 fB_15 vB_o rfl ?_
  refine xw_aload_n dB_add_4 rfl ?_
  refine xw_get dB_add_5 fB_9 vB_o rfl ?_
  refine xw_alen (ty := fun _ => (0, .byte)) (nI 2000) dB_add_8 vB_a (fun _ => rfl) rfl ?_
  refine xw_icmp_ge 33 dB_add_9 (by decide) (fun c4 => ?_) (fun c4 => ?_)
  · replace hF := xg_t c4 hF
    obtain rfl := Option.some.inj hF
    exact xw_return dB_add_33 rfl (Nat.le_of_ble_eq_true rfl) (Nat.le_of_ble_eq_true rfl) ⟨rfl, rfl⟩
  · replace hF := xg_f c4 hF
    refine xw_aload_n dB_add_12 rfl ?_
    refine xw_get dB_add_13 fB_9 vB_o rfl ?_
    refine xw_aload_n dB_add_16 rfl ?_
    refine xw_get dB_add_17 fB_15 vB_o rfl ?_
    refine xw_iload_n dB_add_20 rfl ?_
    refine xw_i2b dB_add_21 ?_
    obtain ⟨g5, hF⟩ := xg_g hF
    refine xg_bastore g5 dB_add_22 vB_a (by omega) (by decide) vB_f ?_
    refine xw_aload_n dB_add_23 rfl ?_
    refine xw_dup_r dB_add_24 ?_
    refine xw_get dB_add_25 fB_15 vB_o rfl ?_
    refine xw_iconst (1) dB_add_28 (by decide) ?_
    refine xw_iadd dB_add_29 ?_
    refine xg_put dB_add_30 fB_15 vB_o ha (Nat.le_of_ble_eq_true rfl) (fun _ => rfl) (fun _ => rfl) vB_n ?_
    obtain rfl := Option.some.inj hF
    exact xw_return dB_add_33 rfl (Nat.le_of_ble_eq_true rfl) (Nat.le_of_ble_eq_true rfl) ⟨rfl, rfl⟩
/-- FormulaShaper$Bytes.addInt -/
def FB_addInt  (x0 : Int32) (s : xBs) : Option xBs := (FB_add ((x0).toUInt32 >>> ((24).toUInt32 &&& Int32.toUInt32 31)).toInt32 s).bind fun r6 => (FB_add ((x0).toUInt32 >>> ((16).toUInt32 &&& Int32.toUInt32 31)).toInt32 r6).bind fun r7 => (FB_add ((x0).toUInt32 >>> ((8).toUInt32 &&& Int32.toUInt32 31)).toInt32 r7).bind fun r8 => (FB_add x0 r8).bind fun r9 => some r9
set_option maxRecDepth 20000 in
theorem CB_addInt {w : xw_G} {h : xw_H} {a : Nat} (ha : 1000 ≤ a)  {x0 : Int32} {s : xBs} {out : xBs} (hF : FB_addInt  x0 s = some out) : xw_C w (mB_addInt { frames := 1, cells := 0, slots := 0, locals := 21 }) (xw_R none (vB a out h)) [.ref a, .int x0] (vB a s h) := by
  unfold FB_addInt at hF
  refine xw_enter rfl (show plainName "FormulaShaper$Bytes" = true by decide +kernel) (Nat.le_of_ble_eq_true rfl) ?_
  refine xw_aload_n dB_addInt_0 rfl ?_
  refine xw_iload_n dB_addInt_1 rfl ?_
  refine xw_bipush (24) dB_addInt_2 (by decide) ?_
  refine xw_iushr dB_addInt_4 ?_
  obtain ⟨r6, er6, hF⟩ := xg_b hF
  refine xg_V0 (k1 := 0) (n1 := 0) (CB_add ha er6) rfl rfl rfl dB_addInt_5 (kB_19 _) ⟨Nat.le_of_ble_eq_true rfl, Nat.le_of_ble_eq_true rfl⟩ rfl rfl vB_o rfl (Nat.le_of_ble_eq_true rfl) (Nat.le_of_ble_eq_true rfl) (Nat.le_of_ble_eq_true rfl) (Nat.le_of_ble_eq_true rfl) (Nat.le_of_ble_eq_true rfl) ?_
  refine xw_aload_n dB_addInt_8 rfl ?_
  refine xw_iload_n dB_addInt_9 rfl ?_
  refine xw_bipush (16) dB_addInt_10 (by decide) ?_
  refine xw_iushr dB_addInt_12 ?_
  obtain ⟨r7, er7, hF⟩ := xg_b hF
  refine xg_V0 (k1 := 0) (n1 := 0) (CB_add ha er7) rfl rfl rfl dB_addInt_13 (kB_19 _) ⟨Nat.le_of_ble_eq_true rfl, Nat.le_of_ble_eq_true rfl⟩ rfl rfl vB_o rfl (Nat.le_of_ble_eq_true rfl) (Nat.le_of_ble_eq_true rfl) (Nat.le_of_ble_eq_true rfl) (Nat.le_of_ble_eq_true rfl) (Nat.le_of_ble_eq_true rfl) ?_
  refine xw_aload_n dB_addInt_16 rfl ?_
  refine xw_iload_n dB_addInt_17 rfl ?_
  refine xw_bipush (8) dB_addInt_18 (by decide) ?_
  refine xw_iushr dB_addInt_20 ?_
  obtain ⟨r8, er8, hF⟩ := xg_b hF
  refine xg_V0 (k1 := 0) (n1 := 0) (CB_add ha er8) rfl rfl rfl dB_addInt_21 (kB_19 _) ⟨Nat.le_of_ble_eq_true rfl, Nat.le_of_ble_eq_true rfl⟩ rfl rfl vB_o rfl (Nat.le_of_ble_eq_true rfl) (Nat.le_of_ble_eq_true rfl) (Nat.le_of_ble_eq_true rfl) (Nat.le_of_ble_eq_true rfl) (Nat.le_of_ble_eq_true rfl) ?_
  refine xw_aload_n dB_addInt_24 rfl ?_
  refine xw_iload_n dB_addInt_25 rfl ?_
  obtain ⟨r9, er9, hF⟩ := xg_b hF
  refine xg_V0 (k1 := 0) (n1 := 0) (CB_add ha er9) rfl rfl rfl dB_addInt_26 (kB_19 _) ⟨Nat.le_of_ble_eq_true rfl, Nat.le_of_ble_eq_true rfl⟩ rfl rfl vB_o rfl (Nat.le_of_ble_eq_true rfl) (Nat.le_of_ble_eq_true rfl) (Nat.le_of_ble_eq_true rfl) (Nat.le_of_ble_eq_true rfl) (Nat.le_of_ble_eq_true rfl) ?_
  obtain rfl := Option.some.inj hF
  exact xw_return dB_addInt_29 rfl (Nat.le_of_ble_eq_true rfl) (Nat.le_of_ble_eq_true rfl) ⟨rfl, rfl⟩
/-- FormulaShaper$Bytes.cut -/
def FB_cut  (x0 : Int32) (s : xBs) : Option xBs := some (s.1, x0)
set_option maxRecDepth 20000 in
theorem CB_cut {w : xw_G} {h : xw_H} {a : Nat} (ha : 1000 ≤ a)  {x0 : Int32} {s : xBs} {out : xBs} (hF : FB_cut  x0 s = some out) : xw_C w (mB_cut { frames := 0, cells := 0, slots := 0, locals := 0 }) (xw_R none (vB a out h)) [.ref a, .int x0] (vB a s h) := by
  unfold FB_cut at hF
  refine xw_enter rfl (show plainName "FormulaShaper$Bytes" = true by decide +kernel) (Nat.le_of_ble_eq_true rfl) ?_
  refine xw_aload_n dB_cut_0 rfl ?_
  refine xw_iload_n dB_cut_1 rfl ?_
  refine xg_put dB_cut_2 fB_15 vB_o ha (Nat.le_of_ble_eq_true rfl) (fun _ => rfl) (fun _ => rfl) vB_n ?_
  obtain rfl := Option.some.inj hF
  exact xw_return dB_cut_5 rfl (Nat.le_of_ble_eq_true rfl) (Nat.le_of_ble_eq_true rfl) ⟨rfl, rfl⟩
def FB_spells_3  : Nat → Nat → Int32 → Int32 → Int32 → Int32 → xBs → Option Bool
  | 0, _, _, _, _, _, _ => none
  | fu + 1, l1, l2, l3, l4, l5, s => if l3 ≤ l5 then (some true) else ((FB_at ((l4 + l5) - l2) s).bind fun r11 => if l1 < xk_N ∧ 0 ≤ l5 ∧ l5 < nI (xk_by l1).length then (if r11 = ((xk_by l1).getD (l5).toNatClampNeg 0) then (FB_spells_3  fu l1 l2 l3 l4 (l5 + 1) s) else (some false)) else none)
/-- FormulaShaper$Bytes.spells -/
def FB_spells  (x0 : Nat) (x1 : Int32) (x2 : Int32) (x3 : Int32) (s : xBs) : Option Bool := FB_spells_3  xFuel x0 x1 x2 x3 x1 s
set_option maxRecDepth 20000 in
theorem CB_spells_3 {w : xw_G} {h : xw_H} {a : Nat} (ha : 1000 ≤ a)  : ∀ (fu : Nat) {l1 : Nat} {l2 : Int32} {l3 : Int32} {l4 : Int32} {l5 : Int32} {s : xBs} {out : Bool} {h0 : xw_H}, FB_spells_3  fu l1 l2 l3 l4 l5 s = some out → xw_X w (mB_spells { frames := 4, cells := 0, slots := 0, locals := 85 }) (xw_R (some (.int (xb out))) (vB a s h)) h0 0 0 3 [some (.ref a), some (.ref l1), some (.int l2), some (.int l3), some (.int l4), some (.int l5)] [] (vB a s h) := by
  intro fu
  induction fu with
  | zero =>
    intro l1 l2 l3 l4 l5 s out h0 hF
    rw [FB_spells_3] at hF
    cases hF
  | succ fu ih =>
    intro l1 l2 l3 l4 l5 s out h0 hF
    rw [FB_spells_3] at hF
    refine xw_iload dB_spells_3 rfl ?_
    refine xw_iload_n dB_spells_5 rfl ?_
    refine xw_icmp_ge 37 dB_spells_6 (by decide) (fun c10 => ?_) (fun c10 => ?_)
    · replace hF := xg_t c10 hF
      refine xw_iconst (1) dB_spells_37 (by decide) ?_
      obtain rfl := Option.some.inj hF
      exact xw_ireturn dB_spells_38 rfl (xb_nar true) (Nat.le_of_ble_eq_true rfl) (Nat.le_of_ble_eq_true rfl) ⟨rfl, rfl⟩
    · replace hF := xg_f c10 hF
      refine xw_aload_n dB_spells_9 rfl ?_
      refine xw_iload dB_spells_10 rfl ?_
      refine xw_iload dB_spells_12 rfl ?_
      refine xw_iadd dB_spells_14 ?_
      refine xw_iload_n dB_spells_15 rfl ?_
      refine xw_isub dB_spells_16 ?_
      obtain ⟨r11, er11, hF⟩ := xg_b hF
      refine xg_V1 (k1 := 0) (n1 := 0) (CB_at ha er11) rfl rfl rfl dB_spells_17 (kB_37 _) ⟨Nat.le_of_ble_eq_true rfl, Nat.le_of_ble_eq_true rfl⟩ rfl rfl vB_o rfl (Nat.le_of_ble_eq_true rfl) (Nat.le_of_ble_eq_true rfl) (Nat.le_of_ble_eq_true rfl) (Nat.le_of_ble_eq_true rfl) (Nat.le_of_ble_eq_true rfl) ?_
      refine xw_aload_n dB_spells_20 rfl ?_
      refine xw_iload dB_spells_21 rfl ?_
      obtain ⟨g12, hF⟩ := xg_g hF
      refine xg_K1 (k1 := 0) (n1 := 0) (CQ_charAt (w := w) g12.1 g12.2) rfl rfl rfl dB_spells_23 (kB_29 _) ⟨Nat.le_of_ble_eq_true rfl, Nat.le_of_ble_eq_true rfl⟩ rfl rfl (xk_mO g12.1) (xk_lt9 g12.1) (Nat.le_of_ble_eq_true rfl) (Nat.le_of_ble_eq_true rfl) (Nat.le_of_ble_eq_true rfl) (Nat.le_of_ble_eq_true rfl) (Nat.le_of_ble_eq_true rfl) ?_
      refine xw_icmp_eq 31 dB_spells_26 (by decide) (fun c13 => ?_) (fun c13 => ?_)
      · replace hF := xg_t c13 hF
        refine xw_iinc ((l5 + 1)) dB_spells_31 rfl rfl (Nat.le_of_ble_eq_true rfl) ?_
        refine xw_Ln (L' := [some (.ref a), some (.ref l1), some (.int l2), some (.int l3), some (.int l4), some (.int (l5 + 1))]) rfl ?_
        refine xw_goto 3 dB_spells_34 (by decide) ?_
        exact ih hF
      · replace hF := xg_f c13 hF
        refine xw_iconst (0) dB_spells_29 (by decide) ?_
        obtain rfl := Option.some.inj hF
        exact xw_ireturn dB_spells_30 rfl (xb_nar false) (Nat.le_of_ble_eq_true rfl) (Nat.le_of_ble_eq_true rfl) ⟨rfl, rfl⟩
set_option maxRecDepth 20000 in
theorem CB_spells {w : xw_G} {h : xw_H} {a : Nat} (ha : 1000 ≤ a)  {x0 : Nat} {x1 : Int32} {x2 : Int32} {x3 : Int32} {s : xBs} {out : Bool} (hF : FB_spells  x0 x1 x2 x3 s = some out) : xw_C w (mB_spells { frames := 4, cells := 0, slots := 0, locals := 85 }) (xw_R (some (.int (xb out))) (vB a s h)) [.ref a, .ref x0, .int x1, .int x2, .int x3] (vB a s h) := by
  unfold FB_spells at hF
  refine xw_enter rfl (show plainName "FormulaShaper$Bytes" = true by decide +kernel) (Nat.le_of_ble_eq_true rfl) ?_
  refine xw_iload_n dB_spells_0 rfl ?_
  refine xw_istore dB_spells_1 (Nat.le_of_ble_eq_true rfl) ?_
  refine xw_Ln (L' := [some (.ref a), some (.ref x0), some (.int x1), some (.int x2), some (.int x3), some (.int x1)]) rfl ?_
  exact CB_spells_3 ha xFuel hF
def FB_hasOneOf_6  : Nat → Nat → Int32 → Int32 → Int32 → Int32 → xBs → Option Bool
  | 0, _, _, _, _, _, _ => none
  | fu + 1, l1, l2, l3, l4, l5, s => if l1 < xk_N then (if (nI (xk_by l1).length) < l5 then (some false) else (if l1 < xk_N then (if l5 = (nI (xk_by l1).length) then (if (l5 - l4) = l3 then ((FB_spells l1 l4 l5 l2 s).bind fun r19 => if r19 = true then (some true) else (FB_hasOneOf_6  fu l1 l2 l3 (l5 + 1) (l5 + 1) s)) else (FB_hasOneOf_6  fu l1 l2 l3 (l5 + 1) (l5 + 1) s)) else (if l1 < xk_N ∧ 0 ≤ l5 ∧ l5 < nI (xk_by l1).length then (if ((xk_by l1).getD (l5).toNatClampNeg 0) = 32 then (if (l5 - l4) = l3 then ((FB_spells l1 l4 l5 l2 s).bind fun r24 => if r24 = true then (some true) else (FB_hasOneOf_6  fu l1 l2 l3 (l5 + 1) (l5 + 1) s)) else (FB_hasOneOf_6  fu l1 l2 l3 (l5 + 1) (l5 + 1) s)) else (FB_hasOneOf_6  fu l1 l2 l3 l4 (l5 + 1) s)) else none)) else none)) else none
/-- FormulaShaper$Bytes.hasOneOf -/
def FB_hasOneOf  (x0 : Nat) (x1 : Int32) (x2 : Int32) (s : xBs) : Option Bool := FB_hasOneOf_6  xFuel x0 x1 x2 0 0 s
set_option maxRecDepth 20000 in
theorem CB_hasOneOf_6 {w : xw_G} {h : xw_H} {a : Nat} (ha : 1000 ≤ a)  : ∀ (fu : Nat) {l1 : Nat} {l2 : Int32} {l3 : Int32} {l4 : Int32} {l5 : Int32} {s : xBs} {out : Bool} {h0 : xw_H}, FB_hasOneOf_6  fu l1 l2 l3 l4 l5 s = some out → xw_X w (mB_hasOneOf { frames := 5, cells := 0, slots := 0, locals := 110 }) (xw_R (some (.int (xb out))) (vB a s h)) h0 0 0 6 [some (.ref a), some (.ref l1), some (.int l2), some (.int l3), some (.int l4), some (.int l5)] [] (vB a s h) := by
  intro fu
  induction fu with
  | zero =>
    intro l1 l2 l3 l4 l5 s out h0 hF
    rw [FB_hasOneOf_6] at hF
    cases hF
  | succ fu ih =>
    intro l1 l2 l3 l4 l5 s out h0 hF
    rw [FB_hasOneOf_6] at hF
    refine xw_iload dB_hasOneOf_6 rfl ?_
    refine xw_aload_n dB_hasOneOf_8 rfl ?_
    obtain ⟨g14, hF⟩ := xg_g hF
    refine xg_K1 (k1 := 0) (n1 := 0) (cQ_length w g14) rfl rfl rfl dB_hasOneOf_9 (kB_23 _) ⟨Nat.le_of_ble_eq_true rfl, Nat.le_of_ble_eq_true rfl⟩ rfl rfl (xk_mO g14) (xk_lt9 g14) (Nat.le_of_ble_eq_true rfl) (Nat.le_of_ble_eq_true rfl) (Nat.le_of_ble_eq_true rfl) (Nat.le_of_ble_eq_true rfl) (Nat.le_of_ble_eq_true rfl) ?_
    refine xw_icmp_gt 71 dB_hasOneOf_12 (by decide) (fun c15 => ?_) (fun c15 => ?_)
    · replace hF := xg_t c15 hF
      refine xw_iconst (0) dB_hasOneOf_71 (by decide) ?_
      obtain rfl := Option.some.inj hF
      exact xw_ireturn dB_hasOneOf_72 rfl (xb_nar false) (Nat.le_of_ble_eq_true rfl) (Nat.le_of_ble_eq_true rfl) ⟨rfl, rfl⟩
    · replace hF := xg_f c15 hF
      refine xw_iload dB_hasOneOf_15 rfl ?_
      refine xw_aload_n dB_hasOneOf_17 rfl ?_
      obtain ⟨g16, hF⟩ := xg_g hF
      refine xg_K1 (k1 := 0) (n1 := 0) (cQ_length w g16) rfl rfl rfl dB_hasOneOf_18 (kB_23 _) ⟨Nat.le_of_ble_eq_true rfl, Nat.le_of_ble_eq_true rfl⟩ rfl rfl (xk_mO g16) (xk_lt9 g16) (Nat.le_of_ble_eq_true rfl) (Nat.le_of_ble_eq_true rfl) (Nat.le_of_ble_eq_true rfl) (Nat.le_of_ble_eq_true rfl) (Nat.le_of_ble_eq_true rfl) ?_
      refine xw_icmp_eq 35 dB_hasOneOf_21 (by decide) (fun c17 => ?_) (fun c17 => ?_)
      · replace hF := xg_t c17 hF
        refine xw_iload dB_hasOneOf_35 rfl ?_
        refine xw_iload dB_hasOneOf_37 rfl ?_
        refine xw_isub dB_hasOneOf_39 ?_
        refine xw_iload_n dB_hasOneOf_40 rfl ?_
        refine xw_icmp_ne 59 dB_hasOneOf_41 (by decide) (fun c18 => ?_) (fun c18 => ?_)
        · replace hF := xg_f c18 hF
          refine xw_iload dB_hasOneOf_59 rfl ?_
          refine xw_iconst (1) dB_hasOneOf_61 (by decide) ?_
          refine xw_iadd dB_hasOneOf_62 ?_
          refine xw_istore dB_hasOneOf_63 (Nat.le_of_ble_eq_true rfl) ?_
          refine xw_Ln (L' := [some (.ref a), some (.ref l1), some (.int l2), some (.int l3), some (.int (l5 + 1)), some (.int l5)]) rfl ?_
          refine xw_iinc ((l5 + 1)) dB_hasOneOf_65 rfl rfl (Nat.le_of_ble_eq_true rfl) ?_
          refine xw_Ln (L' := [some (.ref a), some (.ref l1), some (.int l2), some (.int l3), some (.int (l5 + 1)), some (.int (l5 + 1))]) rfl ?_
          refine xw_goto 6 dB_hasOneOf_68 (by decide) ?_
          exact ih hF
        · replace hF := xg_t c18 hF
          refine xw_aload_n dB_hasOneOf_44 rfl ?_
          refine xw_aload_n dB_hasOneOf_45 rfl ?_
          refine xw_iload dB_hasOneOf_46 rfl ?_
          refine xw_iload dB_hasOneOf_48 rfl ?_
          refine xw_iload_n dB_hasOneOf_50 rfl ?_
          obtain ⟨r19, er19, hF⟩ := xg_b hF
          refine xg_V1 (k1 := 0) (n1 := 0) (CB_spells ha er19) rfl rfl rfl dB_hasOneOf_51 (kB_33 _) ⟨Nat.le_of_ble_eq_true rfl, Nat.le_of_ble_eq_true rfl⟩ rfl rfl vB_o rfl (Nat.le_of_ble_eq_true rfl) (Nat.le_of_ble_eq_true rfl) (Nat.le_of_ble_eq_true rfl) (Nat.le_of_ble_eq_true rfl) (Nat.le_of_ble_eq_true rfl) ?_
          refine xw_if_eqB 59 dB_hasOneOf_54 (by decide) (fun c20 => ?_) (fun c20 => ?_)
          · replace hF := xg_f c20 hF
            refine xw_iload dB_hasOneOf_59 rfl ?_
            refine xw_iconst (1) dB_hasOneOf_61 (by decide) ?_
            refine xw_iadd dB_hasOneOf_62 ?_
            refine xw_istore dB_hasOneOf_63 (Nat.le_of_ble_eq_true rfl) ?_
            refine xw_Ln (L' := [some (.ref a), some (.ref l1), some (.int l2), some (.int l3), some (.int (l5 + 1)), some (.int l5)]) rfl ?_
            refine xw_iinc ((l5 + 1)) dB_hasOneOf_65 rfl rfl (Nat.le_of_ble_eq_true rfl) ?_
            refine xw_Ln (L' := [some (.ref a), some (.ref l1), some (.int l2), some (.int l3), some (.int (l5 + 1)), some (.int (l5 + 1))]) rfl ?_
            refine xw_goto 6 dB_hasOneOf_68 (by decide) ?_
            exact ih hF
          · replace hF := xg_t c20 hF
            refine xw_iconst (1) dB_hasOneOf_57 (by decide) ?_
            obtain rfl := Option.some.inj hF
            exact xw_ireturn dB_hasOneOf_58 rfl (xb_nar true) (Nat.le_of_ble_eq_true rfl) (Nat.le_of_ble_eq_true rfl) ⟨rfl, rfl⟩
      · replace hF := xg_f c17 hF
        refine xw_aload_n dB_hasOneOf_24 rfl ?_
        refine xw_iload dB_hasOneOf_25 rfl ?_
        obtain ⟨g21, hF⟩ := xg_g hF
        refine xg_K1 (k1 := 0) (n1 := 0) (CQ_charAt (w := w) g21.1 g21.2) rfl rfl rfl dB_hasOneOf_27 (kB_29 _) ⟨Nat.le_of_ble_eq_true rfl, Nat.le_of_ble_eq_true rfl⟩ rfl rfl (xk_mO g21.1) (xk_lt9 g21.1) (Nat.le_of_ble_eq_true rfl) (Nat.le_of_ble_eq_true rfl) (Nat.le_of_ble_eq_true rfl) (Nat.le_of_ble_eq_true rfl) (Nat.le_of_ble_eq_true rfl) ?_
        refine xw_bipush (32) dB_hasOneOf_30 (by decide) ?_
        refine xw_icmp_ne 65 dB_hasOneOf_32 (by decide) (fun c22 => ?_) (fun c22 => ?_)
        · replace hF := xg_f c22 hF
          refine xw_iinc ((l5 + 1)) dB_hasOneOf_65 rfl rfl (Nat.le_of_ble_eq_true rfl) ?_
          refine xw_Ln (L' := [some (.ref a), some (.ref l1), some (.int l2), some (.int l3), some (.int l4), some (.int (l5 + 1))]) rfl ?_
          refine xw_goto 6 dB_hasOneOf_68 (by decide) ?_
          exact ih hF
        · replace hF := xg_t c22 hF
          refine xw_iload dB_hasOneOf_35 rfl ?_
          refine xw_iload dB_hasOneOf_37 rfl ?_
          refine xw_isub dB_hasOneOf_39 ?_
          refine xw_iload_n dB_hasOneOf_40 rfl ?_
          refine xw_icmp_ne 59 dB_hasOneOf_41 (by decide) (fun c23 => ?_) (fun c23 => ?_)
          · replace hF := xg_f c23 hF
            refine xw_iload dB_hasOneOf_59 rfl ?_
            refine xw_iconst (1) dB_hasOneOf_61 (by decide) ?_
            refine xw_iadd dB_hasOneOf_62 ?_
            refine xw_istore dB_hasOneOf_63 (Nat.le_of_ble_eq_true rfl) ?_
            refine xw_Ln (L' := [some (.ref a), some (.ref l1), some (.int l2), some (.int l3), some (.int (l5 + 1)), some (.int l5)]) rfl ?_
            refine xw_iinc ((l5 + 1)) dB_hasOneOf_65 rfl rfl (Nat.le_of_ble_eq_true rfl) ?_
            refine xw_Ln (L' := [some (.ref a), some (.ref l1), some (.int l2), some (.int l3), some (.int (l5 + 1)), some (.int (l5 + 1))]) rfl ?_
            refine xw_goto 6 dB_hasOneOf_68 (by decide) ?_
            exact ih hF
          · replace hF := xg_t c23 hF
            refine xw_aload_n dB_hasOneOf_44 rfl ?_
            refine xw_aload_n dB_hasOneOf_45 rfl ?_
            refine xw_iload dB_hasOneOf_46 rfl ?_
            refine xw_iload dB_hasOneOf_48 rfl ?_
            refine xw_iload_n dB_hasOneOf_50 rfl ?_
            obtain ⟨r24, er24, hF⟩ := xg_b hF
            refine xg_V1 (k1 := 0) (n1 := 0) (CB_spells ha er24) rfl rfl rfl dB_hasOneOf_51 (kB_33 _) ⟨Nat.le_of_ble_eq_true rfl, Nat.le_of_ble_eq_true rfl⟩ rfl rfl vB_o rfl (Nat.le_of_ble_eq_true rfl) (Nat.le_of_ble_eq_true rfl) (Nat.le_of_ble_eq_true rfl) (Nat.le_of_ble_eq_true rfl) (Nat.le_of_ble_eq_true rfl) ?_
            refine xw_if_eqB 59 dB_hasOneOf_54 (by decide) (fun c25 => ?_) (fun c25 => ?_)
            · replace hF := xg_f c25 hF
              refine xw_iload dB_hasOneOf_59 rfl ?_
              refine xw_iconst (1) dB_hasOneOf_61 (by decide) ?_
              refine xw_iadd dB_hasOneOf_62 ?_
              refine xw_istore dB_hasOneOf_63 (Nat.le_of_ble_eq_true rfl) ?_
              refine xw_Ln (L' := [some (.ref a), some (.ref l1), some (.int l2), some (.int l3), some (.int (l5 + 1)), some (.int l5)]) rfl ?_
              refine xw_iinc ((l5 + 1)) dB_hasOneOf_65 rfl rfl (Nat.le_of_ble_eq_true rfl) ?_
              refine xw_Ln (L' := [some (.ref a), some (.ref l1), some (.int l2), some (.int l3), some (.int (l5 + 1)), some (.int (l5 + 1))]) rfl ?_
              refine xw_goto 6 dB_hasOneOf_68 (by decide) ?_
              exact ih hF
            · replace hF := xg_t c25 hF
              refine xw_iconst (1) dB_hasOneOf_57 (by decide) ?_
              obtain rfl := Option.some.inj hF
              exact xw_ireturn dB_hasOneOf_58 rfl (xb_nar true) (Nat.le_of_ble_eq_true rfl) (Nat.le_of_ble_eq_true rfl) ⟨rfl, rfl⟩
set_option maxRecDepth 20000 in
theorem CB_hasOneOf {w : xw_G} {h : xw_H} {a : Nat} (ha : 1000 ≤ a)  {x0 : Nat} {x1 : Int32} {x2 : Int32} {s : xBs} {out : Bool} (hF : FB_hasOneOf  x0 x1 x2 s = some out) : xw_C w (mB_hasOneOf { frames := 5, cells := 0, slots := 0, locals := 110 }) (xw_R (some (.int (xb out))) (vB a s h)) [.ref a, .ref x0, .int x1, .int x2] (vB a s h) := by
  unfold FB_hasOneOf at hF
  refine xw_enter rfl (show plainName "FormulaShaper$Bytes" = true by decide +kernel) (Nat.le_of_ble_eq_true rfl) ?_
  refine xw_iconst (0) dB_hasOneOf_0 (by decide) ?_
  refine xw_istore dB_hasOneOf_1 (Nat.le_of_ble_eq_true rfl) ?_
  refine xw_Ln (L' := [some (.ref a), some (.ref x0), some (.int x1), some (.int x2), some (.int 0), none]) rfl ?_
  refine xw_iconst (0) dB_hasOneOf_3 (by decide) ?_
  refine xw_istore dB_hasOneOf_4 (Nat.le_of_ble_eq_true rfl) ?_
  refine xw_Ln (L' := [some (.ref a), some (.ref x0), some (.int x1), some (.int x2), some (.int 0), some (.int 0)]) rfl ?_
  exact CB_hasOneOf_6 ha xFuel hF
/-- FormulaShaper$Things.clear -/
def FT_clear   (s : xTs) : Option xTs := some (s.1, s.2.1, 0)
set_option maxRecDepth 20000 in
theorem CT_clear {w : xw_G} {h : xw_H}    {s : xTs} {out : xTs} (hF : FT_clear   s = some out) : xw_C w (mT_clear { frames := 0, cells := 0, slots := 0, locals := 0 }) (xw_R none (vT out h)) [.ref 1005] (vT s h) := by
  unfold FT_clear at hF
  refine xw_enter rfl (show plainName "FormulaShaper$Things" = true by decide +kernel) (Nat.le_of_ble_eq_true rfl) ?_
  refine xw_aload_n dT_clear_0 rfl ?_
  refine xw_iconst (0) dT_clear_1 (by decide) ?_
  refine xg_put dT_clear_2 fT_18 rfl (by decide) (Nat.le_of_ble_eq_true rfl) (fun _ => rfl) (fun _ => rfl) vT_n ?_
  obtain rfl := Option.some.inj hF
  exact xw_return dT_clear_5 rfl (Nat.le_of_ble_eq_true rfl) (Nat.le_of_ble_eq_true rfl) ⟨rfl, rfl⟩
/-- FormulaShaper$Things.add -/
def FT_add  (x0 : Int32) (x1 : Int32) (s : xTs) : Option xTs := if (nI 2001) ≤ s.2.2 then (some s) else (if 0 ≤ s.2.2 ∧ s.2.2 < nI 2001 then (if 0 ≤ s.2.2 ∧ s.2.2 < nI 2001 then (some ((upd s.1 (s.2.2).toNatClampNeg x0), (upd s.2.1 (s.2.2).toNatClampNeg x1), (s.2.2 + 1))) else none) else none)
set_option maxRecDepth 20000 in
theorem CT_add {w : xw_G} {h : xw_H}   {x0 : Int32} {x1 : Int32} {s : xTs} {out : xTs} (hF : FT_add  x0 x1 s = some out) : xw_C w (mT_add { frames := 0, cells := 0, slots := 0, locals := 0 }) (xw_R none (vT out h)) [.ref 1005, .int x0, .int x1] (vT s h) := by
  unfold FT_add at hF
  refine xw_enter rfl (show plainName "FormulaShaper$Things" = true by decide +kernel) (Nat.le_of_ble_eq_true rfl) ?_
  refine xw_aload_n dT_add_0 rfl ?_
  refine xw_get dT_add_1 fT_18 rfl rfl ?_
  refine xw_aload_n dT_add_4 rfl ?_
  refine xw_get dT_add_5 fT_9 rfl rfl ?_
  refine xw_alen (ty := fun _ => (0, .int)) (nI 2001) dT_add_8 rfl (fun _ => rfl) rfl ?_
  refine xw_icmp_ge 42 dT_add_9 (by decide) (fun c26 => ?_) (fun c26 => ?_)
  · replace hF := xg_t c26 hF
    obtain rfl := Option.some.inj hF
    exact xw_return dT_add_42 rfl (Nat.le_of_ble_eq_true rfl) (Nat.le_of_ble_eq_true rfl) ⟨rfl, rfl⟩
  · replace hF := xg_f c26 hF
    refine xw_aload_n dT_add_12 rfl ?_
    refine xw_get dT_add_13 fT_9 rfl rfl ?_
    refine xw_aload_n dT_add_16 rfl ?_
    refine xw_get dT_add_17 fT_18 rfl rfl ?_
    refine xw_iload_n dT_add_20 rfl ?_
    obtain ⟨g27, hF⟩ := xg_g hF
    refine xg_iastore g27 dT_add_21 rfl (by decide) (by decide) vT_k ?_
    refine xw_aload_n dT_add_22 rfl ?_
    refine xw_get dT_add_23 fT_15 rfl rfl ?_
    refine xw_aload_n dT_add_26 rfl ?_
    refine xw_get dT_add_27 fT_18 rfl rfl ?_
    refine xw_iload_n dT_add_30 rfl ?_
    obtain ⟨g28, hF⟩ := xg_g hF
    refine xg_iastore g28 dT_add_31 rfl (by decide) (by decide) vT_p ?_
    refine xw_aload_n dT_add_32 rfl ?_
    refine xw_dup_r dT_add_33 ?_
    refine xw_get dT_add_34 fT_18 rfl rfl ?_
    refine xw_iconst (1) dT_add_37 (by decide) ?_
    refine xw_iadd dT_add_38 ?_
    refine xg_put dT_add_39 fT_18 rfl (by decide) (Nat.le_of_ble_eq_true rfl) (fun _ => rfl) (fun _ => rfl) vT_n ?_
    obtain rfl := Option.some.inj hF
    exact xw_return dT_add_42 rfl (Nat.le_of_ble_eq_true rfl) (Nat.le_of_ble_eq_true rfl) ⟨rfl, rfl⟩
/-- FormulaShaper$Things.kindAt -/
def FT_kindAt  (x0 : Int32) (s : xTs) : Option Int32 := if x0 < 0 then (some 256) else (if s.2.2 ≤ x0 then (some 256) else (if 0 ≤ x0 ∧ x0 < nI 2001 then (some (s.1 (x0).toNatClampNeg)) else none))
set_option maxRecDepth 20000 in
theorem CT_kindAt {w : xw_G} {h : xw_H}   {x0 : Int32} {s : xTs} {out : Int32} (hF : FT_kindAt  x0 s = some out) : xw_C w (mT_kindAt { frames := 0, cells := 0, slots := 0, locals := 0 }) (xw_R (some (.int out)) (vT s h)) [.ref 1005, .int x0] (vT s h) := by
  unfold FT_kindAt at hF
  refine xw_enter rfl (show plainName "FormulaShaper$Things" = true by decide +kernel) (Nat.le_of_ble_eq_true rfl) ?_
  refine xw_iload_n dT_kindAt_0 rfl ?_
  refine xw_if_lt 21 dT_kindAt_1 (by decide) (fun c29 => ?_) (fun c29 => ?_)
  · replace hF := xg_t c29 hF
    refine xw_sipush (256) dT_kindAt_21 (by decide) ?_
    obtain rfl := Option.some.inj hF
    exact xw_ireturn dT_kindAt_24 rfl rfl (Nat.le_of_ble_eq_true rfl) (Nat.le_of_ble_eq_true rfl) ⟨rfl, rfl⟩
  · replace hF := xg_f c29 hF
    refine xw_iload_n dT_kindAt_4 rfl ?_
    refine xw_aload_n dT_kindAt_5 rfl ?_
    refine xw_get dT_kindAt_6 fT_18 rfl rfl ?_
    refine xw_icmp_ge 21 dT_kindAt_9 (by decide) (fun c30 => ?_) (fun c30 => ?_)
    · replace hF := xg_t c30 hF
      refine xw_sipush (256) dT_kindAt_21 (by decide) ?_
      obtain rfl := Option.some.inj hF
      exact xw_ireturn dT_kindAt_24 rfl rfl (Nat.le_of_ble_eq_true rfl) (Nat.le_of_ble_eq_true rfl) ⟨rfl, rfl⟩
    · replace hF := xg_f c30 hF
      refine xw_aload_n dT_kindAt_12 rfl ?_
      refine xw_get dT_kindAt_13 fT_9 rfl rfl ?_
      refine xw_iload_n dT_kindAt_16 rfl ?_
      obtain ⟨g31, hF⟩ := xg_g hF
      refine xg_iaload g31 dT_kindAt_17 rfl (by decide) ?_
      refine xw_goto 24 dT_kindAt_18 (by decide) ?_
      obtain rfl := Option.some.inj hF
      exact xw_ireturn dT_kindAt_24 rfl rfl (Nat.le_of_ble_eq_true rfl) (Nat.le_of_ble_eq_true rfl) ⟨rfl, rfl⟩
/-- FormulaShaper$Things.placeAt -/
def FT_placeAt  (x0 : Int32) (s : xTs) : Option Int32 := if x0 < 0 then (some (-1)) else (if s.2.2 ≤ x0 then (some (-1)) else (if 0 ≤ x0 ∧ x0 < nI 2001 then (some (s.2.1 (x0).toNatClampNeg)) else none))
set_option maxRecDepth 20000 in
theorem CT_placeAt {w : xw_G} {h : xw_H}   {x0 : Int32} {s : xTs} {out : Int32} (hF : FT_placeAt  x0 s = some out) : xw_C w (mT_placeAt { frames := 0, cells := 0, slots := 0, locals := 0 }) (xw_R (some (.int out)) (vT s h)) [.ref 1005, .int x0] (vT s h) := by
  unfold FT_placeAt at hF
  refine xw_enter rfl (show plainName "FormulaShaper$Things" = true by decide +kernel) (Nat.le_of_ble_eq_true rfl) ?_
  refine xw_iload_n dT_placeAt_0 rfl ?_
  refine xw_if_lt 21 dT_placeAt_1 (by decide) (fun c32 => ?_) (fun c32 => ?_)
  · replace hF := xg_t c32 hF
    refine xw_iconst (-1) dT_placeAt_21 (by decide) ?_
    obtain rfl := Option.some.inj hF
    exact xw_ireturn dT_placeAt_22 rfl rfl (Nat.le_of_ble_eq_true rfl) (Nat.le_of_ble_eq_true rfl) ⟨rfl, rfl⟩
  · replace hF := xg_f c32 hF
    refine xw_iload_n dT_placeAt_4 rfl ?_
    refine xw_aload_n dT_placeAt_5 rfl ?_
    refine xw_get dT_placeAt_6 fT_18 rfl rfl ?_
    refine xw_icmp_ge 21 dT_placeAt_9 (by decide) (fun c33 => ?_) (fun c33 => ?_)
    · replace hF := xg_t c33 hF
      refine xw_iconst (-1) dT_placeAt_21 (by decide) ?_
      obtain rfl := Option.some.inj hF
      exact xw_ireturn dT_placeAt_22 rfl rfl (Nat.le_of_ble_eq_true rfl) (Nat.le_of_ble_eq_true rfl) ⟨rfl, rfl⟩
    · replace hF := xg_f c33 hF
      refine xw_aload_n dT_placeAt_12 rfl ?_
      refine xw_get dT_placeAt_13 fT_15 rfl rfl ?_
      refine xw_iload_n dT_placeAt_16 rfl ?_
      obtain ⟨g34, hF⟩ := xg_g hF
      refine xg_iaload g34 dT_placeAt_17 rfl (by decide) ?_
      refine xw_goto 22 dT_placeAt_18 (by decide) ?_
      obtain rfl := Option.some.inj hF
      exact xw_ireturn dT_placeAt_22 rfl rfl (Nat.le_of_ble_eq_true rfl) (Nat.le_of_ble_eq_true rfl) ⟨rfl, rfl⟩
/-- FormulaShaper$Formula.clear -/
def FF_clear   (s : xFs) : Option xFs := some (s.1, 0, 0, 0)
set_option maxRecDepth 20000 in
theorem CF_clear {w : xw_G} {h : xw_H} {a : Nat} (ha : 1000 ≤ a)   {s : xFs} {out : xFs} (hF : FF_clear   s = some out) : xw_C w (mF_clear { frames := 0, cells := 0, slots := 0, locals := 0 }) (xw_R none (vF a out h)) [.ref a] (vF a s h) := by
  unfold FF_clear at hF
  refine xw_enter rfl (show plainName "FormulaShaper$Formula" = true by decide +kernel) (Nat.le_of_ble_eq_true rfl) ?_
  refine xw_aload_n dF_clear_0 rfl ?_
  refine xw_iconst (0) dF_clear_1 (by decide) ?_
  refine xg_put dF_clear_2 fF_15 vF_o ha (Nat.le_of_ble_eq_true rfl) (fun _ => rfl) (fun _ => rfl) vF_n ?_
  refine xw_aload_n dF_clear_5 rfl ?_
  refine xw_iconst (0) dF_clear_6 (by decide) ?_
  refine xg_put dF_clear_7 fF_19 vF_o ha (Nat.le_of_ble_eq_true rfl) (fun _ => rfl) (fun _ => rfl) vF_n ?_
  refine xw_aload_n dF_clear_10 rfl ?_
  refine xw_iconst (0) dF_clear_11 (by decide) ?_
  refine xg_put dF_clear_12 fF_22 vF_o ha (Nat.le_of_ble_eq_true rfl) (fun _ => rfl) (fun _ => rfl) vF_n ?_
  obtain rfl := Option.some.inj hF
  exact xw_return dF_clear_15 rfl (Nat.le_of_ble_eq_true rfl) (Nat.le_of_ble_eq_true rfl) ⟨rfl, rfl⟩
/-- FormulaShaper$Formula.width -/
def FF_width   (s : xFs) : Option Int32 := some s.2.2.1
set_option maxRecDepth 20000 in
theorem CF_width {w : xw_G} {h : xw_H} {a : Nat} (ha : 1000 ≤ a)   {s : xFs} {out : Int32} (hF : FF_width   s = some out) : xw_C w (mF_width { frames := 0, cells := 0, slots := 0, locals := 0 }) (xw_R (some (.int out)) (vF a s h)) [.ref a] (vF a s h) := by
  unfold FF_width at hF
  refine xw_enter rfl (show plainName "FormulaShaper$Formula" = true by decide +kernel) (Nat.le_of_ble_eq_true rfl) ?_
  refine xw_aload_n dF_width_0 rfl ?_
  refine xw_get dF_width_1 fF_19 vF_o rfl ?_
  obtain rfl := Option.some.inj hF
  exact xw_ireturn dF_width_4 rfl rfl (Nat.le_of_ble_eq_true rfl) (Nat.le_of_ble_eq_true rfl) ⟨rfl, rfl⟩
/-- FormulaShaper$Formula.references -/
def FF_references   (s : xFs) : Option Int32 := some s.2.2.2
set_option maxRecDepth 20000 in
theorem CF_references {w : xw_G} {h : xw_H} {a : Nat} (ha : 1000 ≤ a)   {s : xFs} {out : Int32} (hF : FF_references   s = some out) : xw_C w (mF_references { frames := 0, cells := 0, slots := 0, locals := 0 }) (xw_R (some (.int out)) (vF a s h)) [.ref a] (vF a s h) := by
  unfold FF_references at hF
  refine xw_enter rfl (show plainName "FormulaShaper$Formula" = true by decide +kernel) (Nat.le_of_ble_eq_true rfl) ?_
  refine xw_aload_n dF_references_0 rfl ?_
  refine xw_get dF_references_1 fF_22 vF_o rfl ?_
  obtain rfl := Option.some.inj hF
  exact xw_ireturn dF_references_4 rfl rfl (Nat.le_of_ble_eq_true rfl) (Nat.le_of_ble_eq_true rfl) ⟨rfl, rfl⟩
/-- FormulaShaper$Formula.add -/
def FF_add  (x0 : Int64) (x1 : Int32) (s : xFs) : Option xFs := if (nI 1000) ≤ s.2.1 then (some (s.1, s.2.1, (s.2.2.1 + x1), s.2.2.2)) else (if 0 ≤ s.2.1 ∧ s.2.1 < nI 1000 then (some ((vp_updL s.1 (s.2.1).toNatClampNeg x0), (s.2.1 + 1), (s.2.2.1 + x1), s.2.2.2)) else none)
set_option maxRecDepth 20000 in
theorem CF_add {w : xw_G} {h : xw_H} {a : Nat} (ha : 1000 ≤ a)  {x0 : Int64} {x1 : Int32} {s : xFs} {out : xFs} (hF : FF_add  x0 x1 s = some out) : xw_C w (mF_add { frames := 0, cells := 0, slots := 0, locals := 0 }) (xw_R none (vF a out h)) [.ref a, .long x0, .int x1] (vF a s h) := by
  unfold FF_add at hF
  refine xw_enter rfl (show plainName "FormulaShaper$Formula" = true by decide +kernel) (Nat.le_of_ble_eq_true rfl) ?_
  refine xw_aload_n dF_add_0 rfl ?_
  refine xw_get dF_add_1 fF_15 vF_o rfl ?_
  refine xw_aload_n dF_add_4 rfl ?_
  refine xw_get dF_add_5 fF_9 vF_o rfl ?_
  refine xw_alen (ty := fun _ => (0, .long)) (nI 1000) dF_add_8 vF_a (fun _ => rfl) rfl ?_
  refine xw_icmp_ge 32 dF_add_9 (by decide) (fun c35 => ?_) (fun c35 => ?_)
  · replace hF := xg_t c35 hF
    refine xw_aload_n dF_add_32 rfl ?_
    refine xw_dup_r dF_add_33 ?_
    refine xw_get dF_add_34 fF_19 vF_o rfl ?_
    refine xw_iload_n dF_add_37 rfl ?_
    refine xw_iadd dF_add_38 ?_
    refine xg_put dF_add_39 fF_19 vF_o ha (Nat.le_of_ble_eq_true rfl) (fun _ => rfl) (fun _ => rfl) vF_n ?_
    obtain rfl := Option.some.inj hF
    exact xw_return dF_add_42 rfl (Nat.le_of_ble_eq_true rfl) (Nat.le_of_ble_eq_true rfl) ⟨rfl, rfl⟩
  · replace hF := xg_f c35 hF
    refine xw_aload_n dF_add_12 rfl ?_
    refine xw_get dF_add_13 fF_9 vF_o rfl ?_
    refine xw_aload_n dF_add_16 rfl ?_
    refine xw_get dF_add_17 fF_15 vF_o rfl ?_
    refine xw_lload_n dF_add_20 rfl ?_
    obtain ⟨g36, hF⟩ := xg_g hF
    refine xg_lastore g36 dF_add_21 vF_a (by omega) (by decide) vF_f ?_
    refine xw_aload_n dF_add_22 rfl ?_
    refine xw_dup_r dF_add_23 ?_
    refine xw_get dF_add_24 fF_15 vF_o rfl ?_
    refine xw_iconst (1) dF_add_27 (by decide) ?_
    refine xw_iadd dF_add_28 ?_
    refine xg_put dF_add_29 fF_15 vF_o ha (Nat.le_of_ble_eq_true rfl) (fun _ => rfl) (fun _ => rfl) vF_n ?_
    refine xw_aload_n dF_add_32 rfl ?_
    refine xw_dup_r dF_add_33 ?_
    refine xw_get dF_add_34 fF_19 vF_o rfl ?_
    refine xw_iload_n dF_add_37 rfl ?_
    refine xw_iadd dF_add_38 ?_
    refine xg_put dF_add_39 fF_19 vF_o ha (Nat.le_of_ble_eq_true rfl) (fun _ => rfl) (fun _ => rfl) vF_n ?_
    obtain rfl := Option.some.inj hF
    exact xw_return dF_add_42 rfl (Nat.le_of_ble_eq_true rfl) (Nat.le_of_ble_eq_true rfl) ⟨rfl, rfl⟩
/-- FormulaShaper$Formula.addByte -/
def FF_addByte  (x0 : Int32) (s : xFs) : Option xFs := (FF_add (Int32.toInt64 x0) 1 s).bind fun r37 => some r37
set_option maxRecDepth 20000 in
theorem CF_addByte {w : xw_G} {h : xw_H} {a : Nat} (ha : 1000 ≤ a)  {x0 : Int32} {s : xFs} {out : xFs} (hF : FF_addByte  x0 s = some out) : xw_C w (mF_addByte { frames := 1, cells := 0, slots := 0, locals := 23 }) (xw_R none (vF a out h)) [.ref a, .int x0] (vF a s h) := by
  unfold FF_addByte at hF
  refine xw_enter rfl (show plainName "FormulaShaper$Formula" = true by decide +kernel) (Nat.le_of_ble_eq_true rfl) ?_
  refine xw_aload_n dF_addByte_0 rfl ?_
  refine xw_iload_n dF_addByte_1 rfl ?_
  refine xw_i2l dF_addByte_2 ?_
  refine xw_iconst (1) dF_addByte_3 (by decide) ?_
  obtain ⟨r37, er37, hF⟩ := xg_b hF
  refine xg_V0 (k1 := 0) (n1 := 0) (CF_add ha er37) rfl rfl rfl dF_addByte_4 (kF_25 _) ⟨Nat.le_of_ble_eq_true rfl, Nat.le_of_ble_eq_true rfl⟩ rfl rfl vF_o rfl (Nat.le_of_ble_eq_true rfl) (Nat.le_of_ble_eq_true rfl) (Nat.le_of_ble_eq_true rfl) (Nat.le_of_ble_eq_true rfl) (Nat.le_of_ble_eq_true rfl) ?_
  obtain rfl := Option.some.inj hF
  exact xw_return dF_addByte_7 rfl (Nat.le_of_ble_eq_true rfl) (Nat.le_of_ble_eq_true rfl) ⟨rfl, rfl⟩
/-- FormulaShaper$Formula.addReference -/
def FF_addReference  (x0 : Int64) (s : xFs) : Option xFs := (FF_add x0 (sR_width x0) (s.1, s.2.1, s.2.2.1, (s.2.2.2 + 1))).bind fun r38 => some r38
set_option maxRecDepth 20000 in
theorem CF_addReference {w : xw_G} {h : xw_H} {a : Nat} (ha : 1000 ≤ a)  {x0 : Int64} {s : xFs} {out : xFs} (hF : FF_addReference  x0 s = some out) : xw_C w (mF_addReference { frames := 3, cells := 0, slots := 0, locals := 66 }) (xw_R none (vF a out h)) [.ref a, .long x0] (vF a s h) := by
  unfold FF_addReference at hF
  refine xw_enter rfl (show plainName "FormulaShaper$Formula" = true by decide +kernel) (Nat.le_of_ble_eq_true rfl) ?_
  refine xw_aload_n dF_addReference_0 rfl ?_
  refine xw_dup_r dF_addReference_1 ?_
  refine xw_get dF_addReference_2 fF_22 vF_o rfl ?_
  refine xw_iconst (1) dF_addReference_5 (by decide) ?_
  refine xw_iadd dF_addReference_6 ?_
  refine xg_put dF_addReference_7 fF_22 vF_o ha (Nat.le_of_ble_eq_true rfl) (fun _ => rfl) (fun _ => rfl) vF_n ?_
  refine xw_aload_n dF_addReference_10 rfl ?_
  refine xw_lload_n dF_addReference_11 rfl ?_
  refine xw_lload_n dF_addReference_12 rfl ?_
  refine xg_S1 (k1 := 0) (n1 := 0) (cR_width w) rfl rfl rfl dF_addReference_13 (kF_29 _) ⟨Nat.le_of_ble_eq_true rfl, Nat.le_of_ble_eq_true rfl⟩ rfl rfl (Nat.le_of_ble_eq_true rfl) (Nat.le_of_ble_eq_true rfl) (Nat.le_of_ble_eq_true rfl) (Nat.le_of_ble_eq_true rfl) (Nat.le_of_ble_eq_true rfl) ?_
  obtain ⟨r38, er38, hF⟩ := xg_b hF
  refine xg_V0 (k1 := 0) (n1 := 0) (CF_add ha er38) rfl rfl rfl dF_addReference_16 (kF_25 _) ⟨Nat.le_of_ble_eq_true rfl, Nat.le_of_ble_eq_true rfl⟩ rfl rfl vF_o rfl (Nat.le_of_ble_eq_true rfl) (Nat.le_of_ble_eq_true rfl) (Nat.le_of_ble_eq_true rfl) (Nat.le_of_ble_eq_true rfl) (Nat.le_of_ble_eq_true rfl) ?_
  obtain rfl := Option.some.inj hF
  exact xw_return dF_addReference_19 rfl (Nat.le_of_ble_eq_true rfl) (Nat.le_of_ble_eq_true rfl) ⟨rfl, rfl⟩
def FF_addText_2  : Nat → Nat → Int32 → xFs → Option xFs
  | 0, _, _, _ => none
  | fu + 1, l1, l2, s => if l1 < xk_N then (if (nI (xk_by l1).length) ≤ l2 then (some s) else (if l1 < xk_N ∧ 0 ≤ l2 ∧ l2 < nI (xk_by l1).length then ((FF_addByte ((xk_by l1).getD (l2).toNatClampNeg 0) s).bind fun r42 => FF_addText_2  fu l1 (l2 + 1) r42) else none)) else none
/-- FormulaShaper$Formula.addText -/
def FF_addText  (x0 : Nat) (s : xFs) : Option xFs := FF_addText_2  xFuel x0 0 s
set_option maxRecDepth 20000 in
theorem CF_addText_2 {w : xw_G} {h : xw_H} {a : Nat} (ha : 1000 ≤ a)  : ∀ (fu : Nat) {l1 : Nat} {l2 : Int32} {s : xFs} {out : xFs} {h0 : xw_H}, FF_addText_2  fu l1 l2 s = some out → xw_X w (mF_addText { frames := 4, cells := 0, slots := 0, locals := 85 }) (xw_R none (vF a out h)) h0 0 0 2 [some (.ref a), some (.ref l1), some (.int l2)] [] (vF a s h) := by
  intro fu
  induction fu with
  | zero =>
    intro l1 l2 s out h0 hF
    rw [FF_addText_2] at hF
    cases hF
  | succ fu ih =>
    intro l1 l2 s out h0 hF
    rw [FF_addText_2] at hF
    refine xw_iload_n dF_addText_2 rfl ?_
    refine xw_aload_n dF_addText_3 rfl ?_
    obtain ⟨g39, hF⟩ := xg_g hF
    refine xg_K1 (k1 := 0) (n1 := 0) (cQ_length w g39) rfl rfl rfl dF_addText_4 (kF_57 _) ⟨Nat.le_of_ble_eq_true rfl, Nat.le_of_ble_eq_true rfl⟩ rfl rfl (xk_mO g39) (xk_lt9 g39) (Nat.le_of_ble_eq_true rfl) (Nat.le_of_ble_eq_true rfl) (Nat.le_of_ble_eq_true rfl) (Nat.le_of_ble_eq_true rfl) (Nat.le_of_ble_eq_true rfl) ?_
    refine xw_icmp_ge 25 dF_addText_7 (by decide) (fun c40 => ?_) (fun c40 => ?_)
    · replace hF := xg_t c40 hF
      obtain rfl := Option.some.inj hF
      exact xw_return dF_addText_25 rfl (Nat.le_of_ble_eq_true rfl) (Nat.le_of_ble_eq_true rfl) ⟨rfl, rfl⟩
    · replace hF := xg_f c40 hF
      refine xw_aload_n dF_addText_10 rfl ?_
      refine xw_aload_n dF_addText_11 rfl ?_
      refine xw_iload_n dF_addText_12 rfl ?_
      obtain ⟨g41, hF⟩ := xg_g hF
      refine xg_K1 (k1 := 0) (n1 := 0) (CQ_charAt (w := w) g41.1 g41.2) rfl rfl rfl dF_addText_13 (kF_63 _) ⟨Nat.le_of_ble_eq_true rfl, Nat.le_of_ble_eq_true rfl⟩ rfl rfl (xk_mO g41.1) (xk_lt9 g41.1) (Nat.le_of_ble_eq_true rfl) (Nat.le_of_ble_eq_true rfl) (Nat.le_of_ble_eq_true rfl) (Nat.le_of_ble_eq_true rfl) (Nat.le_of_ble_eq_true rfl) ?_
      obtain ⟨r42, er42, hF⟩ := xg_b hF
      refine xg_V0 (k1 := 0) (n1 := 0) (CF_addByte ha er42) rfl rfl rfl dF_addText_16 (kF_67 _) ⟨Nat.le_of_ble_eq_true rfl, Nat.le_of_ble_eq_true rfl⟩ rfl rfl vF_o rfl (Nat.le_of_ble_eq_true rfl) (Nat.le_of_ble_eq_true rfl) (Nat.le_of_ble_eq_true rfl) (Nat.le_of_ble_eq_true rfl) (Nat.le_of_ble_eq_true rfl) ?_
      refine xw_iinc ((l2 + 1)) dF_addText_19 rfl rfl (Nat.le_of_ble_eq_true rfl) ?_
      refine xw_Ln (L' := [some (.ref a), some (.ref l1), some (.int (l2 + 1))]) rfl ?_
      refine xw_goto 2 dF_addText_22 (by decide) ?_
      exact ih hF
set_option maxRecDepth 20000 in
theorem CF_addText {w : xw_G} {h : xw_H} {a : Nat} (ha : 1000 ≤ a)  {x0 : Nat} {s : xFs} {out : xFs} (hF : FF_addText  x0 s = some out) : xw_C w (mF_addText { frames := 4, cells := 0, slots := 0, locals := 85 }) (xw_R none (vF a out h)) [.ref a, .ref x0] (vF a s h) := by
  unfold FF_addText at hF
  refine xw_enter rfl (show plainName "FormulaShaper$Formula" = true by decide +kernel) (Nat.le_of_ble_eq_true rfl) ?_
  refine xw_iconst (0) dF_addText_0 (by decide) ?_
  refine xw_istore_n dF_addText_1 (Nat.le_of_ble_eq_true rfl) ?_
  refine xw_Ln (L' := [some (.ref a), some (.ref x0), some (.int 0)]) rfl ?_
  exact CF_addText_2 ha xFuel hF
def FF_referenceAt_4  : Nat → Int32 → Int32 → Int32 → xFs → Option Int64
  | 0, _, _, _, _ => none
  | fu + 1, l1, l2, l3, s => if s.2.1 ≤ l3 then (some (-1)) else (if 0 ≤ l3 ∧ l3 < nI 1000 then (if (sR_isOne (s.1 (l3).toNatClampNeg)) = 0 then (FF_referenceAt_4  fu l1 l2 (l3 + 1) s) else (if l2 = l1 then (if 0 ≤ l3 ∧ l3 < nI 1000 then (some (s.1 (l3).toNatClampNeg)) else none) else (FF_referenceAt_4  fu l1 (l2 + 1) (l3 + 1) s))) else none)
/-- FormulaShaper$Formula.referenceAt -/
def FF_referenceAt  (x0 : Int32) (s : xFs) : Option Int64 := FF_referenceAt_4  xFuel x0 0 0 s
set_option maxRecDepth 20000 in
theorem CF_referenceAt_4 {w : xw_G} {h : xw_H} {a : Nat} (ha : 1000 ≤ a)  : ∀ (fu : Nat) {l1 : Int32} {l2 : Int32} {l3 : Int32} {s : xFs} {out : Int64} {h0 : xw_H}, FF_referenceAt_4  fu l1 l2 l3 s = some out → xw_X w (mF_referenceAt { frames := 1, cells := 0, slots := 0, locals := 21 }) (xw_R (some (.long out)) (vF a s h)) h0 0 0 4 [some (.ref a), some (.int l1), some (.int l2), some (.int l3)] [] (vF a s h) := by
  intro fu
  induction fu with
  | zero =>
    intro l1 l2 l3 s out h0 hF
    rw [FF_referenceAt_4] at hF
    cases hF
  | succ fu ih =>
    intro l1 l2 l3 s out h0 hF
    rw [FF_referenceAt_4] at hF
    refine xw_iload_n dF_referenceAt_4 rfl ?_
    refine xw_aload_n dF_referenceAt_5 rfl ?_
    refine xw_get dF_referenceAt_6 fF_15 vF_o rfl ?_
    refine xw_icmp_ge 45 dF_referenceAt_9 (by decide) (fun c43 => ?_) (fun c43 => ?_)
    · replace hF := xg_t c43 hF
      refine xw_ldc2 dF_referenceAt_45 tw_778 ?_
      obtain rfl := Option.some.inj hF
      exact xw_lreturn dF_referenceAt_48 rfl (Nat.le_of_ble_eq_true rfl) (Nat.le_of_ble_eq_true rfl) ⟨rfl, rfl⟩
    · replace hF := xg_f c43 hF
      refine xw_aload_n dF_referenceAt_12 rfl ?_
      refine xw_get dF_referenceAt_13 fF_9 vF_o rfl ?_
      refine xw_iload_n dF_referenceAt_16 rfl ?_
      obtain ⟨g44, hF⟩ := xg_g hF
      refine xg_laload g44 dF_referenceAt_17 vF_a (by decide) ?_
      refine xg_S1 (k1 := 0) (n1 := 0) (cR_isOne w) rfl rfl rfl dF_referenceAt_18 (kF_34 _) ⟨Nat.le_of_ble_eq_true rfl, Nat.le_of_ble_eq_true rfl⟩ rfl rfl (Nat.le_of_ble_eq_true rfl) (Nat.le_of_ble_eq_true rfl) (Nat.le_of_ble_eq_true rfl) (Nat.le_of_ble_eq_true rfl) (Nat.le_of_ble_eq_true rfl) ?_
      refine xw_if_eq 39 dF_referenceAt_21 (by decide) (fun c45 => ?_) (fun c45 => ?_)
      · replace hF := xg_t c45 hF
        refine xw_iinc ((l3 + 1)) dF_referenceAt_39 rfl rfl (Nat.le_of_ble_eq_true rfl) ?_
        refine xw_Ln (L' := [some (.ref a), some (.int l1), some (.int l2), some (.int (l3 + 1))]) rfl ?_
        refine xw_goto 4 dF_referenceAt_42 (by decide) ?_
        exact ih hF
      · replace hF := xg_f c45 hF
        refine xw_iload_n dF_referenceAt_24 rfl ?_
        refine xw_iload_n dF_referenceAt_25 rfl ?_
        refine xw_icmp_ne 36 dF_referenceAt_26 (by decide) (fun c46 => ?_) (fun c46 => ?_)
        · replace hF := xg_f c46 hF
          refine xw_iinc ((l2 + 1)) dF_referenceAt_36 rfl rfl (Nat.le_of_ble_eq_true rfl) ?_
          refine xw_Ln (L' := [some (.ref a), some (.int l1), some (.int (l2 + 1)), some (.int l3)]) rfl ?_
          refine xw_iinc ((l3 + 1)) dF_referenceAt_39 rfl rfl (Nat.le_of_ble_eq_true rfl) ?_
          refine xw_Ln (L' := [some (.ref a), some (.int l1), some (.int (l2 + 1)), some (.int (l3 + 1))]) rfl ?_
          refine xw_goto 4 dF_referenceAt_42 (by decide) ?_
          exact ih hF
        · replace hF := xg_t c46 hF
          refine xw_aload_n dF_referenceAt_29 rfl ?_
          refine xw_get dF_referenceAt_30 fF_9 vF_o rfl ?_
          refine xw_iload_n dF_referenceAt_33 rfl ?_
          obtain ⟨g47, hF⟩ := xg_g hF
          refine xg_laload g47 dF_referenceAt_34 vF_a (by decide) ?_
          obtain rfl := Option.some.inj hF
          exact xw_lreturn dF_referenceAt_35 rfl (Nat.le_of_ble_eq_true rfl) (Nat.le_of_ble_eq_true rfl) ⟨rfl, rfl⟩
set_option maxRecDepth 20000 in
theorem CF_referenceAt {w : xw_G} {h : xw_H} {a : Nat} (ha : 1000 ≤ a)  {x0 : Int32} {s : xFs} {out : Int64} (hF : FF_referenceAt  x0 s = some out) : xw_C w (mF_referenceAt { frames := 1, cells := 0, slots := 0, locals := 21 }) (xw_R (some (.long out)) (vF a s h)) [.ref a, .int x0] (vF a s h) := by
  unfold FF_referenceAt at hF
  refine xw_enter rfl (show plainName "FormulaShaper$Formula" = true by decide +kernel) (Nat.le_of_ble_eq_true rfl) ?_
  refine xw_iconst (0) dF_referenceAt_0 (by decide) ?_
  refine xw_istore_n dF_referenceAt_1 (Nat.le_of_ble_eq_true rfl) ?_
  refine xw_Ln (L' := [some (.ref a), some (.int x0), some (.int 0), none]) rfl ?_
  refine xw_iconst (0) dF_referenceAt_2 (by decide) ?_
  refine xw_istore_n dF_referenceAt_3 (Nat.le_of_ble_eq_true rfl) ?_
  refine xw_Ln (L' := [some (.ref a), some (.int x0), some (.int 0), some (.int 0)]) rfl ?_
  exact CF_referenceAt_4 ha xFuel hF
def FA_shifted_43  : Nat → Int32 → Int32 → Int32 → Int32 → Int32 → Int32 → Option Int32
  | 0, _, _, _, _, _, _ => none
  | fu + 1, l0, l1, l2, l3, l4, l5 => if l5 ≤ l4 then (if l4 ≤ l5 then (some (sA_of (sA_edge (sA_goesTo l4 l1 l2 l3) (sA_isFixed (sA_first l0))) (sA_edge (sA_goesTo l5 l1 l2 l3) (sA_isFixed (sA_last l0))))) else (some (-1))) else (if (sA_goesTo l5 l1 l2 l3) = (-1) then (FA_shifted_43  fu l0 l1 l2 l3 l4 (l5 + (-1))) else (if l4 ≤ l5 then (some (sA_of (sA_edge (sA_goesTo l4 l1 l2 l3) (sA_isFixed (sA_first l0))) (sA_edge (sA_goesTo l5 l1 l2 l3) (sA_isFixed (sA_last l0))))) else (some (-1))))
def FA_shifted_18  : Nat → Int32 → Int32 → Int32 → Int32 → Int32 → Int32 → Option Int32
  | 0, _, _, _, _, _, _ => none
  | fu + 1, l0, l1, l2, l3, l4, l5 => if l5 < l4 then (FA_shifted_43  xFuel l0 l1 l2 l3 l4 l5) else (if (sA_goesTo l4 l1 l2 l3) = (-1) then (FA_shifted_18  fu l0 l1 l2 l3 (l4 + 1) l5) else (FA_shifted_43  xFuel l0 l1 l2 l3 l4 l5))
/-- FormulaShaper$Span.shifted -/
def FA_shifted  (x0 : Int32) (x1 : Int32) (x2 : Int32) (x3 : Int32) : Option Int32 := FA_shifted_18  xFuel x0 x1 x2 x3 (sA_number (sA_first x0)) (sA_number (sA_last x0))
set_option maxRecDepth 20000 in
theorem CA_shifted_43 {w : xw_G} {h : xw_H}   : ∀ (fu : Nat) {l0 : Int32} {l1 : Int32} {l2 : Int32} {l3 : Int32} {l4 : Int32} {l5 : Int32} {out : Int32} {h0 : xw_H}, FA_shifted_43  fu l0 l1 l2 l3 l4 l5 = some out → xw_X w (mA_shifted { frames := 2, cells := 0, slots := 0, locals := 42 }) (xw_R (some (.int out)) (h)) h0 0 0 43 [some (.int l0), some (.int l1), some (.int l2), some (.int l3), some (.int l4), some (.int l5)] [] (h) := by
  intro fu
  induction fu with
  | zero =>
    intro l0 l1 l2 l3 l4 l5 out h0 hF
    rw [FA_shifted_43] at hF
    cases hF
  | succ fu ih =>
    intro l0 l1 l2 l3 l4 l5 out h0 hF
    rw [FA_shifted_43] at hF
    refine xw_iload dA_shifted_43 rfl ?_
    refine xw_iload dA_shifted_45 rfl ?_
    refine xw_icmp_le 68 dA_shifted_47 (by decide) (fun c49 => ?_) (fun c49 => ?_)
    · replace hF := xg_t c49 hF
      refine xw_iload dA_shifted_68 rfl ?_
      refine xw_iload dA_shifted_70 rfl ?_
      refine xw_icmp_le 77 dA_shifted_72 (by decide) (fun c50 => ?_) (fun c50 => ?_)
      · replace hF := xg_t c50 hF
        refine xw_iload dA_shifted_77 rfl ?_
        refine xw_iload_n dA_shifted_79 rfl ?_
        refine xw_iload_n dA_shifted_80 rfl ?_
        refine xw_iload_n dA_shifted_81 rfl ?_
        refine xg_S1 (k1 := 0) (n1 := 0) (cA_goesTo w) rfl rfl rfl dA_shifted_82 (kA_35 _) ⟨Nat.le_of_ble_eq_true rfl, Nat.le_of_ble_eq_true rfl⟩ rfl rfl (Nat.le_of_ble_eq_true rfl) (Nat.le_of_ble_eq_true rfl) (Nat.le_of_ble_eq_true rfl) (Nat.le_of_ble_eq_true rfl) (Nat.le_of_ble_eq_true rfl) ?_
        refine xw_iload_n dA_shifted_85 rfl ?_
        refine xg_S1 (k1 := 0) (n1 := 0) (cA_first w) rfl rfl rfl dA_shifted_86 (kA_13 _) ⟨Nat.le_of_ble_eq_true rfl, Nat.le_of_ble_eq_true rfl⟩ rfl rfl (Nat.le_of_ble_eq_true rfl) (Nat.le_of_ble_eq_true rfl) (Nat.le_of_ble_eq_true rfl) (Nat.le_of_ble_eq_true rfl) (Nat.le_of_ble_eq_true rfl) ?_
        refine xg_S1 (k1 := 0) (n1 := 0) (cA_isFixed w) rfl rfl rfl dA_shifted_89 (kA_27 _) ⟨Nat.le_of_ble_eq_true rfl, Nat.le_of_ble_eq_true rfl⟩ rfl rfl (Nat.le_of_ble_eq_true rfl) (Nat.le_of_ble_eq_true rfl) (Nat.le_of_ble_eq_true rfl) (Nat.le_of_ble_eq_true rfl) (Nat.le_of_ble_eq_true rfl) ?_
        refine xg_S1 (k1 := 0) (n1 := 0) (cA_edge w) rfl rfl rfl dA_shifted_92 (kA_31 _) ⟨Nat.le_of_ble_eq_true rfl, Nat.le_of_ble_eq_true rfl⟩ rfl rfl (Nat.le_of_ble_eq_true rfl) (Nat.le_of_ble_eq_true rfl) (Nat.le_of_ble_eq_true rfl) (Nat.le_of_ble_eq_true rfl) (Nat.le_of_ble_eq_true rfl) ?_
        refine xw_iload dA_shifted_95 rfl ?_
        refine xw_iload_n dA_shifted_97 rfl ?_
        refine xw_iload_n dA_shifted_98 rfl ?_
        refine xw_iload_n dA_shifted_99 rfl ?_
        refine xg_S1 (k1 := 0) (n1 := 0) (cA_goesTo w) rfl rfl rfl dA_shifted_100 (kA_35 _) ⟨Nat.le_of_ble_eq_true rfl, Nat.le_of_ble_eq_true rfl⟩ rfl rfl (Nat.le_of_ble_eq_true rfl) (Nat.le_of_ble_eq_true rfl) (Nat.le_of_ble_eq_true rfl) (Nat.le_of_ble_eq_true rfl) (Nat.le_of_ble_eq_true rfl) ?_
        refine xw_iload_n dA_shifted_103 rfl ?_
        refine xg_S1 (k1 := 0) (n1 := 0) (cA_last w) rfl rfl rfl dA_shifted_104 (kA_20 _) ⟨Nat.le_of_ble_eq_true rfl, Nat.le_of_ble_eq_true rfl⟩ rfl rfl (Nat.le_of_ble_eq_true rfl) (Nat.le_of_ble_eq_true rfl) (Nat.le_of_ble_eq_true rfl) (Nat.le_of_ble_eq_true rfl) (Nat.le_of_ble_eq_true rfl) ?_
        refine xg_S1 (k1 := 0) (n1 := 0) (cA_isFixed w) rfl rfl rfl dA_shifted_107 (kA_27 _) ⟨Nat.le_of_ble_eq_true rfl, Nat.le_of_ble_eq_true rfl⟩ rfl rfl (Nat.le_of_ble_eq_true rfl) (Nat.le_of_ble_eq_true rfl) (Nat.le_of_ble_eq_true rfl) (Nat.le_of_ble_eq_true rfl) (Nat.le_of_ble_eq_true rfl) ?_
        refine xg_S1 (k1 := 0) (n1 := 0) (cA_edge w) rfl rfl rfl dA_shifted_110 (kA_31 _) ⟨Nat.le_of_ble_eq_true rfl, Nat.le_of_ble_eq_true rfl⟩ rfl rfl (Nat.le_of_ble_eq_true rfl) (Nat.le_of_ble_eq_true rfl) (Nat.le_of_ble_eq_true rfl) (Nat.le_of_ble_eq_true rfl) (Nat.le_of_ble_eq_true rfl) ?_
        refine xg_S1 (k1 := 0) (n1 := 0) (cA_of w) rfl rfl rfl dA_shifted_113 (kA_23 _) ⟨Nat.le_of_ble_eq_true rfl, Nat.le_of_ble_eq_true rfl⟩ rfl rfl (Nat.le_of_ble_eq_true rfl) (Nat.le_of_ble_eq_true rfl) (Nat.le_of_ble_eq_true rfl) (Nat.le_of_ble_eq_true rfl) (Nat.le_of_ble_eq_true rfl) ?_
        obtain rfl := Option.some.inj hF
        exact xw_ireturn dA_shifted_116 rfl rfl (Nat.le_of_ble_eq_true rfl) (Nat.le_of_ble_eq_true rfl) ⟨rfl, rfl⟩
      · replace hF := xg_f c50 hF
        refine xw_iconst (-1) dA_shifted_75 (by decide) ?_
        obtain rfl := Option.some.inj hF
        exact xw_ireturn dA_shifted_76 rfl rfl (Nat.le_of_ble_eq_true rfl) (Nat.le_of_ble_eq_true rfl) ⟨rfl, rfl⟩
    · replace hF := xg_f c49 hF
      refine xw_iload dA_shifted_50 rfl ?_
      refine xw_iload_n dA_shifted_52 rfl ?_
      refine xw_iload_n dA_shifted_53 rfl ?_
      refine xw_iload_n dA_shifted_54 rfl ?_
      refine xg_S1 (k1 := 0) (n1 := 0) (cA_goesTo w) rfl rfl rfl dA_shifted_55 (kA_35 _) ⟨Nat.le_of_ble_eq_true rfl, Nat.le_of_ble_eq_true rfl⟩ rfl rfl (Nat.le_of_ble_eq_true rfl) (Nat.le_of_ble_eq_true rfl) (Nat.le_of_ble_eq_true rfl) (Nat.le_of_ble_eq_true rfl) (Nat.le_of_ble_eq_true rfl) ?_
      refine xw_iconst (-1) dA_shifted_58 (by decide) ?_
      refine xw_icmp_ne 68 dA_shifted_59 (by decide) (fun c51 => ?_) (fun c51 => ?_)
      · replace hF := xg_f c51 hF
        refine xw_iload dA_shifted_68 rfl ?_
        refine xw_iload dA_shifted_70 rfl ?_
        refine xw_icmp_le 77 dA_shifted_72 (by decide) (fun c52 => ?_) (fun c52 => ?_)
        · replace hF := xg_t c52 hF
          refine xw_iload dA_shifted_77 rfl ?_
          refine xw_iload_n dA_shifted_79 rfl ?_
          refine xw_iload_n dA_shifted_80 rfl ?_
          refine xw_iload_n dA_shifted_81 rfl ?_
          refine xg_S1 (k1 := 0) (n1 := 0) (cA_goesTo w) rfl rfl rfl dA_shifted_82 (kA_35 _) ⟨Nat.le_of_ble_eq_true rfl, Nat.le_of_ble_eq_true rfl⟩ rfl rfl (Nat.le_of_ble_eq_true rfl) (Nat.le_of_ble_eq_true rfl) (Nat.le_of_ble_eq_true rfl) (Nat.le_of_ble_eq_true rfl) (Nat.le_of_ble_eq_true rfl) ?_
          refine xw_iload_n dA_shifted_85 rfl ?_
          refine xg_S1 (k1 := 0) (n1 := 0) (cA_first w) rfl rfl rfl dA_shifted_86 (kA_13 _) ⟨Nat.le_of_ble_eq_true rfl, Nat.le_of_ble_eq_true rfl⟩ rfl rfl (Nat.le_of_ble_eq_true rfl) (Nat.le_of_ble_eq_true rfl) (Nat.le_of_ble_eq_true rfl) (Nat.le_of_ble_eq_true rfl) (Nat.le_of_ble_eq_true rfl) ?_
          refine xg_S1 (k1 := 0) (n1 := 0) (cA_isFixed w) rfl rfl rfl dA_shifted_89 (kA_27 _) ⟨Nat.le_of_ble_eq_true rfl, Nat.le_of_ble_eq_true rfl⟩ rfl rfl (Nat.le_of_ble_eq_true rfl) (Nat.le_of_ble_eq_true rfl) (Nat.le_of_ble_eq_true rfl) (Nat.le_of_ble_eq_true rfl) (Nat.le_of_ble_eq_true rfl) ?_
          refine xg_S1 (k1 := 0) (n1 := 0) (cA_edge w) rfl rfl rfl dA_shifted_92 (kA_31 _) ⟨Nat.le_of_ble_eq_true rfl, Nat.le_of_ble_eq_true rfl⟩ rfl rfl (Nat.le_of_ble_eq_true rfl) (Nat.le_of_ble_eq_true rfl) (Nat.le_of_ble_eq_true rfl) (Nat.le_of_ble_eq_true rfl) (Nat.le_of_ble_eq_true rfl) ?_
          refine xw_iload dA_shifted_95 rfl ?_
          refine xw_iload_n dA_shifted_97 rfl ?_
          refine xw_iload_n dA_shifted_98 rfl ?_
          refine xw_iload_n dA_shifted_99 rfl ?_
          refine xg_S1 (k1 := 0) (n1 := 0) (cA_goesTo w) rfl rfl rfl dA_shifted_100 (kA_35 _) ⟨Nat.le_of_ble_eq_true rfl, Nat.le_of_ble_eq_true rfl⟩ rfl rfl (Nat.le_of_ble_eq_true rfl) (Nat.le_of_ble_eq_true rfl) (Nat.le_of_ble_eq_true rfl) (Nat.le_of_ble_eq_true rfl) (Nat.le_of_ble_eq_true rfl) ?_
          refine xw_iload_n dA_shifted_103 rfl ?_
          refine xg_S1 (k1 := 0) (n1 := 0) (cA_last w) rfl rfl rfl dA_shifted_104 (kA_20 _) ⟨Nat.le_of_ble_eq_true rfl, Nat.le_of_ble_eq_true rfl⟩ rfl rfl (Nat.le_of_ble_eq_true rfl) (Nat.le_of_ble_eq_true rfl) (Nat.le_of_ble_eq_true rfl) (Nat.le_of_ble_eq_true rfl) (Nat.le_of_ble_eq_true rfl) ?_
          refine xg_S1 (k1 := 0) (n1 := 0) (cA_isFixed w) rfl rfl rfl dA_shifted_107 (kA_27 _) ⟨Nat.le_of_ble_eq_true rfl, Nat.le_of_ble_eq_true rfl⟩ rfl rfl (Nat.le_of_ble_eq_true rfl) (Nat.le_of_ble_eq_true rfl) (Nat.le_of_ble_eq_true rfl) (Nat.le_of_ble_eq_true rfl) (Nat.le_of_ble_eq_true rfl) ?_
          refine xg_S1 (k1 := 0) (n1 := 0) (cA_edge w) rfl rfl rfl dA_shifted_110 (kA_31 _) ⟨Nat.le_of_ble_eq_true rfl, Nat.le_of_ble_eq_true rfl⟩ rfl rfl (Nat.le_of_ble_eq_true rfl) (Nat.le_of_ble_eq_true rfl) (Nat.le_of_ble_eq_true rfl) (Nat.le_of_ble_eq_true rfl) (Nat.le_of_ble_eq_true rfl) ?_
          refine xg_S1 (k1 := 0) (n1 := 0) (cA_of w) rfl rfl rfl dA_shifted_113 (kA_23 _) ⟨Nat.le_of_ble_eq_true rfl, Nat.le_of_ble_eq_true rfl⟩ rfl rfl (Nat.le_of_ble_eq_true rfl) (Nat.le_of_ble_eq_true rfl) (Nat.le_of_ble_eq_true rfl) (Nat.le_of_ble_eq_true rfl) (Nat.le_of_ble_eq_true rfl) ?_
          obtain rfl := Option.some.inj hF
          exact xw_ireturn dA_shifted_116 rfl rfl (Nat.le_of_ble_eq_true rfl) (Nat.le_of_ble_eq_true rfl) ⟨rfl, rfl⟩
        · replace hF := xg_f c52 hF
          refine xw_iconst (-1) dA_shifted_75 (by decide) ?_
          obtain rfl := Option.some.inj hF
          exact xw_ireturn dA_shifted_76 rfl rfl (Nat.le_of_ble_eq_true rfl) (Nat.le_of_ble_eq_true rfl) ⟨rfl, rfl⟩
      · replace hF := xg_t c51 hF
        refine xw_iinc ((l5 + (-1))) dA_shifted_62 rfl rfl (Nat.le_of_ble_eq_true rfl) ?_
        refine xw_Ln (L' := [some (.int l0), some (.int l1), some (.int l2), some (.int l3), some (.int l4), some (.int (l5 + (-1)))]) rfl ?_
        refine xw_goto 43 dA_shifted_65 (by decide) ?_
        exact ih hF
set_option maxRecDepth 20000 in
theorem CA_shifted_18 {w : xw_G} {h : xw_H}   : ∀ (fu : Nat) {l0 : Int32} {l1 : Int32} {l2 : Int32} {l3 : Int32} {l4 : Int32} {l5 : Int32} {out : Int32} {h0 : xw_H}, FA_shifted_18  fu l0 l1 l2 l3 l4 l5 = some out → xw_X w (mA_shifted { frames := 2, cells := 0, slots := 0, locals := 42 }) (xw_R (some (.int out)) (h)) h0 0 0 18 [some (.int l0), some (.int l1), some (.int l2), some (.int l3), some (.int l4), some (.int l5)] [] (h) := by
  intro fu
  induction fu with
  | zero =>
    intro l0 l1 l2 l3 l4 l5 out h0 hF
    rw [FA_shifted_18] at hF
    cases hF
  | succ fu ih =>
    intro l0 l1 l2 l3 l4 l5 out h0 hF
    rw [FA_shifted_18] at hF
    refine xw_iload dA_shifted_18 rfl ?_
    refine xw_iload dA_shifted_20 rfl ?_
    refine xw_icmp_gt 43 dA_shifted_22 (by decide) (fun c48 => ?_) (fun c48 => ?_)
    · replace hF := xg_t c48 hF
      exact CA_shifted_43 xFuel hF
    · replace hF := xg_f c48 hF
      refine xw_iload dA_shifted_25 rfl ?_
      refine xw_iload_n dA_shifted_27 rfl ?_
      refine xw_iload_n dA_shifted_28 rfl ?_
      refine xw_iload_n dA_shifted_29 rfl ?_
      refine xg_S1 (k1 := 0) (n1 := 0) (cA_goesTo w) rfl rfl rfl dA_shifted_30 (kA_35 _) ⟨Nat.le_of_ble_eq_true rfl, Nat.le_of_ble_eq_true rfl⟩ rfl rfl (Nat.le_of_ble_eq_true rfl) (Nat.le_of_ble_eq_true rfl) (Nat.le_of_ble_eq_true rfl) (Nat.le_of_ble_eq_true rfl) (Nat.le_of_ble_eq_true rfl) ?_
      refine xw_iconst (-1) dA_shifted_33 (by decide) ?_
      refine xw_icmp_ne 43 dA_shifted_34 (by decide) (fun c53 => ?_) (fun c53 => ?_)
      · replace hF := xg_f c53 hF
        exact CA_shifted_43 xFuel hF
      · replace hF := xg_t c53 hF
        refine xw_iinc ((l4 + 1)) dA_shifted_37 rfl rfl (Nat.le_of_ble_eq_true rfl) ?_
        refine xw_Ln (L' := [some (.int l0), some (.int l1), some (.int l2), some (.int l3), some (.int (l4 + 1)), some (.int l5)]) rfl ?_
        refine xw_goto 18 dA_shifted_40 (by decide) ?_
        exact ih hF
set_option maxRecDepth 20000 in
theorem CA_shifted {w : xw_G} {h : xw_H}   {x0 : Int32} {x1 : Int32} {x2 : Int32} {x3 : Int32} {out : Int32} (hF : FA_shifted  x0 x1 x2 x3 = some out) : xw_C w (mA_shifted { frames := 2, cells := 0, slots := 0, locals := 42 }) (xw_R (some (.int out)) (h)) [.int x0, .int x1, .int x2, .int x3] (h) := by
  unfold FA_shifted at hF
  refine xw_enter rfl (show plainName "FormulaShaper$Span" = true by decide +kernel) (Nat.le_of_ble_eq_true rfl) ?_
  refine xw_iload_n dA_shifted_0 rfl ?_
  refine xg_S1 (k1 := 0) (n1 := 0) (cA_first w) rfl rfl rfl dA_shifted_1 (kA_13 _) ⟨Nat.le_of_ble_eq_true rfl, Nat.le_of_ble_eq_true rfl⟩ rfl rfl (Nat.le_of_ble_eq_true rfl) (Nat.le_of_ble_eq_true rfl) (Nat.le_of_ble_eq_true rfl) (Nat.le_of_ble_eq_true rfl) (Nat.le_of_ble_eq_true rfl) ?_
  refine xg_S1 (k1 := 0) (n1 := 0) (cA_number w) rfl rfl rfl dA_shifted_4 (kA_9 _) ⟨Nat.le_of_ble_eq_true rfl, Nat.le_of_ble_eq_true rfl⟩ rfl rfl (Nat.le_of_ble_eq_true rfl) (Nat.le_of_ble_eq_true rfl) (Nat.le_of_ble_eq_true rfl) (Nat.le_of_ble_eq_true rfl) (Nat.le_of_ble_eq_true rfl) ?_
  refine xw_istore dA_shifted_7 (Nat.le_of_ble_eq_true rfl) ?_
  refine xw_Ln (L' := [some (.int x0), some (.int x1), some (.int x2), some (.int x3), some (.int (sA_number (sA_first x0))), none]) rfl ?_
  refine xw_iload_n dA_shifted_9 rfl ?_
  refine xg_S1 (k1 := 0) (n1 := 0) (cA_last w) rfl rfl rfl dA_shifted_10 (kA_20 _) ⟨Nat.le_of_ble_eq_true rfl, Nat.le_of_ble_eq_true rfl⟩ rfl rfl (Nat.le_of_ble_eq_true rfl) (Nat.le_of_ble_eq_true rfl) (Nat.le_of_ble_eq_true rfl) (Nat.le_of_ble_eq_true rfl) (Nat.le_of_ble_eq_true rfl) ?_
  refine xg_S1 (k1 := 0) (n1 := 0) (cA_number w) rfl rfl rfl dA_shifted_13 (kA_9 _) ⟨Nat.le_of_ble_eq_true rfl, Nat.le_of_ble_eq_true rfl⟩ rfl rfl (Nat.le_of_ble_eq_true rfl) (Nat.le_of_ble_eq_true rfl) (Nat.le_of_ble_eq_true rfl) (Nat.le_of_ble_eq_true rfl) (Nat.le_of_ble_eq_true rfl) ?_
  refine xw_istore dA_shifted_16 (Nat.le_of_ble_eq_true rfl) ?_
  refine xw_Ln (L' := [some (.int x0), some (.int x1), some (.int x2), some (.int x3), some (.int (sA_number (sA_first x0))), some (.int (sA_number (sA_last x0)))]) rfl ?_
  exact CA_shifted_18 xFuel hF
