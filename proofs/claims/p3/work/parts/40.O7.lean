def xUP : Nat → xTP
  | 0 => (fun _ => none, fun _ => none, fun _ => none, fun _ => none, fun _ => none, fun _ => none, fun _ => none, fun _ _ => none, fun _ _ _ => none)
  | d + 1 => (FM_comparison (xUP d), FM_joined (xUP d), FM_sum (xUP d), FM_product (xUP d), FM_factor (xUP d), FM_applied (xUP d), FM_atom (xUP d), FM_function (xUP d), FM_bound (xUP d))
theorem xVP (w : xw_G) : ∀ d : Nat, xKP w (xUP d) d
  | 0 => ⟨fun _ => fun q => (Option.some_ne_none _ q.symm).elim, fun _ => fun q => (Option.some_ne_none _ q.symm).elim, fun _ => fun q => (Option.some_ne_none _ q.symm).elim, fun _ => fun q => (Option.some_ne_none _ q.symm).elim, fun _ => fun q => (Option.some_ne_none _ q.symm).elim, fun _ => fun q => (Option.some_ne_none _ q.symm).elim, fun _ => fun q => (Option.some_ne_none _ q.symm).elim, fun _ => fun q => (Option.some_ne_none _ q.symm).elim, fun _ => fun q => (Option.some_ne_none _ q.symm).elim⟩
  | d + 1 => ⟨fun hb => fun q => CM_comparison (hp := xVP w d) hb q, fun hb => fun q => CM_joined (hp := xVP w d) hb q, fun hb => fun q => CM_sum (hp := xVP w d) hb q, fun hb => fun q => CM_product (hp := xVP w d) hb q, fun hb => fun q => CM_factor (hp := xVP w d) hb q, fun hb => fun q => CM_applied (hp := xVP w d) hb q, fun hb => fun q => CM_atom (hp := xVP w d) hb q, fun hb => fun q => CM_function (hp := xVP w d) hb q, fun hb => fun q => CM_bound (hp := xVP w d) hb q⟩
def FM_E (s : xMs) : Option (xo Nat xMs) := (xUP 130).1  s
theorem CM_E {w : xw_G} {h : xw_H} (hb : xMb h) {s : xMs} {out : (xo Nat xMs)} (hF : FM_E  s = some out) : (s.2.2.1.2.2.2.2.2.2.1 ≤ (xo_s out).2.2.1.2.2.2.2.2.2.1 ∧ s.2.2.1.2.2.2.2.2.2.2 ≤ (xo_s out).2.2.1.2.2.2.2.2.2.2) ∧ xw_C w (mM_comparison { frames := 150, cells := (xo_s out).2.2.1.2.2.2.2.2.2.1 - s.2.2.1.2.2.2.2.2.2.1, slots := (xo_s out).2.2.1.2.2.2.2.2.2.2 - s.2.2.1.2.2.2.2.2.2.2, locals := 8400 }) (xo_P (fun x => some (.ref (xn x))) (fun s => mV s h) out) [.ref 2000] (mV s h) := (xVP w 130).1 hb hF
/-- FormulaShaperModel.formula -/
def FM_formula (x0 : Nat) (x1 : Int32) (x2 : Int32) (s : xMs) : Option (xo Nat xMs) := (FM_blanks (s.1, ((some x0), x1, x2, 0, s.2.1.2.2.2.2), s.2.2)).bind fun r1254 => (FM_peek r1254).bind fun r1257 => if r1257 = 61 then (xo_b (FM_E (r1254.1, (r1254.2.1.1, (r1254.2.1.2.1 + 1), r1254.2.1.2.2), r1254.2.2)) fun r1259 => (FM_blanks r1259.2).bind fun r1262 => if r1262.2.1.2.2.1 ≤ r1262.2.1.2.1 then (some (.inl (r1259.1, r1262))) else (xo_b (FM_bad r1262.2.1.2.1 r1262) fun r1266 => some (.inl (r1259.1, r1266.2)))) else (xo_b (FM_bad r1254.2.1.2.1 r1254) fun r1269 => xo_b (FM_E (r1269.2.1, (r1269.2.2.1.1, (r1269.2.2.1.2.1 + 1), r1269.2.2.1.2.2), r1269.2.2.2)) fun r1272 => (FM_blanks r1272.2).bind fun r1275 => if r1275.2.1.2.2.1 ≤ r1275.2.1.2.1 then (some (.inl (r1272.1, r1275))) else (xo_b (FM_bad r1275.2.1.2.1 r1275) fun r1279 => some (.inl (r1272.1, r1279.2))))
set_option maxRecDepth 20000 in
theorem CM_formula {w : xw_G} {h : xw_H} (hb : xMb h) {x0 : Nat} {x1 : Int32} {x2 : Int32} {s : xMs} {out : (xo Nat xMs)} (hF : FM_formula x0 x1 x2 s = some out) : (s.2.2.1.2.2.2.2.2.2.1 ≤ (xo_s out).2.2.1.2.2.2.2.2.2.1 ∧ s.2.2.1.2.2.2.2.2.2.2 ≤ (xo_s out).2.2.1.2.2.2.2.2.2.2) ∧ xw_C w (mM_formula { frames := 151, cells := (xo_s out).2.2.1.2.2.2.2.2.2.1 - s.2.2.1.2.2.2.2.2.2.1, slots := (xo_s out).2.2.1.2.2.2.2.2.2.2 - s.2.2.1.2.2.2.2.2.2.2, locals := 8423 }) (xo_P (fun x => some (.ref (xn x))) (fun s => mV s h) out) [.ref 2000, .ref x0, .int x1, .int x2] (mV s h) := by
  unfold FM_formula at hF
  refine xy_enter (L := [some (.ref 2000), some (.ref x0), some (.int x1), some (.int x2), none]) (fun _ => rfl) (fun _ => rfl) (fun _ => (show plainName "FormulaShaperModel" = true by decide +kernel)) (fun _ => (Nat.le_of_ble_eq_true rfl)) (fun _ => rfl) ?_
  have hm : s.2.2.1.2.2.2.2.2.2.1 ≤ s.2.2.1.2.2.2.2.2.2.1 ∧ s.2.2.1.2.2.2.2.2.2.2 ≤ s.2.2.1.2.2.2.2.2.2.2 := ⟨Nat.le_refl _, Nat.le_refl _⟩
  refine xy_r (xw_aload_n dM_formula_0 rfl) ?_
  refine xy_r (xw_aload_n dM_formula_1 rfl) ?_
  refine xy_r (xg_put dM_formula_2 fM_227 rfl (by decide) (Nat.le_of_ble_eq_true rfl) (fun _ => rfl) (fun _ => rfl) (mV_o (s' := (s.1, ((some x0), s.2.1.2), s.2.2)) rfl)) ?_
  refine xy_r (xw_aload_n dM_formula_5 rfl) ?_
  refine xy_r (xw_iload_n dM_formula_6 rfl) ?_
  refine xy_r (xg_put dM_formula_7 fM_221 rfl (by decide) (Nat.le_of_ble_eq_true rfl) (fun _ => rfl) (fun _ => rfl) (mV_o (s' := (s.1, ((some x0), x1, s.2.1.2.2), s.2.2)) rfl)) ?_
  refine xy_r (xw_aload_n dM_formula_10 rfl) ?_
  refine xy_r (xw_iload_n dM_formula_11 rfl) ?_
  refine xy_r (xg_put dM_formula_12 fM_224 rfl (by decide) (Nat.le_of_ble_eq_true rfl) (fun _ => rfl) (fun _ => rfl) (mV_o (s' := (s.1, ((some x0), x1, x2, s.2.1.2.2.2), s.2.2)) rfl)) ?_
  refine xy_r (xw_aload_n dM_formula_15 rfl) ?_
  refine xy_r (xw_iconst (0) dM_formula_16 (by decide)) ?_
  refine xy_r (xg_put dM_formula_17 fM_243 rfl (by decide) (Nat.le_of_ble_eq_true rfl) (fun _ => rfl) (fun _ => rfl) (mV_o (s' := (s.1, ((some x0), x1, x2, 0, s.2.1.2.2.2.2), s.2.2)) rfl)) ?_
  refine xy_r (xw_aload_n dM_formula_20 rfl) ?_
  obtain ⟨r1254, er1254, hF⟩ := xg_b hF
  have hm1255 : s.2.2.1.2.2.2.2.2.2.1 ≤ r1254.2.2.1.2.2.2.2.2.2.1 ∧ s.2.2.1.2.2.2.2.2.2.2 ≤ r1254.2.2.1.2.2.2.2.2.2.2 := xy_le hm (show s.2.2.1.2.2.2.2.2.2.1 ≤ r1254.2.2.1.2.2.2.2.2.2.1 ∧ s.2.2.1.2.2.2.2.2.2.2 ≤ r1254.2.2.1.2.2.2.2.2.2.2 from (CM_blanks (w := w) (h := h) hb (s := (s.1, ((some x0), x1, x2, 0, s.2.1.2.2.2.2), s.2.2)) er1254).1)
  refine xy_V0 (nl := 1) (sm := s.2.2.1.2.2.2.2.2.2.1) (sn := s.2.2.1.2.2.2.2.2.2.2) (tm := r1254.2.2.1.2.2.2.2.2.2.1) (tn := r1254.2.2.1.2.2.2.2.2.2.2) (CM_blanks hb (s := (s.1, ((some x0), x1, x2, 0, s.2.1.2.2.2.2), s.2.2)) er1254) rfl rfl hm (fun _ => rfl) (fun _ => rfl) (fun _ => rfl) (fun _ => dM_formula_21) (fun _ R => kM_233 R) (fun _ => rfl) ⟨(Nat.le_of_ble_eq_true rfl), (Nat.le_of_ble_eq_true rfl)⟩ rfl rfl rfl (fun _ => rfl) (Nat.le_of_ble_eq_true rfl) ?_
  refine xy_r (xw_aload_n dM_formula_24 rfl) ?_
  obtain ⟨r1257, er1257, hF⟩ := xg_b hF
  refine xy_q (fun hq => xg_V1 (k1 := _) (n1 := _) (CM_peek er1257) rfl rfl rfl dM_formula_25 (kM_230 _) ⟨Nat.le_of_ble_eq_true rfl, Nat.le_of_ble_eq_true rfl⟩ rfl rfl rfl rfl (Nat.le_of_ble_eq_true rfl) (Nat.le_refl _) (Nat.le_refl _) (Nat.sub_le_sub_right hq.1 _) (Nat.sub_le_sub_right hq.2 _)) ?_
  refine xy_r (xw_bipush (61) dM_formula_28 (by decide)) ?_
  refine xy_br (xw_icmp_eq 41 dM_formula_30 (by decide)) (fun c1258 => ?_) (fun c1258 => ?_)
  · replace hF := xg_t c1258 hF
    refine xy_r (xw_aload_n dM_formula_41 rfl) ?_
    refine xy_r (xw_dup_r dM_formula_42) ?_
    refine xy_r (xw_get dM_formula_43 fM_221 rfl rfl) ?_
    refine xy_r (xw_iconst (1) dM_formula_46 (by decide)) ?_
    refine xy_r (xw_iadd dM_formula_47) ?_
    refine xy_r (xg_put dM_formula_48 fM_221 rfl (by decide) (Nat.le_of_ble_eq_true rfl) (fun _ => rfl) (fun _ => rfl) (mV_o (s' := (r1254.1, (r1254.2.1.1, (r1254.2.1.2.1 + 1), r1254.2.1.2.2), r1254.2.2)) rfl)) ?_
    refine xy_r (xw_aload_n dM_formula_51 rfl) ?_
    rcases xg_o hF with ⟨r1259, er1259, hF⟩ | ⟨r1259, er1259, hF⟩
    · have hm1260 : s.2.2.1.2.2.2.2.2.2.1 ≤ r1259.2.2.2.1.2.2.2.2.2.2.1 ∧ s.2.2.1.2.2.2.2.2.2.2 ≤ r1259.2.2.2.1.2.2.2.2.2.2.2 := xy_le hm1255 (show r1254.2.2.1.2.2.2.2.2.2.1 ≤ r1259.2.2.2.1.2.2.2.2.2.2.1 ∧ r1254.2.2.1.2.2.2.2.2.2.2 ≤ r1259.2.2.2.1.2.2.2.2.2.2.2 from (CM_E (w := w) (h := h) hb (s := (r1254.1, (r1254.2.1.1, (r1254.2.1.2.1 + 1), r1254.2.1.2.2), r1254.2.2)) er1259).1)
      refine xy_V1 (nl := 4) (sm := r1254.2.2.1.2.2.2.2.2.2.1) (sn := r1254.2.2.1.2.2.2.2.2.2.2) (tm := r1259.2.2.2.1.2.2.2.2.2.2.1) (tn := r1259.2.2.2.1.2.2.2.2.2.2.2) (CM_E hb (s := (r1254.1, (r1254.2.1.1, (r1254.2.1.2.1 + 1), r1254.2.1.2.2), r1254.2.2)) er1259) rfl rfl hm1255 (fun _ => rfl) (fun _ => rfl) (fun _ => rfl) (fun _ => dM_formula_52) (fun _ R => kM_249 R) (fun _ => rfl) ⟨(Nat.le_of_ble_eq_true rfl), (Nat.le_of_ble_eq_true rfl)⟩ rfl rfl rfl (fun _ => rfl) (Nat.le_of_ble_eq_true rfl) ?_
      refine xy_r (xw_astore dM_formula_55 (Nat.le_of_ble_eq_true rfl)) ?_
      refine xy_r (xw_Ln (L' := [some (.ref 2000), some (.ref x0), some (.int x1), some (.int x2), some (.ref (xn r1259.1))]) rfl) ?_
      refine xy_r (xw_aload_n dM_formula_57 rfl) ?_
      obtain ⟨r1262, er1262, hF⟩ := xg_b hF
      have hm1263 : s.2.2.1.2.2.2.2.2.2.1 ≤ r1262.2.2.1.2.2.2.2.2.2.1 ∧ s.2.2.1.2.2.2.2.2.2.2 ≤ r1262.2.2.1.2.2.2.2.2.2.2 := xy_le hm1260 (show r1259.2.2.2.1.2.2.2.2.2.2.1 ≤ r1262.2.2.1.2.2.2.2.2.2.1 ∧ r1259.2.2.2.1.2.2.2.2.2.2.2 ≤ r1262.2.2.1.2.2.2.2.2.2.2 from (CM_blanks (w := w) (h := h) hb (s := r1259.2) er1262).1)
      refine xy_V0 (nl := 1) (sm := r1259.2.2.2.1.2.2.2.2.2.2.1) (sn := r1259.2.2.2.1.2.2.2.2.2.2.2) (tm := r1262.2.2.1.2.2.2.2.2.2.1) (tn := r1262.2.2.1.2.2.2.2.2.2.2) (CM_blanks hb (s := r1259.2) er1262) rfl rfl hm1260 (fun _ => rfl) (fun _ => rfl) (fun _ => rfl) (fun _ => dM_formula_58) (fun _ R => kM_233 R) (fun _ => rfl) ⟨(Nat.le_of_ble_eq_true rfl), (Nat.le_of_ble_eq_true rfl)⟩ rfl rfl rfl (fun _ => rfl) (Nat.le_of_ble_eq_true rfl) ?_
      refine xy_r (xw_aload_n dM_formula_61 rfl) ?_
      refine xy_r (xw_get dM_formula_62 fM_221 rfl rfl) ?_
      refine xy_r (xw_aload_n dM_formula_65 rfl) ?_
      refine xy_r (xw_get dM_formula_66 fM_224 rfl rfl) ?_
      refine xy_br (xw_icmp_ge 80 dM_formula_69 (by decide)) (fun c1265 => ?_) (fun c1265 => ?_)
      · replace hF := xg_t c1265 hF
        refine xy_r (xw_aload dM_formula_80 rfl) ?_
        obtain rfl := Option.some.inj hF
        exact xy_end (xw_areturn dM_formula_82 rfl (Or.inl ⟨_, rfl⟩) (Nat.le_refl _) (Nat.le_refl _) ⟨rfl, rfl⟩)
      · replace hF := xg_f c1265 hF
        refine xy_r (xw_aload_n dM_formula_72 rfl) ?_
        refine xy_r (xw_aload_n dM_formula_73 rfl) ?_
        refine xy_r (xw_get dM_formula_74 fM_221 rfl rfl) ?_
        rcases xg_o hF with ⟨r1266, er1266, hF⟩ | ⟨r1266, er1266, hF⟩
        · have hm1267 : s.2.2.1.2.2.2.2.2.2.1 ≤ r1266.2.2.2.1.2.2.2.2.2.2.1 ∧ s.2.2.1.2.2.2.2.2.2.2 ≤ r1266.2.2.2.1.2.2.2.2.2.2.2 := xy_le hm1263 (show r1262.2.2.1.2.2.2.2.2.2.1 ≤ r1266.2.2.2.1.2.2.2.2.2.2.1 ∧ r1262.2.2.1.2.2.2.2.2.2.2 ≤ r1266.2.2.2.1.2.2.2.2.2.2.2 from (CM_bad (w := w) (h := h) hb (s := r1262) er1266).1)
          refine xy_V0 (nl := 2) (sm := r1262.2.2.1.2.2.2.2.2.2.1) (sn := r1262.2.2.1.2.2.2.2.2.2.2) (tm := r1266.2.2.2.1.2.2.2.2.2.2.1) (tn := r1266.2.2.2.1.2.2.2.2.2.2.2) (CM_bad hb (s := r1262) er1266) rfl rfl hm1263 (fun _ => rfl) (fun _ => rfl) (fun _ => rfl) (fun _ => dM_formula_77) (fun _ R => kM_239 R) (fun _ => rfl) ⟨(Nat.le_of_ble_eq_true rfl), (Nat.le_of_ble_eq_true rfl)⟩ rfl rfl rfl (fun _ => rfl) (Nat.le_of_ble_eq_true rfl) ?_
          refine xy_r (xw_aload dM_formula_80 rfl) ?_
          obtain rfl := Option.some.inj hF
          exact xy_end (xw_areturn dM_formula_82 rfl (Or.inl ⟨_, rfl⟩) (Nat.le_refl _) (Nat.le_refl _) ⟨rfl, rfl⟩)
        · subst hF
          exact xy_Vt (nl := 2) (sm := r1262.2.2.1.2.2.2.2.2.2.1) (sn := r1262.2.2.1.2.2.2.2.2.2.2) (tm := r1266.2.2.2.1.2.2.2.2.2.2.1) (tn := r1266.2.2.2.1.2.2.2.2.2.2.2) (CM_bad hb (s := r1262) er1266) rfl rfl hm1263 (fun _ => rfl) (fun _ => rfl) (fun _ => rfl) (fun _ => dM_formula_77) (fun _ R => kM_239 R) (fun _ => rfl) ⟨(Nat.le_of_ble_eq_true rfl), (Nat.le_of_ble_eq_true rfl)⟩ rfl rfl rfl (fun _ => rfl) (Nat.le_of_ble_eq_true rfl) ⟨rfl, rfl⟩
    · subst hF
      exact xy_Vt (nl := 4) (sm := r1254.2.2.1.2.2.2.2.2.2.1) (sn := r1254.2.2.1.2.2.2.2.2.2.2) (tm := r1259.2.2.2.1.2.2.2.2.2.2.1) (tn := r1259.2.2.2.1.2.2.2.2.2.2.2) (CM_E hb (s := (r1254.1, (r1254.2.1.1, (r1254.2.1.2.1 + 1), r1254.2.1.2.2), r1254.2.2)) er1259) rfl rfl hm1255 (fun _ => rfl) (fun _ => rfl) (fun _ => rfl) (fun _ => dM_formula_52) (fun _ R => kM_249 R) (fun _ => rfl) ⟨(Nat.le_of_ble_eq_true rfl), (Nat.le_of_ble_eq_true rfl)⟩ rfl rfl rfl (fun _ => rfl) (Nat.le_of_ble_eq_true rfl) ⟨rfl, rfl⟩
  · replace hF := xg_f c1258 hF
    refine xy_r (xw_aload_n dM_formula_33 rfl) ?_
    refine xy_r (xw_aload_n dM_formula_34 rfl) ?_
    refine xy_r (xw_get dM_formula_35 fM_221 rfl rfl) ?_
    rcases xg_o hF with ⟨r1269, er1269, hF⟩ | ⟨r1269, er1269, hF⟩
    · have hm1270 : s.2.2.1.2.2.2.2.2.2.1 ≤ r1269.2.2.2.1.2.2.2.2.2.2.1 ∧ s.2.2.1.2.2.2.2.2.2.2 ≤ r1269.2.2.2.1.2.2.2.2.2.2.2 := xy_le hm1255 (show r1254.2.2.1.2.2.2.2.2.2.1 ≤ r1269.2.2.2.1.2.2.2.2.2.2.1 ∧ r1254.2.2.1.2.2.2.2.2.2.2 ≤ r1269.2.2.2.1.2.2.2.2.2.2.2 from (CM_bad (w := w) (h := h) hb (s := r1254) er1269).1)
      refine xy_V0 (nl := 2) (sm := r1254.2.2.1.2.2.2.2.2.2.1) (sn := r1254.2.2.1.2.2.2.2.2.2.2) (tm := r1269.2.2.2.1.2.2.2.2.2.2.1) (tn := r1269.2.2.2.1.2.2.2.2.2.2.2) (CM_bad hb (s := r1254) er1269) rfl rfl hm1255 (fun _ => rfl) (fun _ => rfl) (fun _ => rfl) (fun _ => dM_formula_38) (fun _ R => kM_239 R) (fun _ => rfl) ⟨(Nat.le_of_ble_eq_true rfl), (Nat.le_of_ble_eq_true rfl)⟩ rfl rfl rfl (fun _ => rfl) (Nat.le_of_ble_eq_true rfl) ?_
      refine xy_r (xw_aload_n dM_formula_41 rfl) ?_
      refine xy_r (xw_dup_r dM_formula_42) ?_
      refine xy_r (xw_get dM_formula_43 fM_221 rfl rfl) ?_
      refine xy_r (xw_iconst (1) dM_formula_46 (by decide)) ?_
      refine xy_r (xw_iadd dM_formula_47) ?_
      refine xy_r (xg_put dM_formula_48 fM_221 rfl (by decide) (Nat.le_of_ble_eq_true rfl) (fun _ => rfl) (fun _ => rfl) (mV_o (s' := (r1269.2.1, (r1269.2.2.1.1, (r1269.2.2.1.2.1 + 1), r1269.2.2.1.2.2), r1269.2.2.2)) rfl)) ?_
      refine xy_r (xw_aload_n dM_formula_51 rfl) ?_
      rcases xg_o hF with ⟨r1272, er1272, hF⟩ | ⟨r1272, er1272, hF⟩
      · have hm1273 : s.2.2.1.2.2.2.2.2.2.1 ≤ r1272.2.2.2.1.2.2.2.2.2.2.1 ∧ s.2.2.1.2.2.2.2.2.2.2 ≤ r1272.2.2.2.1.2.2.2.2.2.2.2 := xy_le hm1270 (show r1269.2.2.2.1.2.2.2.2.2.2.1 ≤ r1272.2.2.2.1.2.2.2.2.2.2.1 ∧ r1269.2.2.2.1.2.2.2.2.2.2.2 ≤ r1272.2.2.2.1.2.2.2.2.2.2.2 from (CM_E (w := w) (h := h) hb (s := (r1269.2.1, (r1269.2.2.1.1, (r1269.2.2.1.2.1 + 1), r1269.2.2.1.2.2), r1269.2.2.2)) er1272).1)
        refine xy_V1 (nl := 4) (sm := r1269.2.2.2.1.2.2.2.2.2.2.1) (sn := r1269.2.2.2.1.2.2.2.2.2.2.2) (tm := r1272.2.2.2.1.2.2.2.2.2.2.1) (tn := r1272.2.2.2.1.2.2.2.2.2.2.2) (CM_E hb (s := (r1269.2.1, (r1269.2.2.1.1, (r1269.2.2.1.2.1 + 1), r1269.2.2.1.2.2), r1269.2.2.2)) er1272) rfl rfl hm1270 (fun _ => rfl) (fun _ => rfl) (fun _ => rfl) (fun _ => dM_formula_52) (fun _ R => kM_249 R) (fun _ => rfl) ⟨(Nat.le_of_ble_eq_true rfl), (Nat.le_of_ble_eq_true rfl)⟩ rfl rfl rfl (fun _ => rfl) (Nat.le_of_ble_eq_true rfl) ?_
        refine xy_r (xw_astore dM_formula_55 (Nat.le_of_ble_eq_true rfl)) ?_
        refine xy_r (xw_Ln (L' := [some (.ref 2000), some (.ref x0), some (.int x1), some (.int x2), some (.ref (xn r1272.1))]) rfl) ?_
        refine xy_r (xw_aload_n dM_formula_57 rfl) ?_
        obtain ⟨r1275, er1275, hF⟩ := xg_b hF
        have hm1276 : s.2.2.1.2.2.2.2.2.2.1 ≤ r1275.2.2.1.2.2.2.2.2.2.1 ∧ s.2.2.1.2.2.2.2.2.2.2 ≤ r1275.2.2.1.2.2.2.2.2.2.2 := xy_le hm1273 (show r1272.2.2.2.1.2.2.2.2.2.2.1 ≤ r1275.2.2.1.2.2.2.2.2.2.1 ∧ r1272.2.2.2.1.2.2.2.2.2.2.2 ≤ r1275.2.2.1.2.2.2.2.2.2.2 from (CM_blanks (w := w) (h := h) hb (s := r1272.2) er1275).1)
        refine xy_V0 (nl := 1) (sm := r1272.2.2.2.1.2.2.2.2.2.2.1) (sn := r1272.2.2.2.1.2.2.2.2.2.2.2) (tm := r1275.2.2.1.2.2.2.2.2.2.1) (tn := r1275.2.2.1.2.2.2.2.2.2.2) (CM_blanks hb (s := r1272.2) er1275) rfl rfl hm1273 (fun _ => rfl) (fun _ => rfl) (fun _ => rfl) (fun _ => dM_formula_58) (fun _ R => kM_233 R) (fun _ => rfl) ⟨(Nat.le_of_ble_eq_true rfl), (Nat.le_of_ble_eq_true rfl)⟩ rfl rfl rfl (fun _ => rfl) (Nat.le_of_ble_eq_true rfl) ?_
        refine xy_r (xw_aload_n dM_formula_61 rfl) ?_
        refine xy_r (xw_get dM_formula_62 fM_221 rfl rfl) ?_
        refine xy_r (xw_aload_n dM_formula_65 rfl) ?_
        refine xy_r (xw_get dM_formula_66 fM_224 rfl rfl) ?_
        refine xy_br (xw_icmp_ge 80 dM_formula_69 (by decide)) (fun c1278 => ?_) (fun c1278 => ?_)
        · replace hF := xg_t c1278 hF
          refine xy_r (xw_aload dM_formula_80 rfl) ?_
          obtain rfl := Option.some.inj hF
          exact xy_end (xw_areturn dM_formula_82 rfl (Or.inl ⟨_, rfl⟩) (Nat.le_refl _) (Nat.le_refl _) ⟨rfl, rfl⟩)
        · replace hF := xg_f c1278 hF
          refine xy_r (xw_aload_n dM_formula_72 rfl) ?_
          refine xy_r (xw_aload_n dM_formula_73 rfl) ?_
          refine xy_r (xw_get dM_formula_74 fM_221 rfl rfl) ?_
          rcases xg_o hF with ⟨r1279, er1279, hF⟩ | ⟨r1279, er1279, hF⟩
          · have hm1280 : s.2.2.1.2.2.2.2.2.2.1 ≤ r1279.2.2.2.1.2.2.2.2.2.2.1 ∧ s.2.2.1.2.2.2.2.2.2.2 ≤ r1279.2.2.2.1.2.2.2.2.2.2.2 := xy_le hm1276 (show r1275.2.2.1.2.2.2.2.2.2.1 ≤ r1279.2.2.2.1.2.2.2.2.2.2.1 ∧ r1275.2.2.1.2.2.2.2.2.2.2 ≤ r1279.2.2.2.1.2.2.2.2.2.2.2 from (CM_bad (w := w) (h := h) hb (s := r1275) er1279).1)
            refine xy_V0 (nl := 2) (sm := r1275.2.2.1.2.2.2.2.2.2.1) (sn := r1275.2.2.1.2.2.2.2.2.2.2) (tm := r1279.2.2.2.1.2.2.2.2.2.2.1) (tn := r1279.2.2.2.1.2.2.2.2.2.2.2) (CM_bad hb (s := r1275) er1279) rfl rfl hm1276 (fun _ => rfl) (fun _ => rfl) (fun _ => rfl) (fun _ => dM_formula_77) (fun _ R => kM_239 R) (fun _ => rfl) ⟨(Nat.le_of_ble_eq_true rfl), (Nat.le_of_ble_eq_true rfl)⟩ rfl rfl rfl (fun _ => rfl) (Nat.le_of_ble_eq_true rfl) ?_
            refine xy_r (xw_aload dM_formula_80 rfl) ?_
            obtain rfl := Option.some.inj hF
            exact xy_end (xw_areturn dM_formula_82 rfl (Or.inl ⟨_, rfl⟩) (Nat.le_refl _) (Nat.le_refl _) ⟨rfl, rfl⟩)
          · subst hF
            exact xy_Vt (nl := 2) (sm := r1275.2.2.1.2.2.2.2.2.2.1) (sn := r1275.2.2.1.2.2.2.2.2.2.2) (tm := r1279.2.2.2.1.2.2.2.2.2.2.1) (tn := r1279.2.2.2.1.2.2.2.2.2.2.2) (CM_bad hb (s := r1275) er1279) rfl rfl hm1276 (fun _ => rfl) (fun _ => rfl) (fun _ => rfl) (fun _ => dM_formula_77) (fun _ R => kM_239 R) (fun _ => rfl) ⟨(Nat.le_of_ble_eq_true rfl), (Nat.le_of_ble_eq_true rfl)⟩ rfl rfl rfl (fun _ => rfl) (Nat.le_of_ble_eq_true rfl) ⟨rfl, rfl⟩
      · subst hF
        exact xy_Vt (nl := 4) (sm := r1269.2.2.2.1.2.2.2.2.2.2.1) (sn := r1269.2.2.2.1.2.2.2.2.2.2.2) (tm := r1272.2.2.2.1.2.2.2.2.2.2.1) (tn := r1272.2.2.2.1.2.2.2.2.2.2.2) (CM_E hb (s := (r1269.2.1, (r1269.2.2.1.1, (r1269.2.2.1.2.1 + 1), r1269.2.2.1.2.2), r1269.2.2.2)) er1272) rfl rfl hm1270 (fun _ => rfl) (fun _ => rfl) (fun _ => rfl) (fun _ => dM_formula_52) (fun _ R => kM_249 R) (fun _ => rfl) ⟨(Nat.le_of_ble_eq_true rfl), (Nat.le_of_ble_eq_true rfl)⟩ rfl rfl rfl (fun _ => rfl) (Nat.le_of_ble_eq_true rfl) ⟨rfl, rfl⟩
    · subst hF
      exact xy_Vt (nl := 2) (sm := r1254.2.2.1.2.2.2.2.2.2.1) (sn := r1254.2.2.1.2.2.2.2.2.2.2) (tm := r1269.2.2.2.1.2.2.2.2.2.2.1) (tn := r1269.2.2.2.1.2.2.2.2.2.2.2) (CM_bad hb (s := r1254) er1269) rfl rfl hm1255 (fun _ => rfl) (fun _ => rfl) (fun _ => rfl) (fun _ => dM_formula_38) (fun _ R => kM_239 R) (fun _ => rfl) ⟨(Nat.le_of_ble_eq_true rfl), (Nat.le_of_ble_eq_true rfl)⟩ rfl rfl rfl (fun _ => rfl) (Nat.le_of_ble_eq_true rfl) ⟨rfl, rfl⟩
/-- FormulaShaperModel.put -/
def FM_put_IV (x0 : Int32) (s : xMs) : Option xMs := if s.2.2.2.1.1 = (nI 4096) then (none) else (if 0 ≤ s.2.2.2.1.1 ∧ s.2.2.2.1.1 < nI 4096 then (some (s.1, s.2.1, s.2.2.1, ((s.2.2.2.1.1 + 1), (upd s.2.2.2.1.2.1 (s.2.2.2.1.1).toNatClampNeg (vp_nar .byte (x0).toInt8.toInt32)), s.2.2.2.1.2.2), s.2.2.2.2)) else none)
set_option maxRecDepth 20000 in
theorem CM_put_IV {w : xw_G} {h : xw_H} (hb : xMb h) {x0 : Int32} {s : xMs} {out : xMs} (hF : FM_put_IV x0 s = some out) : (s.2.2.1.2.2.2.2.2.2.1 ≤ out.2.2.1.2.2.2.2.2.2.1 ∧ s.2.2.1.2.2.2.2.2.2.2 ≤ out.2.2.1.2.2.2.2.2.2.2) ∧ xw_C w (mM_put_IV { frames := 0, cells := out.2.2.1.2.2.2.2.2.2.1 - s.2.2.1.2.2.2.2.2.2.1, slots := out.2.2.1.2.2.2.2.2.2.2 - s.2.2.1.2.2.2.2.2.2.2, locals := 0 }) (xw_R none (mV out h)) [.ref 2000, .int x0] (mV s h) := by
  unfold FM_put_IV at hF
  refine xy_enter (L := [some (.ref 2000), some (.int x0), none, none]) (fun _ => rfl) (fun _ => rfl) (fun _ => (show plainName "FormulaShaperModel" = true by decide +kernel)) (fun _ => (Nat.le_of_ble_eq_true rfl)) (fun _ => rfl) ?_
  have hm : s.2.2.1.2.2.2.2.2.2.1 ≤ s.2.2.1.2.2.2.2.2.2.1 ∧ s.2.2.1.2.2.2.2.2.2.2 ≤ s.2.2.1.2.2.2.2.2.2.2 := ⟨Nat.le_refl _, Nat.le_refl _⟩
  refine xy_r (xw_aload_n dM_put_IV_0 rfl) ?_
  refine xy_r (xw_get dM_put_IV_1 fM_420 rfl rfl) ?_
  refine xy_r (xw_aload_n dM_put_IV_4 rfl) ?_
  refine xy_r (xw_get dM_put_IV_5 fM_136 rfl rfl) ?_
  refine xy_r (xw_alen (ty := fun _ => (0, .byte)) (nI 4096) dM_put_IV_8 rfl (fun _ => rfl) rfl) ?_
  refine xy_brn (xw_icmp_ne 51 dM_put_IV_9 (by decide)) (fun c1282 => ?_) (fun c1282 => ?_)
  · replace hF := xg_f c1282 hF
    refine xy_r (xw_aload_n dM_put_IV_51 rfl) ?_
    refine xy_r (xw_get dM_put_IV_52 fM_136 rfl rfl) ?_
    refine xy_r (xw_aload_n dM_put_IV_55 rfl) ?_
    refine xy_r (xw_get dM_put_IV_56 fM_420 rfl rfl) ?_
    refine xy_r (xw_iload_n dM_put_IV_59 rfl) ?_
    refine xy_r (xw_i2b dM_put_IV_60) ?_
    obtain ⟨g1283, hF⟩ := xg_g hF
    refine xy_r (xg_bastore g1283 dM_put_IV_61 rfl (by decide) (by decide) (mV_e (s' := (s.1, s.2.1, s.2.2.1, (s.2.2.2.1.1, (upd s.2.2.2.1.2.1 (s.2.2.2.1.1).toNatClampNeg (vp_nar .byte (x0).toInt8.toInt32)), s.2.2.2.1.2.2), s.2.2.2.2)) mV_shown rfl)) ?_
    refine xy_r (xw_aload_n dM_put_IV_62 rfl) ?_
    refine xy_r (xw_dup_r dM_put_IV_63) ?_
    refine xy_r (xw_get dM_put_IV_64 fM_420 rfl rfl) ?_
    refine xy_r (xw_iconst (1) dM_put_IV_67 (by decide)) ?_
    refine xy_r (xw_iadd dM_put_IV_68) ?_
    refine xy_r (xg_put dM_put_IV_69 fM_420 rfl (by decide) (Nat.le_of_ble_eq_true rfl) (fun _ => rfl) (fun _ => rfl) (mV_o (s' := (s.1, s.2.1, s.2.2.1, ((s.2.2.2.1.1 + 1), (upd s.2.2.2.1.2.1 (s.2.2.2.1.1).toNatClampNeg (vp_nar .byte (x0).toInt8.toInt32)), s.2.2.2.1.2.2), s.2.2.2.2)) rfl)) ?_
    obtain rfl := Option.some.inj hF
    exact xy_end (xw_return dM_put_IV_72 rfl (Nat.le_refl _) (Nat.le_refl _) ⟨rfl, rfl⟩)
  · replace hF := xg_t c1282 hF
    refine xy_r (xw_iconst (2) dM_put_IV_12 (by decide)) ?_
    refine xy_r (xw_aload_n dM_put_IV_13 rfl) ?_
    refine xy_r (xw_get dM_put_IV_14 fM_420 rfl rfl) ?_
    refine xy_r (xw_imul dM_put_IV_17) ?_
    cases hF
def FM_put_LjavalangStringV_2 : Nat → Nat → Int32 → xMs → Option xMs
  | 0, _, _, _ => none
  | fu + 1, l1, l2, s => if l1 < xk_N then (if (nI (xk_by l1).length) ≤ l2 then (some s) else (if l1 < xk_N ∧ 0 ≤ l2 ∧ l2 < nI (xk_by l1).length then ((FM_put_IV ((xk_by l1).getD (l2).toNatClampNeg 0) s).bind fun r1287 => FM_put_LjavalangStringV_2 fu l1 (l2 + 1) r1287) else none)) else none
/-- FormulaShaperModel.put -/
def FM_put_LjavalangStringV (x0 : Nat) (s : xMs) : Option xMs := FM_put_LjavalangStringV_2 xFuel x0 0 s
set_option maxRecDepth 20000 in
theorem CM_put_LjavalangStringV_2 {w : xw_G} {h : xw_H} (hb : xMb h)  : ∀ (fu : Nat) {l1 : Nat} {l2 : Int32} {s : xMs} {out : xMs} {h0 : xw_H} {m0 n0 : Nat} (hm : m0 ≤ s.2.2.1.2.2.2.2.2.2.1 ∧ n0 ≤ s.2.2.1.2.2.2.2.2.2.2), FM_put_LjavalangStringV_2 fu l1 l2 s = some out → xw_Y w mM_put_LjavalangStringV 4 85 (xw_R none (mV out h)) h0 m0 n0 s.2.2.1.2.2.2.2.2.2.1 s.2.2.1.2.2.2.2.2.2.2 out.2.2.1.2.2.2.2.2.2.1 out.2.2.1.2.2.2.2.2.2.2 2 [some (.ref 2000), some (.ref l1), some (.int l2)] [] (mV s h) := by
  intro fu
  induction fu with
  | zero =>
    intro l1 l2 s out h0 m0 n0 hm hF
    rw [FM_put_LjavalangStringV_2] at hF
    cases hF
  | succ fu ih =>
    intro l1 l2 s out h0 m0 n0 hm hF
    rw [FM_put_LjavalangStringV_2] at hF
    refine xy_r (xw_iload_n dM_put_LjavalangStringV_2 rfl) ?_
    refine xy_r (xw_aload_n dM_put_LjavalangStringV_3 rfl) ?_
    obtain ⟨g1284, hF⟩ := xg_g hF
    refine xy_q (fun hq => xg_K1 (k1 := _) (n1 := _) (cQ_length w g1284) rfl rfl rfl dM_put_LjavalangStringV_4 (kM_171 _) ⟨Nat.le_of_ble_eq_true rfl, Nat.le_of_ble_eq_true rfl⟩ rfl rfl (xk_mO g1284) (xk_lt9 g1284) (Nat.le_of_ble_eq_true rfl) (Nat.le_refl _) (Nat.le_refl _) (Nat.sub_le_sub_right hq.1 _) (Nat.sub_le_sub_right hq.2 _)) ?_
    refine xy_br (xw_icmp_ge 25 dM_put_LjavalangStringV_7 (by decide)) (fun c1285 => ?_) (fun c1285 => ?_)
    · replace hF := xg_t c1285 hF
      obtain rfl := Option.some.inj hF
      exact xy_end (xw_return dM_put_LjavalangStringV_25 rfl (Nat.le_refl _) (Nat.le_refl _) ⟨rfl, rfl⟩)
    · replace hF := xg_f c1285 hF
      refine xy_r (xw_aload_n dM_put_LjavalangStringV_10 rfl) ?_
      refine xy_r (xw_aload_n dM_put_LjavalangStringV_11 rfl) ?_
      refine xy_r (xw_iload_n dM_put_LjavalangStringV_12 rfl) ?_
      obtain ⟨g1286, hF⟩ := xg_g hF
      refine xy_q (fun hq => xg_K1 (k1 := _) (n1 := _) (CQ_charAt (w := w) g1286.1 g1286.2) rfl rfl rfl dM_put_LjavalangStringV_13 (kM_177 _) ⟨Nat.le_of_ble_eq_true rfl, Nat.le_of_ble_eq_true rfl⟩ rfl rfl (xk_mO g1286.1) (xk_lt9 g1286.1) (Nat.le_of_ble_eq_true rfl) (Nat.le_refl _) (Nat.le_refl _) (Nat.sub_le_sub_right hq.1 _) (Nat.sub_le_sub_right hq.2 _)) ?_
      obtain ⟨r1287, er1287, hF⟩ := xg_b hF
      have hm1288 : m0 ≤ r1287.2.2.1.2.2.2.2.2.2.1 ∧ n0 ≤ r1287.2.2.1.2.2.2.2.2.2.2 := xy_le hm (show s.2.2.1.2.2.2.2.2.2.1 ≤ r1287.2.2.1.2.2.2.2.2.2.1 ∧ s.2.2.1.2.2.2.2.2.2.2 ≤ r1287.2.2.1.2.2.2.2.2.2.2 from (CM_put_IV (w := w) (h := h) hb (s := s) er1287).1)
      refine xy_V0 (nl := 4) (sm := s.2.2.1.2.2.2.2.2.2.1) (sn := s.2.2.1.2.2.2.2.2.2.2) (tm := r1287.2.2.1.2.2.2.2.2.2.1) (tn := r1287.2.2.1.2.2.2.2.2.2.2) (CM_put_IV hb (s := s) er1287) rfl rfl hm (fun _ => rfl) (fun _ => rfl) (fun _ => rfl) (fun _ => dM_put_LjavalangStringV_16) (fun _ R => kM_423 R) (fun _ => rfl) ⟨(Nat.le_of_ble_eq_true rfl), (Nat.le_of_ble_eq_true rfl)⟩ rfl rfl rfl (fun _ => rfl) (Nat.le_of_ble_eq_true rfl) ?_
      refine xy_r (xw_iinc ((l2 + 1)) dM_put_LjavalangStringV_19 rfl rfl (Nat.le_of_ble_eq_true rfl)) ?_
      refine xy_r (xw_Ln (L' := [some (.ref 2000), some (.ref l1), some (.int (l2 + 1))]) rfl) ?_
      refine xy_r (xw_goto 2 dM_put_LjavalangStringV_22 (by decide)) ?_
      exact ih (s := r1287) hm1288 hF
set_option maxRecDepth 20000 in
theorem CM_put_LjavalangStringV {w : xw_G} {h : xw_H} (hb : xMb h) {x0 : Nat} {s : xMs} {out : xMs} (hF : FM_put_LjavalangStringV x0 s = some out) : (s.2.2.1.2.2.2.2.2.2.1 ≤ out.2.2.1.2.2.2.2.2.2.1 ∧ s.2.2.1.2.2.2.2.2.2.2 ≤ out.2.2.1.2.2.2.2.2.2.2) ∧ xw_C w (mM_put_LjavalangStringV { frames := 4, cells := out.2.2.1.2.2.2.2.2.2.1 - s.2.2.1.2.2.2.2.2.2.1, slots := out.2.2.1.2.2.2.2.2.2.2 - s.2.2.1.2.2.2.2.2.2.2, locals := 85 }) (xw_R none (mV out h)) [.ref 2000, .ref x0] (mV s h) := by
  unfold FM_put_LjavalangStringV at hF
  refine xy_enter (L := [some (.ref 2000), some (.ref x0), none]) (fun _ => rfl) (fun _ => rfl) (fun _ => (show plainName "FormulaShaperModel" = true by decide +kernel)) (fun _ => (Nat.le_of_ble_eq_true rfl)) (fun _ => rfl) ?_
  have hm : s.2.2.1.2.2.2.2.2.2.1 ≤ s.2.2.1.2.2.2.2.2.2.1 ∧ s.2.2.1.2.2.2.2.2.2.2 ≤ s.2.2.1.2.2.2.2.2.2.2 := ⟨Nat.le_refl _, Nat.le_refl _⟩
  refine xy_r (xw_iconst (0) dM_put_LjavalangStringV_0 (by decide)) ?_
  refine xy_r (xw_istore_n dM_put_LjavalangStringV_1 (Nat.le_of_ble_eq_true rfl)) ?_
  refine xy_r (xw_Ln (L' := [some (.ref 2000), some (.ref x0), some (.int 0)]) rfl) ?_
  exact CM_put_LjavalangStringV_2 hb xFuel (s := s) hm hF
def FM_whole_21 : Nat → Int64 → Int64 → xMs → Option xMs
  | 0, _, _, _ => none
  | fu + 1, l1, l3, s => if (lg_cmp l3 0) ≤ 0 then (some s) else (if ¬ l3 = 0 then ((FM_put_IV (Int64.toInt32 ((48) + ((l1 / l3) - (l1 / l3) / (10) * (10)))) s).bind fun r1294 => FM_whole_21 fu l1 (l3 / (10)) r1294) else none)
def FM_whole_2 : Nat → Int64 → Int64 → xMs → Option xMs
  | 0, _, _, _ => none
  | fu + 1, l1, l3, s => if ¬ l3 = 0 then (if (lg_cmp (l1 / l3) (9)) ≤ 0 then (FM_whole_21 xFuel l1 l3 s) else (FM_whole_2 fu l1 (l3 * (10)) s)) else none
/-- FormulaShaperModel.whole -/
def FM_whole (x0 : Int64) (s : xMs) : Option xMs := FM_whole_2 xFuel x0 1 s
set_option maxRecDepth 20000 in
theorem CM_whole_21 {w : xw_G} {h : xw_H} (hb : xMb h)  : ∀ (fu : Nat) {l1 : Int64} {l3 : Int64} {s : xMs} {out : xMs} {h0 : xw_H} {m0 n0 : Nat} (hm : m0 ≤ s.2.2.1.2.2.2.2.2.2.1 ∧ n0 ≤ s.2.2.1.2.2.2.2.2.2.2), FM_whole_21 fu l1 l3 s = some out → xw_Y w mM_whole 1 23 (xw_R none (mV out h)) h0 m0 n0 s.2.2.1.2.2.2.2.2.2.1 s.2.2.1.2.2.2.2.2.2.2 out.2.2.1.2.2.2.2.2.2.1 out.2.2.1.2.2.2.2.2.2.2 21 [some (.ref 2000), some (.long l1), none, some (.long l3), none] [] (mV s h) := by
  intro fu
  induction fu with
  | zero =>
    intro l1 l3 s out h0 m0 n0 hm hF
    rw [FM_whole_21] at hF
    cases hF
  | succ fu ih =>
    intro l1 l3 s out h0 m0 n0 hm hF
    rw [FM_whole_21] at hF
    refine xy_r (xw_lload_n dM_whole_21 rfl) ?_
    refine xy_r (xw_lconst (0) dM_whole_22 (by decide)) ?_
    refine xy_r (xw_lcmp dM_whole_23) ?_
    refine xy_br (xw_if_le 52 dM_whole_24 (by decide)) (fun c1292 => ?_) (fun c1292 => ?_)
    · replace hF := xg_t c1292 hF
      obtain rfl := Option.some.inj hF
      exact xy_end (xw_return dM_whole_52 rfl (Nat.le_refl _) (Nat.le_refl _) ⟨rfl, rfl⟩)
    · replace hF := xg_f c1292 hF
      refine xy_r (xw_aload_n dM_whole_27 rfl) ?_
      refine xy_r (xw_ldc2 dM_whole_28 tw_1222) ?_
      refine xy_r (xw_lload_n dM_whole_31 rfl) ?_
      refine xy_r (xw_lload_n dM_whole_32 rfl) ?_
      obtain ⟨g1293, hF⟩ := xg_g hF
      refine xy_r (xw_ldiv dM_whole_33 g1293) ?_
      refine xy_r (xw_ldc2 dM_whole_34 tw_1221) ?_
      refine xy_r (xw_lrem dM_whole_37 (by decide)) ?_
      refine xy_r (xw_ladd dM_whole_38) ?_
      refine xy_r (xw_l2i dM_whole_39) ?_
      obtain ⟨r1294, er1294, hF⟩ := xg_b hF
      have hm1295 : m0 ≤ r1294.2.2.1.2.2.2.2.2.2.1 ∧ n0 ≤ r1294.2.2.1.2.2.2.2.2.2.2 := xy_le hm (show s.2.2.1.2.2.2.2.2.2.1 ≤ r1294.2.2.1.2.2.2.2.2.2.1 ∧ s.2.2.1.2.2.2.2.2.2.2 ≤ r1294.2.2.1.2.2.2.2.2.2.2 from (CM_put_IV (w := w) (h := h) hb (s := s) er1294).1)
      refine xy_V0 (nl := 4) (sm := s.2.2.1.2.2.2.2.2.2.1) (sn := s.2.2.1.2.2.2.2.2.2.2) (tm := r1294.2.2.1.2.2.2.2.2.2.1) (tn := r1294.2.2.1.2.2.2.2.2.2.2) (CM_put_IV hb (s := s) er1294) rfl rfl hm (fun _ => rfl) (fun _ => rfl) (fun _ => rfl) (fun _ => dM_whole_40) (fun _ R => kM_423 R) (fun _ => rfl) ⟨(Nat.le_of_ble_eq_true rfl), (Nat.le_of_ble_eq_true rfl)⟩ rfl rfl rfl (fun _ => rfl) (Nat.le_of_ble_eq_true rfl) ?_
      refine xy_r (xw_lload_n dM_whole_43 rfl) ?_
      refine xy_r (xw_ldc2 dM_whole_44 tw_1221) ?_
      refine xy_r (xw_ldiv dM_whole_47 (by decide)) ?_
      refine xy_r (xw_lstore_n dM_whole_48 (Nat.le_of_ble_eq_true rfl)) ?_
      refine xy_r (xw_Ln (L' := [some (.ref 2000), some (.long l1), none, some (.long (l3 / (10))), none]) rfl) ?_
      refine xy_r (xw_goto 21 dM_whole_49 (by decide)) ?_
      exact ih (s := r1294) hm1295 hF
set_option maxRecDepth 20000 in
theorem CM_whole_2 {w : xw_G} {h : xw_H} (hb : xMb h)  : ∀ (fu : Nat) {l1 : Int64} {l3 : Int64} {s : xMs} {out : xMs} {h0 : xw_H} {m0 n0 : Nat} (hm : m0 ≤ s.2.2.1.2.2.2.2.2.2.1 ∧ n0 ≤ s.2.2.1.2.2.2.2.2.2.2), FM_whole_2 fu l1 l3 s = some out → xw_Y w mM_whole 1 23 (xw_R none (mV out h)) h0 m0 n0 s.2.2.1.2.2.2.2.2.2.1 s.2.2.1.2.2.2.2.2.2.2 out.2.2.1.2.2.2.2.2.2.1 out.2.2.1.2.2.2.2.2.2.2 2 [some (.ref 2000), some (.long l1), none, some (.long l3), none] [] (mV s h) := by
  intro fu
  induction fu with
  | zero =>
    intro l1 l3 s out h0 m0 n0 hm hF
    rw [FM_whole_2] at hF
    cases hF
  | succ fu ih =>
    intro l1 l3 s out h0 m0 n0 hm hF
    rw [FM_whole_2] at hF
    refine xy_r (xw_lload_n dM_whole_2 rfl) ?_
    refine xy_r (xw_lload_n dM_whole_3 rfl) ?_
    obtain ⟨g1290, hF⟩ := xg_g hF
    refine xy_r (xw_ldiv dM_whole_4 g1290) ?_
    refine xy_r (xw_ldc2 dM_whole_5 tw_1337) ?_
    refine xy_r (xw_lcmp dM_whole_8) ?_
    refine xy_br (xw_if_le 21 dM_whole_9 (by decide)) (fun c1291 => ?_) (fun c1291 => ?_)
    · replace hF := xg_t c1291 hF
      exact CM_whole_21 hb xFuel (s := s) hm hF
    · replace hF := xg_f c1291 hF
      refine xy_r (xw_lload_n dM_whole_12 rfl) ?_
      refine xy_r (xw_ldc2 dM_whole_13 tw_1221) ?_
      refine xy_r (xw_lmul dM_whole_16) ?_
      refine xy_r (xw_lstore_n dM_whole_17 (Nat.le_of_ble_eq_true rfl)) ?_
      refine xy_r (xw_Ln (L' := [some (.ref 2000), some (.long l1), none, some (.long (l3 * (10))), none]) rfl) ?_
      refine xy_r (xw_goto 2 dM_whole_18 (by decide)) ?_
      exact ih (s := s) hm hF
set_option maxRecDepth 20000 in
theorem CM_whole {w : xw_G} {h : xw_H} (hb : xMb h) {x0 : Int64} {s : xMs} {out : xMs} (hF : FM_whole x0 s = some out) : (s.2.2.1.2.2.2.2.2.2.1 ≤ out.2.2.1.2.2.2.2.2.2.1 ∧ s.2.2.1.2.2.2.2.2.2.2 ≤ out.2.2.1.2.2.2.2.2.2.2) ∧ xw_C w (mM_whole { frames := 1, cells := out.2.2.1.2.2.2.2.2.2.1 - s.2.2.1.2.2.2.2.2.2.1, slots := out.2.2.1.2.2.2.2.2.2.2 - s.2.2.1.2.2.2.2.2.2.2, locals := 23 }) (xw_R none (mV out h)) [.ref 2000, .long x0] (mV s h) := by
  unfold FM_whole at hF
  refine xy_enter (L := [some (.ref 2000), some (.long x0), none, none, none]) (fun _ => rfl) (fun _ => rfl) (fun _ => (show plainName "FormulaShaperModel" = true by decide +kernel)) (fun _ => (Nat.le_of_ble_eq_true rfl)) (fun _ => rfl) ?_
  have hm : s.2.2.1.2.2.2.2.2.2.1 ≤ s.2.2.1.2.2.2.2.2.2.1 ∧ s.2.2.1.2.2.2.2.2.2.2 ≤ s.2.2.1.2.2.2.2.2.2.2 := ⟨Nat.le_refl _, Nat.le_refl _⟩
  refine xy_r (xw_lconst (1) dM_whole_0 (by decide)) ?_
  refine xy_r (xw_lstore_n dM_whole_1 (Nat.le_of_ble_eq_true rfl)) ?_
  refine xy_r (xw_Ln (L' := [some (.ref 2000), some (.long x0), none, some (.long 1), none]) rfl) ?_
  exact CM_whole_2 hb xFuel (s := s) hm hF
def FM_number_60 : Nat → Int64 → Int64 → xMs → Option xMs
  | 0, _, _, _ => none
  | fu + 1, l5, l7, s => if (lg_cmp l5 0) ≤ 0 then (some s) else (if ¬ l7 = 0 then ((FM_put_IV (Int64.toInt32 ((48) + (l5 / l7))) s).bind fun r1308 => if ¬ l7 = 0 then (FM_number_60 fu (l5 - l5 / l7 * l7) (l7 / (10)) r1308) else none) else none)
def FM_number_12 (l1 : Int64) (t0 : Int64) (s : xMs) : Option xMs := if 0 ≤ (lg_cmp l1 0) then ((FM_whole (t0 / (10000)) s).bind fun r1299 => if (lg_cmp (t0 - t0 / (10000) * (10000)) 0) = 0 then (some r1299) else ((FM_put_IV 46 r1299).bind fun r1303 => FM_number_60 xFuel (t0 - t0 / (10000) * (10000)) (1000) r1303)) else ((FM_put_IV 45 s).bind fun r1312 => (FM_whole (t0 / (10000)) r1312).bind fun r1315 => if (lg_cmp (t0 - t0 / (10000) * (10000)) 0) = 0 then (some r1315) else ((FM_put_IV 46 r1315).bind fun r1319 => FM_number_60 xFuel (t0 - t0 / (10000) * (10000)) (1000) r1319))
/-- FormulaShaperModel.number -/
def FM_number (x0 : Int64) (s : xMs) : Option xMs := if 0 ≤ (lg_cmp x0 0) then (FM_number_12 x0 x0 s) else (FM_number_12 x0 (-x0) s)
set_option maxRecDepth 20000 in
theorem CM_number_60 {w : xw_G} {h : xw_H} (hb : xMb h)  : ∀ (fu : Nat) {l5 : Int64} {l7 : Int64} {s : xMs} {out : xMs} {h0 : xw_H} {m0 n0 : Nat} (hm : m0 ≤ s.2.2.1.2.2.2.2.2.2.1 ∧ n0 ≤ s.2.2.1.2.2.2.2.2.2.2), FM_number_60 fu l5 l7 s = some out → xw_Y w mM_number 2 47 (xw_R none (mV out h)) h0 m0 n0 s.2.2.1.2.2.2.2.2.2.1 s.2.2.1.2.2.2.2.2.2.2 out.2.2.1.2.2.2.2.2.2.1 out.2.2.1.2.2.2.2.2.2.2 60 [some (.ref 2000), none, none, none, none, some (.long l5), none, some (.long l7), none] [] (mV s h) := by
  intro fu
  induction fu with
  | zero =>
    intro l5 l7 s out h0 m0 n0 hm hF
    rw [FM_number_60] at hF
    cases hF
  | succ fu ih =>
    intro l5 l7 s out h0 m0 n0 hm hF
    rw [FM_number_60] at hF
    refine xy_r (xw_lload dM_number_60 rfl) ?_
    refine xy_r (xw_lconst (0) dM_number_62 (by decide)) ?_
    refine xy_r (xw_lcmp dM_number_63) ?_
    refine xy_br (xw_if_le 99 dM_number_64 (by decide)) (fun c1306 => ?_) (fun c1306 => ?_)
    · replace hF := xg_t c1306 hF
      obtain rfl := Option.some.inj hF
      exact xy_end (xw_return dM_number_99 rfl (Nat.le_refl _) (Nat.le_refl _) ⟨rfl, rfl⟩)
    · replace hF := xg_f c1306 hF
      refine xy_r (xw_aload_n dM_number_67 rfl) ?_
      refine xy_r (xw_ldc2 dM_number_68 tw_1222) ?_
      refine xy_r (xw_lload dM_number_71 rfl) ?_
      refine xy_r (xw_lload dM_number_73 rfl) ?_
      obtain ⟨g1307, hF⟩ := xg_g hF
      refine xy_r (xw_ldiv dM_number_75 g1307) ?_
      refine xy_r (xw_ladd dM_number_76) ?_
      refine xy_r (xw_l2i dM_number_77) ?_
      obtain ⟨r1308, er1308, hF⟩ := xg_b hF
      have hm1309 : m0 ≤ r1308.2.2.1.2.2.2.2.2.2.1 ∧ n0 ≤ r1308.2.2.1.2.2.2.2.2.2.2 := xy_le hm (show s.2.2.1.2.2.2.2.2.2.1 ≤ r1308.2.2.1.2.2.2.2.2.2.1 ∧ s.2.2.1.2.2.2.2.2.2.2 ≤ r1308.2.2.1.2.2.2.2.2.2.2 from (CM_put_IV (w := w) (h := h) hb (s := s) er1308).1)
      refine xy_V0 (nl := 4) (sm := s.2.2.1.2.2.2.2.2.2.1) (sn := s.2.2.1.2.2.2.2.2.2.2) (tm := r1308.2.2.1.2.2.2.2.2.2.1) (tn := r1308.2.2.1.2.2.2.2.2.2.2) (CM_put_IV hb (s := s) er1308) rfl rfl hm (fun _ => rfl) (fun _ => rfl) (fun _ => rfl) (fun _ => dM_number_78) (fun _ R => kM_423 R) (fun _ => rfl) ⟨(Nat.le_of_ble_eq_true rfl), (Nat.le_of_ble_eq_true rfl)⟩ rfl rfl rfl (fun _ => rfl) (Nat.le_of_ble_eq_true rfl) ?_
      refine xy_r (xw_lload dM_number_81 rfl) ?_
      refine xy_r (xw_lload dM_number_83 rfl) ?_
      obtain ⟨g1311, hF⟩ := xg_g hF
      refine xy_r (xw_lrem dM_number_85 g1311) ?_
      refine xy_r (xw_lstore dM_number_86 (Nat.le_of_ble_eq_true rfl)) ?_
      refine xy_r (xw_Ln (L' := [some (.ref 2000), none, none, none, none, some (.long (l5 - l5 / l7 * l7)), none, some (.long l7), none]) rfl) ?_
      refine xy_r (xw_lload dM_number_88 rfl) ?_
      refine xy_r (xw_ldc2 dM_number_90 tw_1221) ?_
      refine xy_r (xw_ldiv dM_number_93 (by decide)) ?_
      refine xy_r (xw_lstore dM_number_94 (Nat.le_of_ble_eq_true rfl)) ?_
      refine xy_r (xw_Ln (L' := [some (.ref 2000), none, none, none, none, some (.long (l5 - l5 / l7 * l7)), none, some (.long (l7 / (10))), none]) rfl) ?_
      refine xy_r (xw_goto 60 dM_number_96 (by decide)) ?_
      exact ih (s := r1308) hm1309 hF
set_option maxRecDepth 20000 in
theorem CM_number_12 {w : xw_G} {h : xw_H} (hb : xMb h)  {l1 : Int64} {t0 : Int64} {s : xMs} {out : xMs} {h0 : xw_H} {m0 n0 : Nat} (hm : m0 ≤ s.2.2.1.2.2.2.2.2.2.1 ∧ n0 ≤ s.2.2.1.2.2.2.2.2.2.2) (hF : FM_number_12 l1 t0 s = some out) : xw_Y w mM_number 2 47 (xw_R none (mV out h)) h0 m0 n0 s.2.2.1.2.2.2.2.2.2.1 s.2.2.1.2.2.2.2.2.2.2 out.2.2.1.2.2.2.2.2.2.1 out.2.2.1.2.2.2.2.2.2.2 12 [some (.ref 2000), some (.long l1), none, none, none, none, none, none, none] [.long t0] (mV s h) := by
  unfold FM_number_12 at hF
  refine xy_r (xw_lstore_n dM_number_12 (Nat.le_of_ble_eq_true rfl)) ?_
  refine xy_r (xw_Ln (L' := [some (.ref 2000), some (.long l1), none, some (.long t0), none, none, none, none, none]) rfl) ?_
  refine xy_r (xw_lload_n dM_number_13 rfl) ?_
  refine xy_r (xw_lconst (0) dM_number_14 (by decide)) ?_
  refine xy_r (xw_lcmp dM_number_15) ?_
  refine xy_br (xw_if_ge 25 dM_number_16 (by decide)) (fun c1298 => ?_) (fun c1298 => ?_)
  · replace hF := xg_t c1298 hF
    refine xy_r (xw_aload_n dM_number_25 rfl) ?_
    refine xy_r (xw_lload_n dM_number_26 rfl) ?_
    refine xy_r (xw_ldc2 dM_number_27 tw_1223) ?_
    refine xy_r (xw_ldiv dM_number_30 (by decide)) ?_
    obtain ⟨r1299, er1299, hF⟩ := xg_b hF
    have hm1300 : m0 ≤ r1299.2.2.1.2.2.2.2.2.2.1 ∧ n0 ≤ r1299.2.2.1.2.2.2.2.2.2.2 := xy_le hm (show s.2.2.1.2.2.2.2.2.2.1 ≤ r1299.2.2.1.2.2.2.2.2.2.1 ∧ s.2.2.1.2.2.2.2.2.2.2 ≤ r1299.2.2.1.2.2.2.2.2.2.2 from (CM_whole (w := w) (h := h) hb (s := s) er1299).1)
    refine xy_V0 (nl := 5) (sm := s.2.2.1.2.2.2.2.2.2.1) (sn := s.2.2.1.2.2.2.2.2.2.2) (tm := r1299.2.2.1.2.2.2.2.2.2.1) (tn := r1299.2.2.1.2.2.2.2.2.2.2) (CM_whole hb (s := s) er1299) rfl rfl hm (fun _ => rfl) (fun _ => rfl) (fun _ => rfl) (fun _ => dM_number_31) (fun _ R => kM_426 R) (fun _ => rfl) ⟨(Nat.le_of_ble_eq_true rfl), (Nat.le_of_ble_eq_true rfl)⟩ rfl rfl rfl (fun _ => rfl) (Nat.le_of_ble_eq_true rfl) ?_
    refine xy_r (xw_lload_n dM_number_34 rfl) ?_
    refine xy_r (xw_ldc2 dM_number_35 tw_1223) ?_
    refine xy_r (xw_lrem dM_number_38 (by decide)) ?_
    refine xy_r (xw_lstore dM_number_39 (Nat.le_of_ble_eq_true rfl)) ?_
    refine xy_r (xw_Ln (L' := [some (.ref 2000), some (.long l1), none, some (.long t0), none, some (.long (t0 - t0 / (10000) * (10000))), none, none, none]) rfl) ?_
    refine xy_r (xw_lload dM_number_41 rfl) ?_
    refine xy_r (xw_lconst (0) dM_number_43 (by decide)) ?_
    refine xy_r (xw_lcmp dM_number_44) ?_
    refine xy_brn (xw_if_ne 49 dM_number_45 (by decide)) (fun c1302 => ?_) (fun c1302 => ?_)
    · replace hF := xg_f c1302 hF
      refine xy_r (xw_aload_n dM_number_49 rfl) ?_
      refine xy_r (xw_bipush (46) dM_number_50 (by decide)) ?_
      obtain ⟨r1303, er1303, hF⟩ := xg_b hF
      have hm1304 : m0 ≤ r1303.2.2.1.2.2.2.2.2.2.1 ∧ n0 ≤ r1303.2.2.1.2.2.2.2.2.2.2 := xy_le hm1300 (show r1299.2.2.1.2.2.2.2.2.2.1 ≤ r1303.2.2.1.2.2.2.2.2.2.1 ∧ r1299.2.2.1.2.2.2.2.2.2.2 ≤ r1303.2.2.1.2.2.2.2.2.2.2 from (CM_put_IV (w := w) (h := h) hb (s := r1299) er1303).1)
      refine xy_V0 (nl := 4) (sm := r1299.2.2.1.2.2.2.2.2.2.1) (sn := r1299.2.2.1.2.2.2.2.2.2.2) (tm := r1303.2.2.1.2.2.2.2.2.2.1) (tn := r1303.2.2.1.2.2.2.2.2.2.2) (CM_put_IV hb (s := r1299) er1303) rfl rfl hm1300 (fun _ => rfl) (fun _ => rfl) (fun _ => rfl) (fun _ => dM_number_52) (fun _ R => kM_423 R) (fun _ => rfl) ⟨(Nat.le_of_ble_eq_true rfl), (Nat.le_of_ble_eq_true rfl)⟩ rfl rfl rfl (fun _ => rfl) (Nat.le_of_ble_eq_true rfl) ?_
      refine xy_r (xw_ldc2 dM_number_55 tw_1228) ?_
      refine xy_r (xw_lstore dM_number_58 (Nat.le_of_ble_eq_true rfl)) ?_
      refine xy_r (xw_Ln (L' := [some (.ref 2000), some (.long l1), none, some (.long t0), none, some (.long (t0 - t0 / (10000) * (10000))), none, some (.long (1000)), none]) rfl) ?_
      refine xy_r (xw_drop (L' := [some (.ref 2000), none, none, none, none, some (.long (t0 - t0 / (10000) * (10000))), none, some (.long (1000)), none]) ⟨rfl, ⟨rfl, ⟨rfl, trivial⟩⟩⟩) ?_
      exact CM_number_60 hb xFuel (s := r1303) hm1304 hF
    · replace hF := xg_t c1302 hF
      obtain rfl := Option.some.inj hF
      exact xy_end (xw_return dM_number_48 rfl (Nat.le_refl _) (Nat.le_refl _) ⟨rfl, rfl⟩)
  · replace hF := xg_f c1298 hF
    refine xy_r (xw_aload_n dM_number_19 rfl) ?_
    refine xy_r (xw_bipush (45) dM_number_20 (by decide)) ?_
    obtain ⟨r1312, er1312, hF⟩ := xg_b hF
    have hm1313 : m0 ≤ r1312.2.2.1.2.2.2.2.2.2.1 ∧ n0 ≤ r1312.2.2.1.2.2.2.2.2.2.2 := xy_le hm (show s.2.2.1.2.2.2.2.2.2.1 ≤ r1312.2.2.1.2.2.2.2.2.2.1 ∧ s.2.2.1.2.2.2.2.2.2.2 ≤ r1312.2.2.1.2.2.2.2.2.2.2 from (CM_put_IV (w := w) (h := h) hb (s := s) er1312).1)
    refine xy_V0 (nl := 4) (sm := s.2.2.1.2.2.2.2.2.2.1) (sn := s.2.2.1.2.2.2.2.2.2.2) (tm := r1312.2.2.1.2.2.2.2.2.2.1) (tn := r1312.2.2.1.2.2.2.2.2.2.2) (CM_put_IV hb (s := s) er1312) rfl rfl hm (fun _ => rfl) (fun _ => rfl) (fun _ => rfl) (fun _ => dM_number_22) (fun _ R => kM_423 R) (fun _ => rfl) ⟨(Nat.le_of_ble_eq_true rfl), (Nat.le_of_ble_eq_true rfl)⟩ rfl rfl rfl (fun _ => rfl) (Nat.le_of_ble_eq_true rfl) ?_
    refine xy_r (xw_aload_n dM_number_25 rfl) ?_
    refine xy_r (xw_lload_n dM_number_26 rfl) ?_
    refine xy_r (xw_ldc2 dM_number_27 tw_1223) ?_
    refine xy_r (xw_ldiv dM_number_30 (by decide)) ?_
    obtain ⟨r1315, er1315, hF⟩ := xg_b hF
    have hm1316 : m0 ≤ r1315.2.2.1.2.2.2.2.2.2.1 ∧ n0 ≤ r1315.2.2.1.2.2.2.2.2.2.2 := xy_le hm1313 (show r1312.2.2.1.2.2.2.2.2.2.1 ≤ r1315.2.2.1.2.2.2.2.2.2.1 ∧ r1312.2.2.1.2.2.2.2.2.2.2 ≤ r1315.2.2.1.2.2.2.2.2.2.2 from (CM_whole (w := w) (h := h) hb (s := r1312) er1315).1)
    refine xy_V0 (nl := 5) (sm := r1312.2.2.1.2.2.2.2.2.2.1) (sn := r1312.2.2.1.2.2.2.2.2.2.2) (tm := r1315.2.2.1.2.2.2.2.2.2.1) (tn := r1315.2.2.1.2.2.2.2.2.2.2) (CM_whole hb (s := r1312) er1315) rfl rfl hm1313 (fun _ => rfl) (fun _ => rfl) (fun _ => rfl) (fun _ => dM_number_31) (fun _ R => kM_426 R) (fun _ => rfl) ⟨(Nat.le_of_ble_eq_true rfl), (Nat.le_of_ble_eq_true rfl)⟩ rfl rfl rfl (fun _ => rfl) (Nat.le_of_ble_eq_true rfl) ?_
    refine xy_r (xw_lload_n dM_number_34 rfl) ?_
    refine xy_r (xw_ldc2 dM_number_35 tw_1223) ?_
    refine xy_r (xw_lrem dM_number_38 (by decide)) ?_
    refine xy_r (xw_lstore dM_number_39 (Nat.le_of_ble_eq_true rfl)) ?_
    refine xy_r (xw_Ln (L' := [some (.ref 2000), some (.long l1), none, some (.long t0), none, some (.long (t0 - t0 / (10000) * (10000))), none, none, none]) rfl) ?_
    refine xy_r (xw_lload dM_number_41 rfl) ?_
    refine xy_r (xw_lconst (0) dM_number_43 (by decide)) ?_
    refine xy_r (xw_lcmp dM_number_44) ?_
    refine xy_brn (xw_if_ne 49 dM_number_45 (by decide)) (fun c1318 => ?_) (fun c1318 => ?_)
    · replace hF := xg_f c1318 hF
      refine xy_r (xw_aload_n dM_number_49 rfl) ?_
      refine xy_r (xw_bipush (46) dM_number_50 (by decide)) ?_
      obtain ⟨r1319, er1319, hF⟩ := xg_b hF
      have hm1320 : m0 ≤ r1319.2.2.1.2.2.2.2.2.2.1 ∧ n0 ≤ r1319.2.2.1.2.2.2.2.2.2.2 := xy_le hm1316 (show r1315.2.2.1.2.2.2.2.2.2.1 ≤ r1319.2.2.1.2.2.2.2.2.2.1 ∧ r1315.2.2.1.2.2.2.2.2.2.2 ≤ r1319.2.2.1.2.2.2.2.2.2.2 from (CM_put_IV (w := w) (h := h) hb (s := r1315) er1319).1)
      refine xy_V0 (nl := 4) (sm := r1315.2.2.1.2.2.2.2.2.2.1) (sn := r1315.2.2.1.2.2.2.2.2.2.2) (tm := r1319.2.2.1.2.2.2.2.2.2.1) (tn := r1319.2.2.1.2.2.2.2.2.2.2) (CM_put_IV hb (s := r1315) er1319) rfl rfl hm1316 (fun _ => rfl) (fun _ => rfl) (fun _ => rfl) (fun _ => dM_number_52) (fun _ R => kM_423 R) (fun _ => rfl) ⟨(Nat.le_of_ble_eq_true rfl), (Nat.le_of_ble_eq_true rfl)⟩ rfl rfl rfl (fun _ => rfl) (Nat.le_of_ble_eq_true rfl) ?_
      refine xy_r (xw_ldc2 dM_number_55 tw_1228) ?_
      refine xy_r (xw_lstore dM_number_58 (Nat.le_of_ble_eq_true rfl)) ?_
      refine xy_r (xw_Ln (L' := [some (.ref 2000), some (.long l1), none, some (.long t0), none, some (.long (t0 - t0 / (10000) * (10000))), none, some (.long (1000)), none]) rfl) ?_
      refine xy_r (xw_drop (L' := [some (.ref 2000), none, none, none, none, some (.long (t0 - t0 / (10000) * (10000))), none, some (.long (1000)), none]) ⟨rfl, ⟨rfl, ⟨rfl, trivial⟩⟩⟩) ?_
      exact CM_number_60 hb xFuel (s := r1319) hm1320 hF
    · replace hF := xg_t c1318 hF
      obtain rfl := Option.some.inj hF
      exact xy_end (xw_return dM_number_48 rfl (Nat.le_refl _) (Nat.le_refl _) ⟨rfl, rfl⟩)
set_option maxRecDepth 20000 in
theorem CM_number {w : xw_G} {h : xw_H} (hb : xMb h) {x0 : Int64} {s : xMs} {out : xMs} (hF : FM_number x0 s = some out) : (s.2.2.1.2.2.2.2.2.2.1 ≤ out.2.2.1.2.2.2.2.2.2.1 ∧ s.2.2.1.2.2.2.2.2.2.2 ≤ out.2.2.1.2.2.2.2.2.2.2) ∧ xw_C w (mM_number { frames := 2, cells := out.2.2.1.2.2.2.2.2.2.1 - s.2.2.1.2.2.2.2.2.2.1, slots := out.2.2.1.2.2.2.2.2.2.2 - s.2.2.1.2.2.2.2.2.2.2, locals := 47 }) (xw_R none (mV out h)) [.ref 2000, .long x0] (mV s h) := by
  unfold FM_number at hF
  refine xy_enter (L := [some (.ref 2000), some (.long x0), none, none, none, none, none, none, none]) (fun _ => rfl) (fun _ => rfl) (fun _ => (show plainName "FormulaShaperModel" = true by decide +kernel)) (fun _ => (Nat.le_of_ble_eq_true rfl)) (fun _ => rfl) ?_
  have hm : s.2.2.1.2.2.2.2.2.2.1 ≤ s.2.2.1.2.2.2.2.2.2.1 ∧ s.2.2.1.2.2.2.2.2.2.2 ≤ s.2.2.1.2.2.2.2.2.2.2 := ⟨Nat.le_refl _, Nat.le_refl _⟩
  refine xy_r (xw_lload_n dM_number_0 rfl) ?_
  refine xy_r (xw_lconst (0) dM_number_1 (by decide)) ?_
  refine xy_r (xw_lcmp dM_number_2) ?_
  refine xy_br (xw_if_ge 11 dM_number_3 (by decide)) (fun c1297 => ?_) (fun c1297 => ?_)
  · replace hF := xg_t c1297 hF
    refine xy_r (xw_lload_n dM_number_11 rfl) ?_
    exact CM_number_12 hb (s := s) hm hF
  · replace hF := xg_f c1297 hF
    refine xy_r (xw_lload_n dM_number_6 rfl) ?_
    refine xy_r (xw_lneg dM_number_7) ?_
    refine xy_r (xw_goto 12 dM_number_8 (by decide)) ?_
    exact CM_number_12 hb (s := s) hm hF
/-- FormulaShaperModel.cell -/
def FM_cell_IIZZV (x0 : Int32) (x1 : Int32) (x2 : Bool) (x3 : Bool) (s : xMs) : Option xMs := if x3 = true then ((FM_put_IV 36 s).bind fun r1336 => (FM_put_IV (65 + x1) r1336).bind fun r1339 => if x2 = true then ((FM_put_IV 36 r1339).bind fun r1346 => (FM_whole (Int32.toInt64 (x0 + 1)) r1346).bind fun r1349 => some r1349) else ((FM_whole (Int32.toInt64 (x0 + 1)) r1339).bind fun r1343 => some r1343)) else ((FM_put_IV (65 + x1) s).bind fun r1323 => if x2 = true then ((FM_put_IV 36 r1323).bind fun r1330 => (FM_whole (Int32.toInt64 (x0 + 1)) r1330).bind fun r1333 => some r1333) else ((FM_whole (Int32.toInt64 (x0 + 1)) r1323).bind fun r1327 => some r1327))
set_option maxRecDepth 20000 in
theorem CM_cell_IIZZV {w : xw_G} {h : xw_H} (hb : xMb h) {x0 : Int32} {x1 : Int32} {x2 : Bool} {x3 : Bool} {s : xMs} {out : xMs} (hF : FM_cell_IIZZV x0 x1 x2 x3 s = some out) : (s.2.2.1.2.2.2.2.2.2.1 ≤ out.2.2.1.2.2.2.2.2.2.1 ∧ s.2.2.1.2.2.2.2.2.2.2 ≤ out.2.2.1.2.2.2.2.2.2.2) ∧ xw_C w (mM_cell_IIZZV { frames := 2, cells := out.2.2.1.2.2.2.2.2.2.1 - s.2.2.1.2.2.2.2.2.2.1, slots := out.2.2.1.2.2.2.2.2.2.2 - s.2.2.1.2.2.2.2.2.2.2, locals := 47 }) (xw_R none (mV out h)) [.ref 2000, .int x0, .int x1, .int (xb x2), .int (xb x3)] (mV s h) := by
  unfold FM_cell_IIZZV at hF
  refine xy_enter (L := [some (.ref 2000), some (.int x0), some (.int x1), some (.int (xb x2)), some (.int (xb x3))]) (fun _ => rfl) (fun _ => rfl) (fun _ => (show plainName "FormulaShaperModel" = true by decide +kernel)) (fun _ => (Nat.le_of_ble_eq_true rfl)) (fun _ => rfl) ?_
  have hm : s.2.2.1.2.2.2.2.2.2.1 ≤ s.2.2.1.2.2.2.2.2.2.1 ∧ s.2.2.1.2.2.2.2.2.2.2 ≤ s.2.2.1.2.2.2.2.2.2.2 := ⟨Nat.le_refl _, Nat.le_refl _⟩
  refine xy_r (xw_iload dM_cell_IIZZV_0 rfl) ?_
  refine xy_brn (xw_if_eqB 11 dM_cell_IIZZV_2 (by decide)) (fun c1322 => ?_) (fun c1322 => ?_)
  · replace hF := xg_f c1322 hF
    refine xy_r (xw_aload_n dM_cell_IIZZV_11 rfl) ?_
    refine xy_r (xw_bipush (65) dM_cell_IIZZV_12 (by decide)) ?_
    refine xy_r (xw_iload_n dM_cell_IIZZV_14 rfl) ?_
    refine xy_r (xw_iadd dM_cell_IIZZV_15) ?_
    obtain ⟨r1323, er1323, hF⟩ := xg_b hF
    have hm1324 : s.2.2.1.2.2.2.2.2.2.1 ≤ r1323.2.2.1.2.2.2.2.2.2.1 ∧ s.2.2.1.2.2.2.2.2.2.2 ≤ r1323.2.2.1.2.2.2.2.2.2.2 := xy_le hm (show s.2.2.1.2.2.2.2.2.2.1 ≤ r1323.2.2.1.2.2.2.2.2.2.1 ∧ s.2.2.1.2.2.2.2.2.2.2 ≤ r1323.2.2.1.2.2.2.2.2.2.2 from (CM_put_IV (w := w) (h := h) hb (s := s) er1323).1)
    refine xy_V0 (nl := 4) (sm := s.2.2.1.2.2.2.2.2.2.1) (sn := s.2.2.1.2.2.2.2.2.2.2) (tm := r1323.2.2.1.2.2.2.2.2.2.1) (tn := r1323.2.2.1.2.2.2.2.2.2.2) (CM_put_IV hb (s := s) er1323) rfl rfl hm (fun _ => rfl) (fun _ => rfl) (fun _ => rfl) (fun _ => dM_cell_IIZZV_16) (fun _ R => kM_423 R) (fun _ => rfl) ⟨(Nat.le_of_ble_eq_true rfl), (Nat.le_of_ble_eq_true rfl)⟩ rfl rfl rfl (fun _ => rfl) (Nat.le_of_ble_eq_true rfl) ?_
    refine xy_r (xw_iload_n dM_cell_IIZZV_19 rfl) ?_
    refine xy_brn (xw_if_eqB 29 dM_cell_IIZZV_20 (by decide)) (fun c1326 => ?_) (fun c1326 => ?_)
    · replace hF := xg_f c1326 hF
      refine xy_r (xw_aload_n dM_cell_IIZZV_29 rfl) ?_
      refine xy_r (xw_iload_n dM_cell_IIZZV_30 rfl) ?_
      refine xy_r (xw_iconst (1) dM_cell_IIZZV_31 (by decide)) ?_
      refine xy_r (xw_iadd dM_cell_IIZZV_32) ?_
      refine xy_r (xw_i2l dM_cell_IIZZV_33) ?_
      obtain ⟨r1327, er1327, hF⟩ := xg_b hF
      have hm1328 : s.2.2.1.2.2.2.2.2.2.1 ≤ r1327.2.2.1.2.2.2.2.2.2.1 ∧ s.2.2.1.2.2.2.2.2.2.2 ≤ r1327.2.2.1.2.2.2.2.2.2.2 := xy_le hm1324 (show r1323.2.2.1.2.2.2.2.2.2.1 ≤ r1327.2.2.1.2.2.2.2.2.2.1 ∧ r1323.2.2.1.2.2.2.2.2.2.2 ≤ r1327.2.2.1.2.2.2.2.2.2.2 from (CM_whole (w := w) (h := h) hb (s := r1323) er1327).1)
      refine xy_V0 (nl := 5) (sm := r1323.2.2.1.2.2.2.2.2.2.1) (sn := r1323.2.2.1.2.2.2.2.2.2.2) (tm := r1327.2.2.1.2.2.2.2.2.2.1) (tn := r1327.2.2.1.2.2.2.2.2.2.2) (CM_whole hb (s := r1323) er1327) rfl rfl hm1324 (fun _ => rfl) (fun _ => rfl) (fun _ => rfl) (fun _ => dM_cell_IIZZV_34) (fun _ R => kM_426 R) (fun _ => rfl) ⟨(Nat.le_of_ble_eq_true rfl), (Nat.le_of_ble_eq_true rfl)⟩ rfl rfl rfl (fun _ => rfl) (Nat.le_of_ble_eq_true rfl) ?_
      obtain rfl := Option.some.inj hF
      exact xy_end (xw_return dM_cell_IIZZV_37 rfl (Nat.le_refl _) (Nat.le_refl _) ⟨rfl, rfl⟩)
    · replace hF := xg_t c1326 hF
      refine xy_r (xw_aload_n dM_cell_IIZZV_23 rfl) ?_
      refine xy_r (xw_bipush (36) dM_cell_IIZZV_24 (by decide)) ?_
      obtain ⟨r1330, er1330, hF⟩ := xg_b hF
      have hm1331 : s.2.2.1.2.2.2.2.2.2.1 ≤ r1330.2.2.1.2.2.2.2.2.2.1 ∧ s.2.2.1.2.2.2.2.2.2.2 ≤ r1330.2.2.1.2.2.2.2.2.2.2 := xy_le hm1324 (show r1323.2.2.1.2.2.2.2.2.2.1 ≤ r1330.2.2.1.2.2.2.2.2.2.1 ∧ r1323.2.2.1.2.2.2.2.2.2.2 ≤ r1330.2.2.1.2.2.2.2.2.2.2 from (CM_put_IV (w := w) (h := h) hb (s := r1323) er1330).1)
      refine xy_V0 (nl := 4) (sm := r1323.2.2.1.2.2.2.2.2.2.1) (sn := r1323.2.2.1.2.2.2.2.2.2.2) (tm := r1330.2.2.1.2.2.2.2.2.2.1) (tn := r1330.2.2.1.2.2.2.2.2.2.2) (CM_put_IV hb (s := r1323) er1330) rfl rfl hm1324 (fun _ => rfl) (fun _ => rfl) (fun _ => rfl) (fun _ => dM_cell_IIZZV_26) (fun _ R => kM_423 R) (fun _ => rfl) ⟨(Nat.le_of_ble_eq_true rfl), (Nat.le_of_ble_eq_true rfl)⟩ rfl rfl rfl (fun _ => rfl) (Nat.le_of_ble_eq_true rfl) ?_
      refine xy_r (xw_aload_n dM_cell_IIZZV_29 rfl) ?_
      refine xy_r (xw_iload_n dM_cell_IIZZV_30 rfl) ?_
      refine xy_r (xw_iconst (1) dM_cell_IIZZV_31 (by decide)) ?_
      refine xy_r (xw_iadd dM_cell_IIZZV_32) ?_
      refine xy_r (xw_i2l dM_cell_IIZZV_33) ?_
      obtain ⟨r1333, er1333, hF⟩ := xg_b hF
      have hm1334 : s.2.2.1.2.2.2.2.2.2.1 ≤ r1333.2.2.1.2.2.2.2.2.2.1 ∧ s.2.2.1.2.2.2.2.2.2.2 ≤ r1333.2.2.1.2.2.2.2.2.2.2 := xy_le hm1331 (show r1330.2.2.1.2.2.2.2.2.2.1 ≤ r1333.2.2.1.2.2.2.2.2.2.1 ∧ r1330.2.2.1.2.2.2.2.2.2.2 ≤ r1333.2.2.1.2.2.2.2.2.2.2 from (CM_whole (w := w) (h := h) hb (s := r1330) er1333).1)
      refine xy_V0 (nl := 5) (sm := r1330.2.2.1.2.2.2.2.2.2.1) (sn := r1330.2.2.1.2.2.2.2.2.2.2) (tm := r1333.2.2.1.2.2.2.2.2.2.1) (tn := r1333.2.2.1.2.2.2.2.2.2.2) (CM_whole hb (s := r1330) er1333) rfl rfl hm1331 (fun _ => rfl) (fun _ => rfl) (fun _ => rfl) (fun _ => dM_cell_IIZZV_34) (fun _ R => kM_426 R) (fun _ => rfl) ⟨(Nat.le_of_ble_eq_true rfl), (Nat.le_of_ble_eq_true rfl)⟩ rfl rfl rfl (fun _ => rfl) (Nat.le_of_ble_eq_true rfl) ?_
      obtain rfl := Option.some.inj hF
      exact xy_end (xw_return dM_cell_IIZZV_37 rfl (Nat.le_refl _) (Nat.le_refl _) ⟨rfl, rfl⟩)
  · replace hF := xg_t c1322 hF
    refine xy_r (xw_aload_n dM_cell_IIZZV_5 rfl) ?_
    refine xy_r (xw_bipush (36) dM_cell_IIZZV_6 (by decide)) ?_
    obtain ⟨r1336, er1336, hF⟩ := xg_b hF
    have hm1337 : s.2.2.1.2.2.2.2.2.2.1 ≤ r1336.2.2.1.2.2.2.2.2.2.1 ∧ s.2.2.1.2.2.2.2.2.2.2 ≤ r1336.2.2.1.2.2.2.2.2.2.2 := xy_le hm (show s.2.2.1.2.2.2.2.2.2.1 ≤ r1336.2.2.1.2.2.2.2.2.2.1 ∧ s.2.2.1.2.2.2.2.2.2.2 ≤ r1336.2.2.1.2.2.2.2.2.2.2 from (CM_put_IV (w := w) (h := h) hb (s := s) er1336).1)
    refine xy_V0 (nl := 4) (sm := s.2.2.1.2.2.2.2.2.2.1) (sn := s.2.2.1.2.2.2.2.2.2.2) (tm := r1336.2.2.1.2.2.2.2.2.2.1) (tn := r1336.2.2.1.2.2.2.2.2.2.2) (CM_put_IV hb (s := s) er1336) rfl rfl hm (fun _ => rfl) (fun _ => rfl) (fun _ => rfl) (fun _ => dM_cell_IIZZV_8) (fun _ R => kM_423 R) (fun _ => rfl) ⟨(Nat.le_of_ble_eq_true rfl), (Nat.le_of_ble_eq_true rfl)⟩ rfl rfl rfl (fun _ => rfl) (Nat.le_of_ble_eq_true rfl) ?_
    refine xy_r (xw_aload_n dM_cell_IIZZV_11 rfl) ?_
    refine xy_r (xw_bipush (65) dM_cell_IIZZV_12 (by decide)) ?_
    refine xy_r (xw_iload_n dM_cell_IIZZV_14 rfl) ?_
    refine xy_r (xw_iadd dM_cell_IIZZV_15) ?_
    obtain ⟨r1339, er1339, hF⟩ := xg_b hF
    have hm1340 : s.2.2.1.2.2.2.2.2.2.1 ≤ r1339.2.2.1.2.2.2.2.2.2.1 ∧ s.2.2.1.2.2.2.2.2.2.2 ≤ r1339.2.2.1.2.2.2.2.2.2.2 := xy_le hm1337 (show r1336.2.2.1.2.2.2.2.2.2.1 ≤ r1339.2.2.1.2.2.2.2.2.2.1 ∧ r1336.2.2.1.2.2.2.2.2.2.2 ≤ r1339.2.2.1.2.2.2.2.2.2.2 from (CM_put_IV (w := w) (h := h) hb (s := r1336) er1339).1)
    refine xy_V0 (nl := 4) (sm := r1336.2.2.1.2.2.2.2.2.2.1) (sn := r1336.2.2.1.2.2.2.2.2.2.2) (tm := r1339.2.2.1.2.2.2.2.2.2.1) (tn := r1339.2.2.1.2.2.2.2.2.2.2) (CM_put_IV hb (s := r1336) er1339) rfl rfl hm1337 (fun _ => rfl) (fun _ => rfl) (fun _ => rfl) (fun _ => dM_cell_IIZZV_16) (fun _ R => kM_423 R) (fun _ => rfl) ⟨(Nat.le_of_ble_eq_true rfl), (Nat.le_of_ble_eq_true rfl)⟩ rfl rfl rfl (fun _ => rfl) (Nat.le_of_ble_eq_true rfl) ?_
    refine xy_r (xw_iload_n dM_cell_IIZZV_19 rfl) ?_
    refine xy_brn (xw_if_eqB 29 dM_cell_IIZZV_20 (by decide)) (fun c1342 => ?_) (fun c1342 => ?_)
    · replace hF := xg_f c1342 hF
      refine xy_r (xw_aload_n dM_cell_IIZZV_29 rfl) ?_
      refine xy_r (xw_iload_n dM_cell_IIZZV_30 rfl) ?_
      refine xy_r (xw_iconst (1) dM_cell_IIZZV_31 (by decide)) ?_
      refine xy_r (xw_iadd dM_cell_IIZZV_32) ?_
      refine xy_r (xw_i2l dM_cell_IIZZV_33) ?_
      obtain ⟨r1343, er1343, hF⟩ := xg_b hF
      have hm1344 : s.2.2.1.2.2.2.2.2.2.1 ≤ r1343.2.2.1.2.2.2.2.2.2.1 ∧ s.2.2.1.2.2.2.2.2.2.2 ≤ r1343.2.2.1.2.2.2.2.2.2.2 := xy_le hm1340 (show r1339.2.2.1.2.2.2.2.2.2.1 ≤ r1343.2.2.1.2.2.2.2.2.2.1 ∧ r1339.2.2.1.2.2.2.2.2.2.2 ≤ r1343.2.2.1.2.2.2.2.2.2.2 from (CM_whole (w := w) (h := h) hb (s := r1339) er1343).1)
      refine xy_V0 (nl := 5) (sm := r1339.2.2.1.2.2.2.2.2.2.1) (sn := r1339.2.2.1.2.2.2.2.2.2.2) (tm := r1343.2.2.1.2.2.2.2.2.2.1) (tn := r1343.2.2.1.2.2.2.2.2.2.2) (CM_whole hb (s := r1339) er1343) rfl rfl hm1340 (fun _ => rfl) (fun _ => rfl) (fun _ => rfl) (fun _ => dM_cell_IIZZV_34) (fun _ R => kM_426 R) (fun _ => rfl) ⟨(Nat.le_of_ble_eq_true rfl), (Nat.le_of_ble_eq_true rfl)⟩ rfl rfl rfl (fun _ => rfl) (Nat.le_of_ble_eq_true rfl) ?_
      obtain rfl := Option.some.inj hF
      exact xy_end (xw_return dM_cell_IIZZV_37 rfl (Nat.le_refl _) (Nat.le_refl _) ⟨rfl, rfl⟩)
    · replace hF := xg_t c1342 hF
      refine xy_r (xw_aload_n dM_cell_IIZZV_23 rfl) ?_
      refine xy_r (xw_bipush (36) dM_cell_IIZZV_24 (by decide)) ?_
      obtain ⟨r1346, er1346, hF⟩ := xg_b hF
      have hm1347 : s.2.2.1.2.2.2.2.2.2.1 ≤ r1346.2.2.1.2.2.2.2.2.2.1 ∧ s.2.2.1.2.2.2.2.2.2.2 ≤ r1346.2.2.1.2.2.2.2.2.2.2 := xy_le hm1340 (show r1339.2.2.1.2.2.2.2.2.2.1 ≤ r1346.2.2.1.2.2.2.2.2.2.1 ∧ r1339.2.2.1.2.2.2.2.2.2.2 ≤ r1346.2.2.1.2.2.2.2.2.2.2 from (CM_put_IV (w := w) (h := h) hb (s := r1339) er1346).1)
      refine xy_V0 (nl := 4) (sm := r1339.2.2.1.2.2.2.2.2.2.1) (sn := r1339.2.2.1.2.2.2.2.2.2.2) (tm := r1346.2.2.1.2.2.2.2.2.2.1) (tn := r1346.2.2.1.2.2.2.2.2.2.2) (CM_put_IV hb (s := r1339) er1346) rfl rfl hm1340 (fun _ => rfl) (fun _ => rfl) (fun _ => rfl) (fun _ => dM_cell_IIZZV_26) (fun _ R => kM_423 R) (fun _ => rfl) ⟨(Nat.le_of_ble_eq_true rfl), (Nat.le_of_ble_eq_true rfl)⟩ rfl rfl rfl (fun _ => rfl) (Nat.le_of_ble_eq_true rfl) ?_
      refine xy_r (xw_aload_n dM_cell_IIZZV_29 rfl) ?_
      refine xy_r (xw_iload_n dM_cell_IIZZV_30 rfl) ?_
      refine xy_r (xw_iconst (1) dM_cell_IIZZV_31 (by decide)) ?_
      refine xy_r (xw_iadd dM_cell_IIZZV_32) ?_
      refine xy_r (xw_i2l dM_cell_IIZZV_33) ?_
      obtain ⟨r1349, er1349, hF⟩ := xg_b hF
      have hm1350 : s.2.2.1.2.2.2.2.2.2.1 ≤ r1349.2.2.1.2.2.2.2.2.2.1 ∧ s.2.2.1.2.2.2.2.2.2.2 ≤ r1349.2.2.1.2.2.2.2.2.2.2 := xy_le hm1347 (show r1346.2.2.1.2.2.2.2.2.2.1 ≤ r1349.2.2.1.2.2.2.2.2.2.1 ∧ r1346.2.2.1.2.2.2.2.2.2.2 ≤ r1349.2.2.1.2.2.2.2.2.2.2 from (CM_whole (w := w) (h := h) hb (s := r1346) er1349).1)
      refine xy_V0 (nl := 5) (sm := r1346.2.2.1.2.2.2.2.2.2.1) (sn := r1346.2.2.1.2.2.2.2.2.2.2) (tm := r1349.2.2.1.2.2.2.2.2.2.1) (tn := r1349.2.2.1.2.2.2.2.2.2.2) (CM_whole hb (s := r1346) er1349) rfl rfl hm1347 (fun _ => rfl) (fun _ => rfl) (fun _ => rfl) (fun _ => dM_cell_IIZZV_34) (fun _ R => kM_426 R) (fun _ => rfl) ⟨(Nat.le_of_ble_eq_true rfl), (Nat.le_of_ble_eq_true rfl)⟩ rfl rfl rfl (fun _ => rfl) (Nat.le_of_ble_eq_true rfl) ?_
      obtain rfl := Option.some.inj hF
      exact xy_end (xw_return dM_cell_IIZZV_37 rfl (Nat.le_refl _) (Nat.le_refl _) ⟨rfl, rfl⟩)
def FM_showWord_21 : Nat → Int64 → Int64 → xMs → Option xMs
  | 0, _, _, _ => none
  | fu + 1, l1, l3, s => if (lg_cmp l3 0) ≤ 0 then (some s) else (if ¬ l3 = 0 then (if 26 < (Int64.toInt32 ((l1 / l3) - (l1 / l3) / (38) * (38))) then (if 36 < (Int64.toInt32 ((l1 / l3) - (l1 / l3) / (38) * (38))) then ((FM_put_IV 95 s).bind fun r1358 => FM_showWord_21 fu l1 (l3 / (38)) r1358) else ((FM_put_IV ((48 + (Int64.toInt32 ((l1 / l3) - (l1 / l3) / (38) * (38)))) - 27) s).bind fun r1361 => FM_showWord_21 fu l1 (l3 / (38)) r1361)) else ((FM_put_IV ((65 + (Int64.toInt32 ((l1 / l3) - (l1 / l3) / (38) * (38)))) - 1) s).bind fun r1364 => FM_showWord_21 fu l1 (l3 / (38)) r1364)) else none)
def FM_showWord_2 : Nat → Int64 → Int64 → xMs → Option xMs
  | 0, _, _, _ => none
  | fu + 1, l1, l3, s => if ¬ l3 = 0 then (if (lg_cmp (l1 / l3) (37)) ≤ 0 then (FM_showWord_21 xFuel l1 l3 s) else (FM_showWord_2 fu l1 (l3 * (38)) s)) else none
/-- FormulaShaperModel.showWord -/
def FM_showWord (x0 : Int64) (s : xMs) : Option xMs := FM_showWord_2 xFuel x0 1 s
set_option maxRecDepth 20000 in
theorem CM_showWord_21 {w : xw_G} {h : xw_H} (hb : xMb h)  : ∀ (fu : Nat) {l1 : Int64} {l3 : Int64} {s : xMs} {out : xMs} {h0 : xw_H} {m0 n0 : Nat} (hm : m0 ≤ s.2.2.1.2.2.2.2.2.2.1 ∧ n0 ≤ s.2.2.1.2.2.2.2.2.2.2), FM_showWord_21 fu l1 l3 s = some out → xw_Y w mM_showWord 1 23 (xw_R none (mV out h)) h0 m0 n0 s.2.2.1.2.2.2.2.2.2.1 s.2.2.1.2.2.2.2.2.2.2 out.2.2.1.2.2.2.2.2.2.1 out.2.2.1.2.2.2.2.2.2.2 21 [some (.ref 2000), some (.long l1), none, some (.long l3), none, none] [] (mV s h) := by
  intro fu
  induction fu with
  | zero =>
    intro l1 l3 s out h0 m0 n0 hm hF
    rw [FM_showWord_21] at hF
    cases hF
  | succ fu ih =>
    intro l1 l3 s out h0 m0 n0 hm hF
    rw [FM_showWord_21] at hF
    refine xy_r (xw_lload_n dM_showWord_21 rfl) ?_
    refine xy_r (xw_lconst (0) dM_showWord_22 (by decide)) ?_
    refine xy_r (xw_lcmp dM_showWord_23) ?_
    refine xy_br (xw_if_le 87 dM_showWord_24 (by decide)) (fun c1354 => ?_) (fun c1354 => ?_)
    · replace hF := xg_t c1354 hF
      obtain rfl := Option.some.inj hF
      exact xy_end (xw_return dM_showWord_87 rfl (Nat.le_refl _) (Nat.le_refl _) ⟨rfl, rfl⟩)
    · replace hF := xg_f c1354 hF
      refine xy_r (xw_lload_n dM_showWord_27 rfl) ?_
      refine xy_r (xw_lload_n dM_showWord_28 rfl) ?_
      obtain ⟨g1355, hF⟩ := xg_g hF
      refine xy_r (xw_ldiv dM_showWord_29 g1355) ?_
      refine xy_r (xw_ldc2 dM_showWord_30 tw_961) ?_
      refine xy_r (xw_lrem dM_showWord_33 (by decide)) ?_
      refine xy_r (xw_l2i dM_showWord_34) ?_
      refine xy_r (xw_istore dM_showWord_35 (Nat.le_of_ble_eq_true rfl)) ?_
      refine xy_r (xw_Ln (L' := [some (.ref 2000), some (.long l1), none, some (.long l3), none, some (.int (Int64.toInt32 ((l1 / l3) - (l1 / l3) / (38) * (38))))]) rfl) ?_
      refine xy_r (xw_aload_n dM_showWord_37 rfl) ?_
      refine xy_r (xw_iload dM_showWord_38 rfl) ?_
      refine xy_r (xw_bipush (26) dM_showWord_40 (by decide)) ?_
      refine xy_br (xw_icmp_gt 55 dM_showWord_42 (by decide)) (fun c1356 => ?_) (fun c1356 => ?_)
      · replace hF := xg_t c1356 hF
        refine xy_r (xw_iload dM_showWord_55 rfl) ?_
        refine xy_r (xw_bipush (36) dM_showWord_57 (by decide)) ?_
        refine xy_br (xw_icmp_gt 73 dM_showWord_59 (by decide)) (fun c1357 => ?_) (fun c1357 => ?_)
        · replace hF := xg_t c1357 hF
          refine xy_r (xw_bipush (95) dM_showWord_73 (by decide)) ?_
          obtain ⟨r1358, er1358, hF⟩ := xg_b hF
          have hm1359 : m0 ≤ r1358.2.2.1.2.2.2.2.2.2.1 ∧ n0 ≤ r1358.2.2.1.2.2.2.2.2.2.2 := xy_le hm (show s.2.2.1.2.2.2.2.2.2.1 ≤ r1358.2.2.1.2.2.2.2.2.2.1 ∧ s.2.2.1.2.2.2.2.2.2.2 ≤ r1358.2.2.1.2.2.2.2.2.2.2 from (CM_put_IV (w := w) (h := h) hb (s := s) er1358).1)
          refine xy_V0 (nl := 4) (sm := s.2.2.1.2.2.2.2.2.2.1) (sn := s.2.2.1.2.2.2.2.2.2.2) (tm := r1358.2.2.1.2.2.2.2.2.2.1) (tn := r1358.2.2.1.2.2.2.2.2.2.2) (CM_put_IV hb (s := s) er1358) rfl rfl hm (fun _ => rfl) (fun _ => rfl) (fun _ => rfl) (fun _ => dM_showWord_75) (fun _ R => kM_423 R) (fun _ => rfl) ⟨(Nat.le_of_ble_eq_true rfl), (Nat.le_of_ble_eq_true rfl)⟩ rfl rfl rfl (fun _ => rfl) (Nat.le_of_ble_eq_true rfl) ?_
          refine xy_r (xw_lload_n dM_showWord_78 rfl) ?_
          refine xy_r (xw_ldc2 dM_showWord_79 tw_961) ?_
          refine xy_r (xw_ldiv dM_showWord_82 (by decide)) ?_
          refine xy_r (xw_lstore_n dM_showWord_83 (Nat.le_of_ble_eq_true rfl)) ?_
          refine xy_r (xw_Ln (L' := [some (.ref 2000), some (.long l1), none, some (.long (l3 / (38))), none, some (.int (Int64.toInt32 ((l1 / l3) - (l1 / l3) / (38) * (38))))]) rfl) ?_
          refine xy_r (xw_goto 21 dM_showWord_84 (by decide)) ?_
          refine xy_r (xw_drop (L' := [some (.ref 2000), some (.long l1), none, some (.long (l3 / (38))), none, none]) ⟨rfl, ⟨rfl, ⟨rfl, trivial⟩⟩⟩) ?_
          exact ih (s := r1358) hm1359 hF
        · replace hF := xg_f c1357 hF
          refine xy_r (xw_bipush (48) dM_showWord_62 (by decide)) ?_
          refine xy_r (xw_iload dM_showWord_64 rfl) ?_
          refine xy_r (xw_iadd dM_showWord_66) ?_
          refine xy_r (xw_bipush (27) dM_showWord_67 (by decide)) ?_
          refine xy_r (xw_isub dM_showWord_69) ?_
          refine xy_r (xw_goto 75 dM_showWord_70 (by decide)) ?_
          obtain ⟨r1361, er1361, hF⟩ := xg_b hF
          have hm1362 : m0 ≤ r1361.2.2.1.2.2.2.2.2.2.1 ∧ n0 ≤ r1361.2.2.1.2.2.2.2.2.2.2 := xy_le hm (show s.2.2.1.2.2.2.2.2.2.1 ≤ r1361.2.2.1.2.2.2.2.2.2.1 ∧ s.2.2.1.2.2.2.2.2.2.2 ≤ r1361.2.2.1.2.2.2.2.2.2.2 from (CM_put_IV (w := w) (h := h) hb (s := s) er1361).1)
          refine xy_V0 (nl := 4) (sm := s.2.2.1.2.2.2.2.2.2.1) (sn := s.2.2.1.2.2.2.2.2.2.2) (tm := r1361.2.2.1.2.2.2.2.2.2.1) (tn := r1361.2.2.1.2.2.2.2.2.2.2) (CM_put_IV hb (s := s) er1361) rfl rfl hm (fun _ => rfl) (fun _ => rfl) (fun _ => rfl) (fun _ => dM_showWord_75) (fun _ R => kM_423 R) (fun _ => rfl) ⟨(Nat.le_of_ble_eq_true rfl), (Nat.le_of_ble_eq_true rfl)⟩ rfl rfl rfl (fun _ => rfl) (Nat.le_of_ble_eq_true rfl) ?_
          refine xy_r (xw_lload_n dM_showWord_78 rfl) ?_
          refine xy_r (xw_ldc2 dM_showWord_79 tw_961) ?_
          refine xy_r (xw_ldiv dM_showWord_82 (by decide)) ?_
          refine xy_r (xw_lstore_n dM_showWord_83 (Nat.le_of_ble_eq_true rfl)) ?_
          refine xy_r (xw_Ln (L' := [some (.ref 2000), some (.long l1), none, some (.long (l3 / (38))), none, some (.int (Int64.toInt32 ((l1 / l3) - (l1 / l3) / (38) * (38))))]) rfl) ?_
          refine xy_r (xw_goto 21 dM_showWord_84 (by decide)) ?_
          refine xy_r (xw_drop (L' := [some (.ref 2000), some (.long l1), none, some (.long (l3 / (38))), none, none]) ⟨rfl, ⟨rfl, ⟨rfl, trivial⟩⟩⟩) ?_
          exact ih (s := r1361) hm1362 hF
      · replace hF := xg_f c1356 hF
        refine xy_r (xw_bipush (65) dM_showWord_45 (by decide)) ?_
        refine xy_r (xw_iload dM_showWord_47 rfl) ?_
        refine xy_r (xw_iadd dM_showWord_49) ?_
        refine xy_r (xw_iconst (1) dM_showWord_50 (by decide)) ?_
        refine xy_r (xw_isub dM_showWord_51) ?_
        refine xy_r (xw_goto 75 dM_showWord_52 (by decide)) ?_
        obtain ⟨r1364, er1364, hF⟩ := xg_b hF
        have hm1365 : m0 ≤ r1364.2.2.1.2.2.2.2.2.2.1 ∧ n0 ≤ r1364.2.2.1.2.2.2.2.2.2.2 := xy_le hm (show s.2.2.1.2.2.2.2.2.2.1 ≤ r1364.2.2.1.2.2.2.2.2.2.1 ∧ s.2.2.1.2.2.2.2.2.2.2 ≤ r1364.2.2.1.2.2.2.2.2.2.2 from (CM_put_IV (w := w) (h := h) hb (s := s) er1364).1)
        refine xy_V0 (nl := 4) (sm := s.2.2.1.2.2.2.2.2.2.1) (sn := s.2.2.1.2.2.2.2.2.2.2) (tm := r1364.2.2.1.2.2.2.2.2.2.1) (tn := r1364.2.2.1.2.2.2.2.2.2.2) (CM_put_IV hb (s := s) er1364) rfl rfl hm (fun _ => rfl) (fun _ => rfl) (fun _ => rfl) (fun _ => dM_showWord_75) (fun _ R => kM_423 R) (fun _ => rfl) ⟨(Nat.le_of_ble_eq_true rfl), (Nat.le_of_ble_eq_true rfl)⟩ rfl rfl rfl (fun _ => rfl) (Nat.le_of_ble_eq_true rfl) ?_
        refine xy_r (xw_lload_n dM_showWord_78 rfl) ?_
        refine xy_r (xw_ldc2 dM_showWord_79 tw_961) ?_
        refine xy_r (xw_ldiv dM_showWord_82 (by decide)) ?_
        refine xy_r (xw_lstore_n dM_showWord_83 (Nat.le_of_ble_eq_true rfl)) ?_
        refine xy_r (xw_Ln (L' := [some (.ref 2000), some (.long l1), none, some (.long (l3 / (38))), none, some (.int (Int64.toInt32 ((l1 / l3) - (l1 / l3) / (38) * (38))))]) rfl) ?_
        refine xy_r (xw_goto 21 dM_showWord_84 (by decide)) ?_
        refine xy_r (xw_drop (L' := [some (.ref 2000), some (.long l1), none, some (.long (l3 / (38))), none, none]) ⟨rfl, ⟨rfl, ⟨rfl, trivial⟩⟩⟩) ?_
        exact ih (s := r1364) hm1365 hF
set_option maxRecDepth 20000 in
theorem CM_showWord_2 {w : xw_G} {h : xw_H} (hb : xMb h)  : ∀ (fu : Nat) {l1 : Int64} {l3 : Int64} {s : xMs} {out : xMs} {h0 : xw_H} {m0 n0 : Nat} (hm : m0 ≤ s.2.2.1.2.2.2.2.2.2.1 ∧ n0 ≤ s.2.2.1.2.2.2.2.2.2.2), FM_showWord_2 fu l1 l3 s = some out → xw_Y w mM_showWord 1 23 (xw_R none (mV out h)) h0 m0 n0 s.2.2.1.2.2.2.2.2.2.1 s.2.2.1.2.2.2.2.2.2.2 out.2.2.1.2.2.2.2.2.2.1 out.2.2.1.2.2.2.2.2.2.2 2 [some (.ref 2000), some (.long l1), none, some (.long l3), none, none] [] (mV s h) := by
  intro fu
  induction fu with
  | zero =>
    intro l1 l3 s out h0 m0 n0 hm hF
    rw [FM_showWord_2] at hF
    cases hF
  | succ fu ih =>
    intro l1 l3 s out h0 m0 n0 hm hF
    rw [FM_showWord_2] at hF
    refine xy_r (xw_lload_n dM_showWord_2 rfl) ?_
    refine xy_r (xw_lload_n dM_showWord_3 rfl) ?_
    obtain ⟨g1352, hF⟩ := xg_g hF
    refine xy_r (xw_ldiv dM_showWord_4 g1352) ?_
    refine xy_r (xw_ldc2 dM_showWord_5 tw_1346) ?_
    refine xy_r (xw_lcmp dM_showWord_8) ?_
    refine xy_br (xw_if_le 21 dM_showWord_9 (by decide)) (fun c1353 => ?_) (fun c1353 => ?_)
    · replace hF := xg_t c1353 hF
      exact CM_showWord_21 hb xFuel (s := s) hm hF
    · replace hF := xg_f c1353 hF
      refine xy_r (xw_lload_n dM_showWord_12 rfl) ?_
      refine xy_r (xw_ldc2 dM_showWord_13 tw_961) ?_
      refine xy_r (xw_lmul dM_showWord_16) ?_
      refine xy_r (xw_lstore_n dM_showWord_17 (Nat.le_of_ble_eq_true rfl)) ?_
      refine xy_r (xw_Ln (L' := [some (.ref 2000), some (.long l1), none, some (.long (l3 * (38))), none, none]) rfl) ?_
      refine xy_r (xw_goto 2 dM_showWord_18 (by decide)) ?_
      exact ih (s := s) hm hF
set_option maxRecDepth 20000 in
theorem CM_showWord {w : xw_G} {h : xw_H} (hb : xMb h) {x0 : Int64} {s : xMs} {out : xMs} (hF : FM_showWord x0 s = some out) : (s.2.2.1.2.2.2.2.2.2.1 ≤ out.2.2.1.2.2.2.2.2.2.1 ∧ s.2.2.1.2.2.2.2.2.2.2 ≤ out.2.2.1.2.2.2.2.2.2.2) ∧ xw_C w (mM_showWord { frames := 1, cells := out.2.2.1.2.2.2.2.2.2.1 - s.2.2.1.2.2.2.2.2.2.1, slots := out.2.2.1.2.2.2.2.2.2.2 - s.2.2.1.2.2.2.2.2.2.2, locals := 23 }) (xw_R none (mV out h)) [.ref 2000, .long x0] (mV s h) := by
  unfold FM_showWord at hF
  refine xy_enter (L := [some (.ref 2000), some (.long x0), none, none, none, none]) (fun _ => rfl) (fun _ => rfl) (fun _ => (show plainName "FormulaShaperModel" = true by decide +kernel)) (fun _ => (Nat.le_of_ble_eq_true rfl)) (fun _ => rfl) ?_
  have hm : s.2.2.1.2.2.2.2.2.2.1 ≤ s.2.2.1.2.2.2.2.2.2.1 ∧ s.2.2.1.2.2.2.2.2.2.2 ≤ s.2.2.1.2.2.2.2.2.2.2 := ⟨Nat.le_refl _, Nat.le_refl _⟩
  refine xy_r (xw_lconst (1) dM_showWord_0 (by decide)) ?_
  refine xy_r (xw_lstore_n dM_showWord_1 (Nat.le_of_ble_eq_true rfl)) ?_
  refine xy_r (xw_Ln (L' := [some (.ref 2000), some (.long x0), none, some (.long 1), none, none]) rfl) ?_
  exact CM_showWord_2 hb xFuel (s := s) hm hF
