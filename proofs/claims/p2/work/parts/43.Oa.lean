/-- FormulaShaperModel.parsed -/
def FM_parsed  (s : xMs) : Option (xo Nat xMs) := xo_b (FM_formula 2003 0 s.1.2.2.2.2.1 (s.1, s.2.1, (0, s.2.2.1.2), s.2.2.2)) fun r1789 => some (.inl (r1789.1, r1789.2))
set_option maxRecDepth 20000 in
theorem CM_parsed {w : xw_G} {h : xw_H} (hb : xMb h)  {s : xMs} {out : (xo Nat xMs)} (hF : FM_parsed  s = some out) : (s.2.2.1.2.2.2.2.2.2.1 ≤ (xo_s out).2.2.1.2.2.2.2.2.2.1 ∧ s.2.2.1.2.2.2.2.2.2.2 ≤ (xo_s out).2.2.1.2.2.2.2.2.2.2) ∧ xw_C w (mM_parsed { frames := 152, cells := (xo_s out).2.2.1.2.2.2.2.2.2.1 - s.2.2.1.2.2.2.2.2.2.1, slots := (xo_s out).2.2.1.2.2.2.2.2.2.2 - s.2.2.1.2.2.2.2.2.2.2, locals := 8447 }) (xo_P (fun x => some (.ref (xn x))) (fun s => mV s h) out) [.ref 2000] (mV s h) := by
  unfold FM_parsed at hF
  refine xy_enter (L := [some (.ref 2000)]) (fun _ => rfl) (fun _ => rfl) (fun _ => (show plainName "FormulaShaperModel" = true by decide +kernel)) (fun _ => (Nat.le_of_ble_eq_true rfl)) (fun _ => rfl) ?_
  have hm : s.2.2.1.2.2.2.2.2.2.1 ≤ s.2.2.1.2.2.2.2.2.2.1 ∧ s.2.2.1.2.2.2.2.2.2.2 ≤ s.2.2.1.2.2.2.2.2.2.2 := ⟨Nat.le_refl _, Nat.le_refl _⟩
  refine xy_r (xw_aload_n dM_parsed_0 rfl) ?_
  refine xy_r (xw_iconst (0) dM_parsed_1 (by decide)) ?_
  refine xy_r (xg_put dM_parsed_2 fM_188 rfl (by decide) (Nat.le_of_ble_eq_true rfl) (fun _ => rfl) (fun _ => rfl) (mV_o (s' := (s.1, s.2.1, (0, s.2.2.1.2), s.2.2.2)) rfl)) ?_
  refine xy_r (xw_aload_n dM_parsed_5 rfl) ?_
  refine xy_r (xw_aload_n dM_parsed_6 rfl) ?_
  refine xy_r (xw_get dM_parsed_7 fM_20 rfl rfl) ?_
  refine xy_r (xw_iconst (0) dM_parsed_10 (by decide)) ?_
  refine xy_r (xw_aload_n dM_parsed_11 rfl) ?_
  refine xy_r (xw_get dM_parsed_12 fM_487 rfl rfl) ?_
  rcases xg_o hF with ⟨r1789, er1789, hF⟩ | ⟨r1789, er1789, hF⟩
  · have hm1790 : s.2.2.1.2.2.2.2.2.2.1 ≤ r1789.2.2.2.1.2.2.2.2.2.2.1 ∧ s.2.2.1.2.2.2.2.2.2.2 ≤ r1789.2.2.2.1.2.2.2.2.2.2.2 := xy_le hm (show s.2.2.1.2.2.2.2.2.2.1 ≤ r1789.2.2.2.1.2.2.2.2.2.2.1 ∧ s.2.2.1.2.2.2.2.2.2.2 ≤ r1789.2.2.2.1.2.2.2.2.2.2.2 from (CM_formula (w := w) (h := h) hb (s := (s.1, s.2.1, (0, s.2.2.1.2), s.2.2.2)) er1789).1)
    refine xy_V1 (nl := 5) (sm := s.2.2.1.2.2.2.2.2.2.1) (sn := s.2.2.1.2.2.2.2.2.2.2) (tm := r1789.2.2.2.1.2.2.2.2.2.2.1) (tn := r1789.2.2.2.1.2.2.2.2.2.2.2) (CM_formula hb (s := (s.1, s.2.1, (0, s.2.2.1.2), s.2.2.2)) er1789) rfl rfl hm (fun _ => rfl) (fun _ => rfl) (fun _ => rfl) (fun _ => dM_parsed_15) (fun _ R => kM_490 R) (fun _ => rfl) ⟨(Nat.le_of_ble_eq_true rfl), (Nat.le_of_ble_eq_true rfl)⟩ rfl rfl rfl (fun _ => rfl) (Nat.le_of_ble_eq_true rfl) ?_
    obtain rfl := Option.some.inj hF
    exact xy_end (xw_areturn dM_parsed_18 rfl (Or.inl ⟨_, rfl⟩) (Nat.le_refl _) (Nat.le_refl _) ⟨rfl, rfl⟩)
  · subst hF
    exact xy_Vt (nl := 5) (sm := s.2.2.1.2.2.2.2.2.2.1) (sn := s.2.2.1.2.2.2.2.2.2.2) (tm := r1789.2.2.2.1.2.2.2.2.2.2.1) (tn := r1789.2.2.2.1.2.2.2.2.2.2.2) (CM_formula hb (s := (s.1, s.2.1, (0, s.2.2.1.2), s.2.2.2)) er1789) rfl rfl hm (fun _ => rfl) (fun _ => rfl) (fun _ => rfl) (fun _ => dM_parsed_15) (fun _ R => kM_490 R) (fun _ => rfl) ⟨(Nat.le_of_ble_eq_true rfl), (Nat.le_of_ble_eq_true rfl)⟩ rfl rfl rfl (fun _ => rfl) (Nat.le_of_ble_eq_true rfl) ⟨rfl, rfl⟩
def FM_keep_23 : Nat → Int32 → xMs → Option (Int32 × xMs)
  | 0, _, _ => none
  | fu + 1, l3, s => if s.2.2.2.1.1 ≤ l3 then (some (s.2.2.2.1.1, ((s.1.1, s.1.2.1, s.1.2.2.1, s.1.2.2.2.1, s.2.2.2.1.1, s.1.2.2.2.2.2), s.2))) else (if 0 ≤ l3 ∧ l3 < nI 4096 then (if 0 ≤ l3 ∧ l3 < nI 1000 then (FM_keep_23 fu (l3 + 1) (s.1, s.2.1, s.2.2.1, s.2.2.2.1, (s.2.2.2.2.1, s.2.2.2.2.2.1, (upd s.2.2.2.2.2.2.1 (l3).toNatClampNeg (vp_nar .byte (s.2.2.2.1.2.1 (l3).toNatClampNeg))), s.2.2.2.2.2.2.2))) else none) else none)
/-- FormulaShaperModel.keep -/
def FM_keep (x0 : Nat) (x1 : Int32) (s : xMs) : Option (Int32 × xMs) := (FM_showFormula x0 s).bind fun r1792 => if r1792.2.2.2.1.1 ≤ 1000 then (FM_keep_23 xFuel 0 r1792) else ((FM_fail x1 r1792).bind fun r1799 => some (r1799.1, r1799.2))
set_option maxRecDepth 20000 in
theorem CM_keep_23 {w : xw_G} {h : xw_H} (hb : xMb h)  : ∀ (fu : Nat) {l3 : Int32} {s : xMs} {out : (Int32 × xMs)} {h0 : xw_H} {m0 n0 : Nat} (hm : m0 ≤ s.2.2.1.2.2.2.2.2.2.1 ∧ n0 ≤ s.2.2.1.2.2.2.2.2.2.2), FM_keep_23 fu l3 s = some out → xw_Y w mM_keep 272 15645 (xw_R (some (.int out.1)) (mV out.2 h)) h0 m0 n0 s.2.2.1.2.2.2.2.2.2.1 s.2.2.1.2.2.2.2.2.2.2 out.2.2.2.1.2.2.2.2.2.2.1 out.2.2.2.1.2.2.2.2.2.2.2 23 [some (.ref 2000), none, none, some (.int l3)] [] (mV s h) := by
  intro fu
  induction fu with
  | zero =>
    intro l3 s out h0 m0 n0 hm hF
    rw [FM_keep_23] at hF
    cases hF
  | succ fu ih =>
    intro l3 s out h0 m0 n0 hm hF
    rw [FM_keep_23] at hF
    refine xy_r (xw_iload_n dM_keep_23 rfl) ?_
    refine xy_r (xw_aload_n dM_keep_24 rfl) ?_
    refine xy_r (xw_get dM_keep_25 fM_420 rfl rfl) ?_
    refine xy_br (xw_icmp_ge 49 dM_keep_28 (by decide)) (fun c1796 => ?_) (fun c1796 => ?_)
    · replace hF := xg_t c1796 hF
      refine xy_r (xw_aload_n dM_keep_49 rfl) ?_
      refine xy_r (xw_aload_n dM_keep_50 rfl) ?_
      refine xy_r (xw_get dM_keep_51 fM_420 rfl rfl) ?_
      refine xy_r (xg_put dM_keep_54 fM_487 rfl (by decide) (Nat.le_of_ble_eq_true rfl) (fun _ => rfl) (fun _ => rfl) (mV_o (s' := ((s.1.1, s.1.2.1, s.1.2.2.1, s.1.2.2.2.1, s.2.2.2.1.1, s.1.2.2.2.2.2), s.2)) rfl)) ?_
      refine xy_r (xw_aload_n dM_keep_57 rfl) ?_
      refine xy_r (xw_get dM_keep_58 fM_487 rfl rfl) ?_
      obtain rfl := Option.some.inj hF
      exact xy_end (xw_ireturn dM_keep_61 rfl rfl (Nat.le_refl _) (Nat.le_refl _) ⟨rfl, rfl⟩)
    · replace hF := xg_f c1796 hF
      refine xy_r (xw_aload_n dM_keep_31 rfl) ?_
      refine xy_r (xw_get dM_keep_32 fM_20 rfl rfl) ?_
      refine xy_r (xw_iload_n dM_keep_35 rfl) ?_
      refine xy_r (xw_aload_n dM_keep_36 rfl) ?_
      refine xy_r (xw_get dM_keep_37 fM_136 rfl rfl) ?_
      refine xy_r (xw_iload_n dM_keep_40 rfl) ?_
      obtain ⟨g1797, hF⟩ := xg_g hF
      refine xy_r (xg_baload g1797 dM_keep_41 rfl (by decide)) ?_
      obtain ⟨g1798, hF⟩ := xg_g hF
      refine xy_r (xg_bastore g1798 dM_keep_42 rfl (by decide) (by decide) (mV_e (s' := (s.1, s.2.1, s.2.2.1, s.2.2.2.1, (s.2.2.2.2.1, s.2.2.2.2.2.1, (upd s.2.2.2.2.2.2.1 (l3).toNatClampNeg (vp_nar .byte (s.2.2.2.1.2.1 (l3).toNatClampNeg))), s.2.2.2.2.2.2.2))) mV_kept rfl)) ?_
      refine xy_r (xw_iinc ((l3 + 1)) dM_keep_43 rfl rfl (Nat.le_of_ble_eq_true rfl)) ?_
      refine xy_r (xw_Ln (L' := [some (.ref 2000), none, none, some (.int (l3 + 1))]) rfl) ?_
      refine xy_r (xw_goto 23 dM_keep_46 (by decide)) ?_
      exact ih (s := (s.1, s.2.1, s.2.2.1, s.2.2.2.1, (s.2.2.2.2.1, s.2.2.2.2.2.1, (upd s.2.2.2.2.2.2.1 (l3).toNatClampNeg (vp_nar .byte (s.2.2.2.1.2.1 (l3).toNatClampNeg))), s.2.2.2.2.2.2.2))) hm hF
set_option maxRecDepth 20000 in
theorem CM_keep {w : xw_G} {h : xw_H} (hb : xMb h) {x0 : Nat} {x1 : Int32} {s : xMs} {out : (Int32 × xMs)} (hF : FM_keep x0 x1 s = some out) : (s.2.2.1.2.2.2.2.2.2.1 ≤ out.2.2.2.1.2.2.2.2.2.2.1 ∧ s.2.2.1.2.2.2.2.2.2.2 ≤ out.2.2.2.1.2.2.2.2.2.2.2) ∧ xw_C w (mM_keep { frames := 272, cells := out.2.2.2.1.2.2.2.2.2.2.1 - s.2.2.1.2.2.2.2.2.2.1, slots := out.2.2.2.1.2.2.2.2.2.2.2 - s.2.2.1.2.2.2.2.2.2.2, locals := 15645 }) (xw_R (some (.int out.1)) (mV out.2 h)) [.ref 2000, .ref (xn x0), .int x1] (mV s h) := by
  unfold FM_keep at hF
  refine xy_enter (L := [some (.ref 2000), some (.ref (xn x0)), some (.int x1), none]) (fun _ => rfl) (fun _ => rfl) (fun _ => (show plainName "FormulaShaperModel" = true by decide +kernel)) (fun _ => (Nat.le_of_ble_eq_true rfl)) (fun _ => rfl) ?_
  have hm : s.2.2.1.2.2.2.2.2.2.1 ≤ s.2.2.1.2.2.2.2.2.2.1 ∧ s.2.2.1.2.2.2.2.2.2.2 ≤ s.2.2.1.2.2.2.2.2.2.2 := ⟨Nat.le_refl _, Nat.le_refl _⟩
  refine xy_r (xw_aload_n dM_keep_0 rfl) ?_
  refine xy_r (xw_aload_n dM_keep_1 rfl) ?_
  obtain ⟨r1792, er1792, hF⟩ := xg_b hF
  have hm1793 : s.2.2.1.2.2.2.2.2.2.1 ≤ r1792.2.2.1.2.2.2.2.2.2.1 ∧ s.2.2.1.2.2.2.2.2.2.2 ≤ r1792.2.2.1.2.2.2.2.2.2.2 := xy_le hm (show s.2.2.1.2.2.2.2.2.2.1 ≤ r1792.2.2.1.2.2.2.2.2.2.1 ∧ s.2.2.1.2.2.2.2.2.2.2 ≤ r1792.2.2.1.2.2.2.2.2.2.2 from (CM_showFormula (w := w) (h := h) hb (s := s) er1792).1)
  refine xy_V0 (nl := 2) (sm := s.2.2.1.2.2.2.2.2.2.1) (sn := s.2.2.1.2.2.2.2.2.2.2) (tm := r1792.2.2.1.2.2.2.2.2.2.1) (tn := r1792.2.2.1.2.2.2.2.2.2.2) (CM_showFormula hb (s := s) er1792) rfl rfl hm (fun _ => rfl) (fun _ => rfl) (fun _ => rfl) (fun _ => dM_keep_2) (fun _ R => kM_494 R) (fun _ => rfl) ⟨(Nat.le_of_ble_eq_true rfl), (Nat.le_of_ble_eq_true rfl)⟩ rfl rfl rfl (fun _ => rfl) (Nat.le_of_ble_eq_true rfl) ?_
  refine xy_r (xw_aload_n dM_keep_5 rfl) ?_
  refine xy_r (xw_get dM_keep_6 fM_420 rfl rfl) ?_
  refine xy_r (xw_sipush (1000) dM_keep_9 (by decide)) ?_
  refine xy_br (xw_icmp_le 21 dM_keep_12 (by decide)) (fun c1795 => ?_) (fun c1795 => ?_)
  · replace hF := xg_t c1795 hF
    refine xy_r (xw_iconst (0) dM_keep_21 (by decide)) ?_
    refine xy_r (xw_istore_n dM_keep_22 (Nat.le_of_ble_eq_true rfl)) ?_
    refine xy_r (xw_Ln (L' := [some (.ref 2000), some (.ref (xn x0)), some (.int x1), some (.int 0)]) rfl) ?_
    refine xy_r (xw_drop (L' := [some (.ref 2000), none, none, some (.int 0)]) ⟨rfl, ⟨rfl, trivial⟩⟩) ?_
    exact CM_keep_23 hb xFuel (s := r1792) hm1793 hF
  · replace hF := xg_f c1795 hF
    refine xy_r (xw_aload_n dM_keep_15 rfl) ?_
    refine xy_r (xw_iload_n dM_keep_16 rfl) ?_
    obtain ⟨r1799, er1799, hF⟩ := xg_b hF
    have hm1800 : s.2.2.1.2.2.2.2.2.2.1 ≤ r1799.2.2.2.1.2.2.2.2.2.2.1 ∧ s.2.2.1.2.2.2.2.2.2.2 ≤ r1799.2.2.2.1.2.2.2.2.2.2.2 := xy_le hm1793 (show r1792.2.2.1.2.2.2.2.2.2.1 ≤ r1799.2.2.2.1.2.2.2.2.2.2.1 ∧ r1792.2.2.1.2.2.2.2.2.2.2 ≤ r1799.2.2.2.1.2.2.2.2.2.2.2 from (CM_fail (w := w) (h := h) hb (s := r1792) er1799).1)
    refine xy_V1 (nl := 2) (sm := r1792.2.2.1.2.2.2.2.2.2.1) (sn := r1792.2.2.1.2.2.2.2.2.2.2) (tm := r1799.2.2.2.1.2.2.2.2.2.2.1) (tn := r1799.2.2.2.1.2.2.2.2.2.2.2) (CM_fail hb (s := r1792) er1799) rfl rfl hm1793 (fun _ => rfl) (fun _ => rfl) (fun _ => rfl) (fun _ => dM_keep_17) (fun _ R => kM_497 R) (fun _ => rfl) ⟨(Nat.le_of_ble_eq_true rfl), (Nat.le_of_ble_eq_true rfl)⟩ rfl rfl rfl (fun _ => rfl) (Nat.le_of_ble_eq_true rfl) ?_
    obtain rfl := Option.some.inj hF
    exact xy_end (xw_ireturn dM_keep_20 rfl rfl (Nat.le_refl _) (Nat.le_refl _) ⟨rfl, rfl⟩)
def FM_feed_27 : Nat → Int32 → Int32 → Int32 → Int32 → Int32 → Int32 → xMs → Option (Int32 × xMs)
  | 0, _, _, _, _, _, _, _ => none
  | fu + 1, l1, l2, l3, l4, l5, l6, s => if 20 ≤ l6 then (some (s.1.2.1, s)) else (if 4 ≤ l6 then (if 8 ≤ l6 then (if 12 ≤ l6 then (if 16 ≤ l6 then (if 0 ≤ s.1.2.1 ∧ s.1.2.1 < nI 2000 then (FM_feed_27 fu l1 l2 l3 l4 l5 (l6 + 1) ((s.1.1, (s.1.2.1 + 1), s.1.2.2), s.2.1, s.2.2.1, s.2.2.2.1, ((upd s.2.2.2.2.1 (s.1.2.1).toNatClampNeg (vp_nar .byte ((l5 >>> ((24 - (8 * (l6 - l6 / 4 * 4))) &&& 31))).toInt8.toInt32)), s.2.2.2.2.2))) else none) else (if 0 ≤ s.1.2.1 ∧ s.1.2.1 < nI 2000 then (FM_feed_27 fu l1 l2 l3 l4 l5 (l6 + 1) ((s.1.1, (s.1.2.1 + 1), s.1.2.2), s.2.1, s.2.2.1, s.2.2.2.1, ((upd s.2.2.2.2.1 (s.1.2.1).toNatClampNeg (vp_nar .byte ((l4 >>> ((24 - (8 * (l6 - l6 / 4 * 4))) &&& 31))).toInt8.toInt32)), s.2.2.2.2.2))) else none)) else (if 0 ≤ s.1.2.1 ∧ s.1.2.1 < nI 2000 then (FM_feed_27 fu l1 l2 l3 l4 l5 (l6 + 1) ((s.1.1, (s.1.2.1 + 1), s.1.2.2), s.2.1, s.2.2.1, s.2.2.2.1, ((upd s.2.2.2.2.1 (s.1.2.1).toNatClampNeg (vp_nar .byte ((l3 >>> ((24 - (8 * (l6 - l6 / 4 * 4))) &&& 31))).toInt8.toInt32)), s.2.2.2.2.2))) else none)) else (if 0 ≤ s.1.2.1 ∧ s.1.2.1 < nI 2000 then (FM_feed_27 fu l1 l2 l3 l4 l5 (l6 + 1) ((s.1.1, (s.1.2.1 + 1), s.1.2.2), s.2.1, s.2.2.1, s.2.2.2.1, ((upd s.2.2.2.2.1 (s.1.2.1).toNatClampNeg (vp_nar .byte ((l2 >>> ((24 - (8 * (l6 - l6 / 4 * 4))) &&& 31))).toInt8.toInt32)), s.2.2.2.2.2))) else none)) else (if 0 ≤ s.1.2.1 ∧ s.1.2.1 < nI 2000 then (FM_feed_27 fu l1 l2 l3 l4 l5 (l6 + 1) ((s.1.1, (s.1.2.1 + 1), s.1.2.2), s.2.1, s.2.2.1, s.2.2.2.1, ((upd s.2.2.2.2.1 (s.1.2.1).toNatClampNeg (vp_nar .byte ((l1 >>> ((24 - (8 * (l6 - l6 / 4 * 4))) &&& 31))).toInt8.toInt32)), s.2.2.2.2.2))) else none))
/-- FormulaShaperModel.feed -/
def FM_feed (x0 : Int32) (x1 : Int32) (x2 : Int32) (x3 : Int32) (x4 : Int32) (s : xMs) : Option (Int32 × xMs) := if (s.1.2.1 + 20) ≤ 2000 then (FM_feed_27 xFuel x0 x1 x2 x3 x4 0 ((0, s.1.2), s.2)) else ((FM_fail 1 ((0, s.1.2), s.2)).bind fun r1813 => some (r1813.1, r1813.2))
set_option maxRecDepth 20000 in
theorem CM_feed_27 {w : xw_G} {h : xw_H} (hb : xMb h)  : ∀ (fu : Nat) {l1 : Int32} {l2 : Int32} {l3 : Int32} {l4 : Int32} {l5 : Int32} {l6 : Int32} {s : xMs} {out : (Int32 × xMs)} {h0 : xw_H} {m0 n0 : Nat} (hm : m0 ≤ s.2.2.1.2.2.2.2.2.2.1 ∧ n0 ≤ s.2.2.1.2.2.2.2.2.2.2), FM_feed_27 fu l1 l2 l3 l4 l5 l6 s = some out → xw_Y w mM_feed 1 21 (xw_R (some (.int out.1)) (mV out.2 h)) h0 m0 n0 s.2.2.1.2.2.2.2.2.2.1 s.2.2.1.2.2.2.2.2.2.2 out.2.2.2.1.2.2.2.2.2.2.1 out.2.2.2.1.2.2.2.2.2.2.2 27 [some (.ref 2000), some (.int l1), some (.int l2), some (.int l3), some (.int l4), some (.int l5), some (.int l6), none] [] (mV s h) := by
  intro fu
  induction fu with
  | zero =>
    intro l1 l2 l3 l4 l5 l6 s out h0 m0 n0 hm hF
    rw [FM_feed_27] at hF
    cases hF
  | succ fu ih =>
    intro l1 l2 l3 l4 l5 l6 s out h0 m0 n0 hm hF
    rw [FM_feed_27] at hF
    refine xy_r (xw_iload dM_feed_27 rfl) ?_
    refine xy_r (xw_bipush (20) dM_feed_29 (by decide)) ?_
    refine xy_br (xw_icmp_ge 121 dM_feed_31 (by decide)) (fun c1803 => ?_) (fun c1803 => ?_)
    · replace hF := xg_t c1803 hF
      refine xy_r (xw_aload_n dM_feed_121 rfl) ?_
      refine xy_r (xw_get dM_feed_122 fM_500 rfl rfl) ?_
      obtain rfl := Option.some.inj hF
      exact xy_end (xw_ireturn dM_feed_125 rfl rfl (Nat.le_refl _) (Nat.le_refl _) ⟨rfl, rfl⟩)
    · replace hF := xg_f c1803 hF
      refine xy_r (xw_iload dM_feed_34 rfl) ?_
      refine xy_r (xw_iconst (4) dM_feed_36 (by decide)) ?_
      refine xy_br (xw_icmp_ge 44 dM_feed_37 (by decide)) (fun c1804 => ?_) (fun c1804 => ?_)
      · replace hF := xg_t c1804 hF
        refine xy_r (xw_iload dM_feed_44 rfl) ?_
        refine xy_r (xw_bipush (8) dM_feed_46 (by decide)) ?_
        refine xy_br (xw_icmp_ge 55 dM_feed_48 (by decide)) (fun c1805 => ?_) (fun c1805 => ?_)
        · replace hF := xg_t c1805 hF
          refine xy_r (xw_iload dM_feed_55 rfl) ?_
          refine xy_r (xw_bipush (12) dM_feed_57 (by decide)) ?_
          refine xy_br (xw_icmp_ge 66 dM_feed_59 (by decide)) (fun c1806 => ?_) (fun c1806 => ?_)
          · replace hF := xg_t c1806 hF
            refine xy_r (xw_iload dM_feed_66 rfl) ?_
            refine xy_r (xw_bipush (16) dM_feed_68 (by decide)) ?_
            refine xy_br (xw_icmp_ge 78 dM_feed_70 (by decide)) (fun c1807 => ?_) (fun c1807 => ?_)
            · replace hF := xg_t c1807 hF
              refine xy_r (xw_iload dM_feed_78 rfl) ?_
              refine xy_r (xw_istore dM_feed_80 (Nat.le_of_ble_eq_true rfl)) ?_
              refine xy_r (xw_Ln (L' := [some (.ref 2000), some (.int l1), some (.int l2), some (.int l3), some (.int l4), some (.int l5), some (.int l6), some (.int l5)]) rfl) ?_
              refine xy_r (xw_aload_n dM_feed_82 rfl) ?_
              refine xy_r (xw_get dM_feed_83 fM_7 rfl rfl) ?_
              refine xy_r (xw_aload_n dM_feed_86 rfl) ?_
              refine xy_r (xw_get dM_feed_87 fM_500 rfl rfl) ?_
              refine xy_r (xw_iload dM_feed_90 rfl) ?_
              refine xy_r (xw_bipush (24) dM_feed_92 (by decide)) ?_
              refine xy_r (xw_bipush (8) dM_feed_94 (by decide)) ?_
              refine xy_r (xw_iload dM_feed_96 rfl) ?_
              refine xy_r (xw_iconst (4) dM_feed_98 (by decide)) ?_
              refine xy_r (xw_irem dM_feed_99 (by decide)) ?_
              refine xy_r (xw_imul dM_feed_100) ?_
              refine xy_r (xw_isub dM_feed_101) ?_
              refine xy_r (xw_ishr dM_feed_102) ?_
              refine xy_r (xw_i2b dM_feed_103) ?_
              obtain ⟨g1808, hF⟩ := xg_g hF
              refine xy_r (xg_bastore g1808 dM_feed_104 rfl (by decide) (by decide) (mV_e (s' := (s.1, s.2.1, s.2.2.1, s.2.2.2.1, ((upd s.2.2.2.2.1 (s.1.2.1).toNatClampNeg (vp_nar .byte ((l5 >>> ((24 - (8 * (l6 - l6 / 4 * 4))) &&& 31))).toInt8.toInt32)), s.2.2.2.2.2))) mV_tape rfl)) ?_
              refine xy_r (xw_aload_n dM_feed_105 rfl) ?_
              refine xy_r (xw_dup_r dM_feed_106) ?_
              refine xy_r (xw_get dM_feed_107 fM_500 rfl rfl) ?_
              refine xy_r (xw_iconst (1) dM_feed_110 (by decide)) ?_
              refine xy_r (xw_iadd dM_feed_111) ?_
              refine xy_r (xg_put dM_feed_112 fM_500 rfl (by decide) (Nat.le_of_ble_eq_true rfl) (fun _ => rfl) (fun _ => rfl) (mV_o (s' := ((s.1.1, (s.1.2.1 + 1), s.1.2.2), s.2.1, s.2.2.1, s.2.2.2.1, ((upd s.2.2.2.2.1 (s.1.2.1).toNatClampNeg (vp_nar .byte ((l5 >>> ((24 - (8 * (l6 - l6 / 4 * 4))) &&& 31))).toInt8.toInt32)), s.2.2.2.2.2))) rfl)) ?_
              refine xy_r (xw_iinc ((l6 + 1)) dM_feed_115 rfl rfl (Nat.le_of_ble_eq_true rfl)) ?_
              refine xy_r (xw_Ln (L' := [some (.ref 2000), some (.int l1), some (.int l2), some (.int l3), some (.int l4), some (.int l5), some (.int (l6 + 1)), some (.int l5)]) rfl) ?_
              refine xy_r (xw_goto 27 dM_feed_118 (by decide)) ?_
              refine xy_r (xw_drop (L' := [some (.ref 2000), some (.int l1), some (.int l2), some (.int l3), some (.int l4), some (.int l5), some (.int (l6 + 1)), none]) ⟨rfl, ⟨rfl, ⟨rfl, ⟨rfl, ⟨rfl, ⟨rfl, ⟨rfl, trivial⟩⟩⟩⟩⟩⟩⟩) ?_
              exact ih (s := ((s.1.1, (s.1.2.1 + 1), s.1.2.2), s.2.1, s.2.2.1, s.2.2.2.1, ((upd s.2.2.2.2.1 (s.1.2.1).toNatClampNeg (vp_nar .byte ((l5 >>> ((24 - (8 * (l6 - l6 / 4 * 4))) &&& 31))).toInt8.toInt32)), s.2.2.2.2.2))) hm hF
            · replace hF := xg_f c1807 hF
              refine xy_r (xw_iload dM_feed_73 rfl) ?_
              refine xy_r (xw_goto 80 dM_feed_75 (by decide)) ?_
              refine xy_r (xw_istore dM_feed_80 (Nat.le_of_ble_eq_true rfl)) ?_
              refine xy_r (xw_Ln (L' := [some (.ref 2000), some (.int l1), some (.int l2), some (.int l3), some (.int l4), some (.int l5), some (.int l6), some (.int l4)]) rfl) ?_
              refine xy_r (xw_aload_n dM_feed_82 rfl) ?_
              refine xy_r (xw_get dM_feed_83 fM_7 rfl rfl) ?_
              refine xy_r (xw_aload_n dM_feed_86 rfl) ?_
              refine xy_r (xw_get dM_feed_87 fM_500 rfl rfl) ?_
              refine xy_r (xw_iload dM_feed_90 rfl) ?_
              refine xy_r (xw_bipush (24) dM_feed_92 (by decide)) ?_
              refine xy_r (xw_bipush (8) dM_feed_94 (by decide)) ?_
              refine xy_r (xw_iload dM_feed_96 rfl) ?_
              refine xy_r (xw_iconst (4) dM_feed_98 (by decide)) ?_
              refine xy_r (xw_irem dM_feed_99 (by decide)) ?_
              refine xy_r (xw_imul dM_feed_100) ?_
              refine xy_r (xw_isub dM_feed_101) ?_
              refine xy_r (xw_ishr dM_feed_102) ?_
              refine xy_r (xw_i2b dM_feed_103) ?_
              obtain ⟨g1809, hF⟩ := xg_g hF
              refine xy_r (xg_bastore g1809 dM_feed_104 rfl (by decide) (by decide) (mV_e (s' := (s.1, s.2.1, s.2.2.1, s.2.2.2.1, ((upd s.2.2.2.2.1 (s.1.2.1).toNatClampNeg (vp_nar .byte ((l4 >>> ((24 - (8 * (l6 - l6 / 4 * 4))) &&& 31))).toInt8.toInt32)), s.2.2.2.2.2))) mV_tape rfl)) ?_
              refine xy_r (xw_aload_n dM_feed_105 rfl) ?_
              refine xy_r (xw_dup_r dM_feed_106) ?_
              refine xy_r (xw_get dM_feed_107 fM_500 rfl rfl) ?_
              refine xy_r (xw_iconst (1) dM_feed_110 (by decide)) ?_
              refine xy_r (xw_iadd dM_feed_111) ?_
              refine xy_r (xg_put dM_feed_112 fM_500 rfl (by decide) (Nat.le_of_ble_eq_true rfl) (fun _ => rfl) (fun _ => rfl) (mV_o (s' := ((s.1.1, (s.1.2.1 + 1), s.1.2.2), s.2.1, s.2.2.1, s.2.2.2.1, ((upd s.2.2.2.2.1 (s.1.2.1).toNatClampNeg (vp_nar .byte ((l4 >>> ((24 - (8 * (l6 - l6 / 4 * 4))) &&& 31))).toInt8.toInt32)), s.2.2.2.2.2))) rfl)) ?_
              refine xy_r (xw_iinc ((l6 + 1)) dM_feed_115 rfl rfl (Nat.le_of_ble_eq_true rfl)) ?_
              refine xy_r (xw_Ln (L' := [some (.ref 2000), some (.int l1), some (.int l2), some (.int l3), some (.int l4), some (.int l5), some (.int (l6 + 1)), some (.int l4)]) rfl) ?_
              refine xy_r (xw_goto 27 dM_feed_118 (by decide)) ?_
              refine xy_r (xw_drop (L' := [some (.ref 2000), some (.int l1), some (.int l2), some (.int l3), some (.int l4), some (.int l5), some (.int (l6 + 1)), none]) ⟨rfl, ⟨rfl, ⟨rfl, ⟨rfl, ⟨rfl, ⟨rfl, ⟨rfl, trivial⟩⟩⟩⟩⟩⟩⟩) ?_
              exact ih (s := ((s.1.1, (s.1.2.1 + 1), s.1.2.2), s.2.1, s.2.2.1, s.2.2.2.1, ((upd s.2.2.2.2.1 (s.1.2.1).toNatClampNeg (vp_nar .byte ((l4 >>> ((24 - (8 * (l6 - l6 / 4 * 4))) &&& 31))).toInt8.toInt32)), s.2.2.2.2.2))) hm hF
          · replace hF := xg_f c1806 hF
            refine xy_r (xw_iload_n dM_feed_62 rfl) ?_
            refine xy_r (xw_goto 80 dM_feed_63 (by decide)) ?_
            refine xy_r (xw_istore dM_feed_80 (Nat.le_of_ble_eq_true rfl)) ?_
            refine xy_r (xw_Ln (L' := [some (.ref 2000), some (.int l1), some (.int l2), some (.int l3), some (.int l4), some (.int l5), some (.int l6), some (.int l3)]) rfl) ?_
            refine xy_r (xw_aload_n dM_feed_82 rfl) ?_
            refine xy_r (xw_get dM_feed_83 fM_7 rfl rfl) ?_
            refine xy_r (xw_aload_n dM_feed_86 rfl) ?_
            refine xy_r (xw_get dM_feed_87 fM_500 rfl rfl) ?_
            refine xy_r (xw_iload dM_feed_90 rfl) ?_
            refine xy_r (xw_bipush (24) dM_feed_92 (by decide)) ?_
            refine xy_r (xw_bipush (8) dM_feed_94 (by decide)) ?_
            refine xy_r (xw_iload dM_feed_96 rfl) ?_
            refine xy_r (xw_iconst (4) dM_feed_98 (by decide)) ?_
            refine xy_r (xw_irem dM_feed_99 (by decide)) ?_
            refine xy_r (xw_imul dM_feed_100) ?_
            refine xy_r (xw_isub dM_feed_101) ?_
            refine xy_r (xw_ishr dM_feed_102) ?_
            refine xy_r (xw_i2b dM_feed_103) ?_
            obtain ⟨g1810, hF⟩ := xg_g hF
            refine xy_r (xg_bastore g1810 dM_feed_104 rfl (by decide) (by decide) (mV_e (s' := (s.1, s.2.1, s.2.2.1, s.2.2.2.1, ((upd s.2.2.2.2.1 (s.1.2.1).toNatClampNeg (vp_nar .byte ((l3 >>> ((24 - (8 * (l6 - l6 / 4 * 4))) &&& 31))).toInt8.toInt32)), s.2.2.2.2.2))) mV_tape rfl)) ?_
            refine xy_r (xw_aload_n dM_feed_105 rfl) ?_
            refine xy_r (xw_dup_r dM_feed_106) ?_
            refine xy_r (xw_get dM_feed_107 fM_500 rfl rfl) ?_
            refine xy_r (xw_iconst (1) dM_feed_110 (by decide)) ?_
            refine xy_r (xw_iadd dM_feed_111) ?_
            refine xy_r (xg_put dM_feed_112 fM_500 rfl (by decide) (Nat.le_of_ble_eq_true rfl) (fun _ => rfl) (fun _ => rfl) (mV_o (s' := ((s.1.1, (s.1.2.1 + 1), s.1.2.2), s.2.1, s.2.2.1, s.2.2.2.1, ((upd s.2.2.2.2.1 (s.1.2.1).toNatClampNeg (vp_nar .byte ((l3 >>> ((24 - (8 * (l6 - l6 / 4 * 4))) &&& 31))).toInt8.toInt32)), s.2.2.2.2.2))) rfl)) ?_
            refine xy_r (xw_iinc ((l6 + 1)) dM_feed_115 rfl rfl (Nat.le_of_ble_eq_true rfl)) ?_
            refine xy_r (xw_Ln (L' := [some (.ref 2000), some (.int l1), some (.int l2), some (.int l3), some (.int l4), some (.int l5), some (.int (l6 + 1)), some (.int l3)]) rfl) ?_
            refine xy_r (xw_goto 27 dM_feed_118 (by decide)) ?_
            refine xy_r (xw_drop (L' := [some (.ref 2000), some (.int l1), some (.int l2), some (.int l3), some (.int l4), some (.int l5), some (.int (l6 + 1)), none]) ⟨rfl, ⟨rfl, ⟨rfl, ⟨rfl, ⟨rfl, ⟨rfl, ⟨rfl, trivial⟩⟩⟩⟩⟩⟩⟩) ?_
            exact ih (s := ((s.1.1, (s.1.2.1 + 1), s.1.2.2), s.2.1, s.2.2.1, s.2.2.2.1, ((upd s.2.2.2.2.1 (s.1.2.1).toNatClampNeg (vp_nar .byte ((l3 >>> ((24 - (8 * (l6 - l6 / 4 * 4))) &&& 31))).toInt8.toInt32)), s.2.2.2.2.2))) hm hF
        · replace hF := xg_f c1805 hF
          refine xy_r (xw_iload_n dM_feed_51 rfl) ?_
          refine xy_r (xw_goto 80 dM_feed_52 (by decide)) ?_
          refine xy_r (xw_istore dM_feed_80 (Nat.le_of_ble_eq_true rfl)) ?_
          refine xy_r (xw_Ln (L' := [some (.ref 2000), some (.int l1), some (.int l2), some (.int l3), some (.int l4), some (.int l5), some (.int l6), some (.int l2)]) rfl) ?_
          refine xy_r (xw_aload_n dM_feed_82 rfl) ?_
          refine xy_r (xw_get dM_feed_83 fM_7 rfl rfl) ?_
          refine xy_r (xw_aload_n dM_feed_86 rfl) ?_
          refine xy_r (xw_get dM_feed_87 fM_500 rfl rfl) ?_
          refine xy_r (xw_iload dM_feed_90 rfl) ?_
          refine xy_r (xw_bipush (24) dM_feed_92 (by decide)) ?_
          refine xy_r (xw_bipush (8) dM_feed_94 (by decide)) ?_
          refine xy_r (xw_iload dM_feed_96 rfl) ?_
          refine xy_r (xw_iconst (4) dM_feed_98 (by decide)) ?_
          refine xy_r (xw_irem dM_feed_99 (by decide)) ?_
          refine xy_r (xw_imul dM_feed_100) ?_
          refine xy_r (xw_isub dM_feed_101) ?_
          refine xy_r (xw_ishr dM_feed_102) ?_
          refine xy_r (xw_i2b dM_feed_103) ?_
          obtain ⟨g1811, hF⟩ := xg_g hF
          refine xy_r (xg_bastore g1811 dM_feed_104 rfl (by decide) (by decide) (mV_e (s' := (s.1, s.2.1, s.2.2.1, s.2.2.2.1, ((upd s.2.2.2.2.1 (s.1.2.1).toNatClampNeg (vp_nar .byte ((l2 >>> ((24 - (8 * (l6 - l6 / 4 * 4))) &&& 31))).toInt8.toInt32)), s.2.2.2.2.2))) mV_tape rfl)) ?_
          refine xy_r (xw_aload_n dM_feed_105 rfl) ?_
          refine xy_r (xw_dup_r dM_feed_106) ?_
          refine xy_r (xw_get dM_feed_107 fM_500 rfl rfl) ?_
          refine xy_r (xw_iconst (1) dM_feed_110 (by decide)) ?_
          refine xy_r (xw_iadd dM_feed_111) ?_
          refine xy_r (xg_put dM_feed_112 fM_500 rfl (by decide) (Nat.le_of_ble_eq_true rfl) (fun _ => rfl) (fun _ => rfl) (mV_o (s' := ((s.1.1, (s.1.2.1 + 1), s.1.2.2), s.2.1, s.2.2.1, s.2.2.2.1, ((upd s.2.2.2.2.1 (s.1.2.1).toNatClampNeg (vp_nar .byte ((l2 >>> ((24 - (8 * (l6 - l6 / 4 * 4))) &&& 31))).toInt8.toInt32)), s.2.2.2.2.2))) rfl)) ?_
          refine xy_r (xw_iinc ((l6 + 1)) dM_feed_115 rfl rfl (Nat.le_of_ble_eq_true rfl)) ?_
          refine xy_r (xw_Ln (L' := [some (.ref 2000), some (.int l1), some (.int l2), some (.int l3), some (.int l4), some (.int l5), some (.int (l6 + 1)), some (.int l2)]) rfl) ?_
          refine xy_r (xw_goto 27 dM_feed_118 (by decide)) ?_
          refine xy_r (xw_drop (L' := [some (.ref 2000), some (.int l1), some (.int l2), some (.int l3), some (.int l4), some (.int l5), some (.int (l6 + 1)), none]) ⟨rfl, ⟨rfl, ⟨rfl, ⟨rfl, ⟨rfl, ⟨rfl, ⟨rfl, trivial⟩⟩⟩⟩⟩⟩⟩) ?_
          exact ih (s := ((s.1.1, (s.1.2.1 + 1), s.1.2.2), s.2.1, s.2.2.1, s.2.2.2.1, ((upd s.2.2.2.2.1 (s.1.2.1).toNatClampNeg (vp_nar .byte ((l2 >>> ((24 - (8 * (l6 - l6 / 4 * 4))) &&& 31))).toInt8.toInt32)), s.2.2.2.2.2))) hm hF
      · replace hF := xg_f c1804 hF
        refine xy_r (xw_iload_n dM_feed_40 rfl) ?_
        refine xy_r (xw_goto 80 dM_feed_41 (by decide)) ?_
        refine xy_r (xw_istore dM_feed_80 (Nat.le_of_ble_eq_true rfl)) ?_
        refine xy_r (xw_Ln (L' := [some (.ref 2000), some (.int l1), some (.int l2), some (.int l3), some (.int l4), some (.int l5), some (.int l6), some (.int l1)]) rfl) ?_
        refine xy_r (xw_aload_n dM_feed_82 rfl) ?_
        refine xy_r (xw_get dM_feed_83 fM_7 rfl rfl) ?_
        refine xy_r (xw_aload_n dM_feed_86 rfl) ?_
        refine xy_r (xw_get dM_feed_87 fM_500 rfl rfl) ?_
        refine xy_r (xw_iload dM_feed_90 rfl) ?_
        refine xy_r (xw_bipush (24) dM_feed_92 (by decide)) ?_
        refine xy_r (xw_bipush (8) dM_feed_94 (by decide)) ?_
        refine xy_r (xw_iload dM_feed_96 rfl) ?_
        refine xy_r (xw_iconst (4) dM_feed_98 (by decide)) ?_
        refine xy_r (xw_irem dM_feed_99 (by decide)) ?_
        refine xy_r (xw_imul dM_feed_100) ?_
        refine xy_r (xw_isub dM_feed_101) ?_
        refine xy_r (xw_ishr dM_feed_102) ?_
        refine xy_r (xw_i2b dM_feed_103) ?_
        obtain ⟨g1812, hF⟩ := xg_g hF
        refine xy_r (xg_bastore g1812 dM_feed_104 rfl (by decide) (by decide) (mV_e (s' := (s.1, s.2.1, s.2.2.1, s.2.2.2.1, ((upd s.2.2.2.2.1 (s.1.2.1).toNatClampNeg (vp_nar .byte ((l1 >>> ((24 - (8 * (l6 - l6 / 4 * 4))) &&& 31))).toInt8.toInt32)), s.2.2.2.2.2))) mV_tape rfl)) ?_
        refine xy_r (xw_aload_n dM_feed_105 rfl) ?_
        refine xy_r (xw_dup_r dM_feed_106) ?_
        refine xy_r (xw_get dM_feed_107 fM_500 rfl rfl) ?_
        refine xy_r (xw_iconst (1) dM_feed_110 (by decide)) ?_
        refine xy_r (xw_iadd dM_feed_111) ?_
        refine xy_r (xg_put dM_feed_112 fM_500 rfl (by decide) (Nat.le_of_ble_eq_true rfl) (fun _ => rfl) (fun _ => rfl) (mV_o (s' := ((s.1.1, (s.1.2.1 + 1), s.1.2.2), s.2.1, s.2.2.1, s.2.2.2.1, ((upd s.2.2.2.2.1 (s.1.2.1).toNatClampNeg (vp_nar .byte ((l1 >>> ((24 - (8 * (l6 - l6 / 4 * 4))) &&& 31))).toInt8.toInt32)), s.2.2.2.2.2))) rfl)) ?_
        refine xy_r (xw_iinc ((l6 + 1)) dM_feed_115 rfl rfl (Nat.le_of_ble_eq_true rfl)) ?_
        refine xy_r (xw_Ln (L' := [some (.ref 2000), some (.int l1), some (.int l2), some (.int l3), some (.int l4), some (.int l5), some (.int (l6 + 1)), some (.int l1)]) rfl) ?_
        refine xy_r (xw_goto 27 dM_feed_118 (by decide)) ?_
        refine xy_r (xw_drop (L' := [some (.ref 2000), some (.int l1), some (.int l2), some (.int l3), some (.int l4), some (.int l5), some (.int (l6 + 1)), none]) ⟨rfl, ⟨rfl, ⟨rfl, ⟨rfl, ⟨rfl, ⟨rfl, ⟨rfl, trivial⟩⟩⟩⟩⟩⟩⟩) ?_
        exact ih (s := ((s.1.1, (s.1.2.1 + 1), s.1.2.2), s.2.1, s.2.2.1, s.2.2.2.1, ((upd s.2.2.2.2.1 (s.1.2.1).toNatClampNeg (vp_nar .byte ((l1 >>> ((24 - (8 * (l6 - l6 / 4 * 4))) &&& 31))).toInt8.toInt32)), s.2.2.2.2.2))) hm hF
set_option maxRecDepth 20000 in
theorem CM_feed {w : xw_G} {h : xw_H} (hb : xMb h) {x0 : Int32} {x1 : Int32} {x2 : Int32} {x3 : Int32} {x4 : Int32} {s : xMs} {out : (Int32 × xMs)} (hF : FM_feed x0 x1 x2 x3 x4 s = some out) : (s.2.2.1.2.2.2.2.2.2.1 ≤ out.2.2.2.1.2.2.2.2.2.2.1 ∧ s.2.2.1.2.2.2.2.2.2.2 ≤ out.2.2.2.1.2.2.2.2.2.2.2) ∧ xw_C w (mM_feed { frames := 1, cells := out.2.2.2.1.2.2.2.2.2.2.1 - s.2.2.1.2.2.2.2.2.2.1, slots := out.2.2.2.1.2.2.2.2.2.2.2 - s.2.2.1.2.2.2.2.2.2.2, locals := 21 }) (xw_R (some (.int out.1)) (mV out.2 h)) [.ref 2000, .int x0, .int x1, .int x2, .int x3, .int x4] (mV s h) := by
  unfold FM_feed at hF
  refine xy_enter (L := [some (.ref 2000), some (.int x0), some (.int x1), some (.int x2), some (.int x3), some (.int x4), none, none]) (fun _ => rfl) (fun _ => rfl) (fun _ => (show plainName "FormulaShaperModel" = true by decide +kernel)) (fun _ => (Nat.le_of_ble_eq_true rfl)) (fun _ => rfl) ?_
  have hm : s.2.2.1.2.2.2.2.2.2.1 ≤ s.2.2.1.2.2.2.2.2.2.1 ∧ s.2.2.1.2.2.2.2.2.2.2 ≤ s.2.2.1.2.2.2.2.2.2.2 := ⟨Nat.le_refl _, Nat.le_refl _⟩
  refine xy_r (xw_aload_n dM_feed_0 rfl) ?_
  refine xy_r (xw_iconst (0) dM_feed_1 (by decide)) ?_
  refine xy_r (xg_put dM_feed_2 fM_185 rfl (by decide) (Nat.le_of_ble_eq_true rfl) (fun _ => rfl) (fun _ => rfl) (mV_o (s' := ((0, s.1.2), s.2)) rfl)) ?_
  refine xy_r (xw_aload_n dM_feed_5 rfl) ?_
  refine xy_r (xw_get dM_feed_6 fM_500 rfl rfl) ?_
  refine xy_r (xw_bipush (20) dM_feed_9 (by decide)) ?_
  refine xy_r (xw_iadd dM_feed_11) ?_
  refine xy_r (xw_sipush (2000) dM_feed_12 (by decide)) ?_
  refine xy_br (xw_icmp_le 24 dM_feed_15 (by decide)) (fun c1802 => ?_) (fun c1802 => ?_)
  · replace hF := xg_t c1802 hF
    refine xy_r (xw_iconst (0) dM_feed_24 (by decide)) ?_
    refine xy_r (xw_istore dM_feed_25 (Nat.le_of_ble_eq_true rfl)) ?_
    refine xy_r (xw_Ln (L' := [some (.ref 2000), some (.int x0), some (.int x1), some (.int x2), some (.int x3), some (.int x4), some (.int 0), none]) rfl) ?_
    exact CM_feed_27 hb xFuel (s := ((0, s.1.2), s.2)) hm hF
  · replace hF := xg_f c1802 hF
    refine xy_r (xw_aload_n dM_feed_18 rfl) ?_
    refine xy_r (xw_iconst (1) dM_feed_19 (by decide)) ?_
    obtain ⟨r1813, er1813, hF⟩ := xg_b hF
    have hm1814 : s.2.2.1.2.2.2.2.2.2.1 ≤ r1813.2.2.2.1.2.2.2.2.2.2.1 ∧ s.2.2.1.2.2.2.2.2.2.2 ≤ r1813.2.2.2.1.2.2.2.2.2.2.2 := xy_le hm (show s.2.2.1.2.2.2.2.2.2.1 ≤ r1813.2.2.2.1.2.2.2.2.2.2.1 ∧ s.2.2.1.2.2.2.2.2.2.2 ≤ r1813.2.2.2.1.2.2.2.2.2.2.2 from (CM_fail (w := w) (h := h) hb (s := ((0, s.1.2), s.2)) er1813).1)
    refine xy_V1 (nl := 2) (sm := s.2.2.1.2.2.2.2.2.2.1) (sn := s.2.2.1.2.2.2.2.2.2.2) (tm := r1813.2.2.2.1.2.2.2.2.2.2.1) (tn := r1813.2.2.2.1.2.2.2.2.2.2.2) (CM_fail hb (s := ((0, s.1.2), s.2)) er1813) rfl rfl hm (fun _ => rfl) (fun _ => rfl) (fun _ => rfl) (fun _ => dM_feed_20) (fun _ R => kM_497 R) (fun _ => rfl) ⟨(Nat.le_of_ble_eq_true rfl), (Nat.le_of_ble_eq_true rfl)⟩ rfl rfl rfl (fun _ => rfl) (Nat.le_of_ble_eq_true rfl) ?_
    obtain rfl := Option.some.inj hF
    exact xy_end (xw_ireturn dM_feed_23 rfl rfl (Nat.le_refl _) (Nat.le_refl _) ⟨rfl, rfl⟩)
/-- FormulaShaperModel.end -/
def FM_end (x0 : Int32) (s : xMs) : Option (Int32 × xMs) := if x0 < 0 then ((FM_fail 1 ((0, s.1.2), s.2)).bind fun r1817 => some (r1817.1, r1817.2)) else (if x0 ≤ s.1.2.1 then (some (x0, ((0, x0, s.1.2.2), s.2))) else ((FM_fail 1 ((0, s.1.2), s.2)).bind fun r1821 => some (r1821.1, r1821.2)))
set_option maxRecDepth 20000 in
theorem CM_end {w : xw_G} {h : xw_H} (hb : xMb h) {x0 : Int32} {s : xMs} {out : (Int32 × xMs)} (hF : FM_end x0 s = some out) : (s.2.2.1.2.2.2.2.2.2.1 ≤ out.2.2.2.1.2.2.2.2.2.2.1 ∧ s.2.2.1.2.2.2.2.2.2.2 ≤ out.2.2.2.1.2.2.2.2.2.2.2) ∧ xw_C w (mM_end { frames := 1, cells := out.2.2.2.1.2.2.2.2.2.2.1 - s.2.2.1.2.2.2.2.2.2.1, slots := out.2.2.2.1.2.2.2.2.2.2.2 - s.2.2.1.2.2.2.2.2.2.2, locals := 21 }) (xw_R (some (.int out.1)) (mV out.2 h)) [.ref 2000, .int x0] (mV s h) := by
  unfold FM_end at hF
  refine xy_enter (L := [some (.ref 2000), some (.int x0)]) (fun _ => rfl) (fun _ => rfl) (fun _ => (show plainName "FormulaShaperModel" = true by decide +kernel)) (fun _ => (Nat.le_of_ble_eq_true rfl)) (fun _ => rfl) ?_
  have hm : s.2.2.1.2.2.2.2.2.2.1 ≤ s.2.2.1.2.2.2.2.2.2.1 ∧ s.2.2.1.2.2.2.2.2.2.2 ≤ s.2.2.1.2.2.2.2.2.2.2 := ⟨Nat.le_refl _, Nat.le_refl _⟩
  refine xy_r (xw_aload_n dM_end_0 rfl) ?_
  refine xy_r (xw_iconst (0) dM_end_1 (by decide)) ?_
  refine xy_r (xg_put dM_end_2 fM_185 rfl (by decide) (Nat.le_of_ble_eq_true rfl) (fun _ => rfl) (fun _ => rfl) (mV_o (s' := ((0, s.1.2), s.2)) rfl)) ?_
  refine xy_r (xw_iload_n dM_end_5 rfl) ?_
  refine xy_br (xw_if_lt 17 dM_end_6 (by decide)) (fun c1816 => ?_) (fun c1816 => ?_)
  · replace hF := xg_t c1816 hF
    refine xy_r (xw_aload_n dM_end_17 rfl) ?_
    refine xy_r (xw_iconst (1) dM_end_18 (by decide)) ?_
    obtain ⟨r1817, er1817, hF⟩ := xg_b hF
    have hm1818 : s.2.2.1.2.2.2.2.2.2.1 ≤ r1817.2.2.2.1.2.2.2.2.2.2.1 ∧ s.2.2.1.2.2.2.2.2.2.2 ≤ r1817.2.2.2.1.2.2.2.2.2.2.2 := xy_le hm (show s.2.2.1.2.2.2.2.2.2.1 ≤ r1817.2.2.2.1.2.2.2.2.2.2.1 ∧ s.2.2.1.2.2.2.2.2.2.2 ≤ r1817.2.2.2.1.2.2.2.2.2.2.2 from (CM_fail (w := w) (h := h) hb (s := ((0, s.1.2), s.2)) er1817).1)
    refine xy_V1 (nl := 2) (sm := s.2.2.1.2.2.2.2.2.2.1) (sn := s.2.2.1.2.2.2.2.2.2.2) (tm := r1817.2.2.2.1.2.2.2.2.2.2.1) (tn := r1817.2.2.2.1.2.2.2.2.2.2.2) (CM_fail hb (s := ((0, s.1.2), s.2)) er1817) rfl rfl hm (fun _ => rfl) (fun _ => rfl) (fun _ => rfl) (fun _ => dM_end_19) (fun _ R => kM_497 R) (fun _ => rfl) ⟨(Nat.le_of_ble_eq_true rfl), (Nat.le_of_ble_eq_true rfl)⟩ rfl rfl rfl (fun _ => rfl) (Nat.le_of_ble_eq_true rfl) ?_
    obtain rfl := Option.some.inj hF
    exact xy_end (xw_ireturn dM_end_22 rfl rfl (Nat.le_refl _) (Nat.le_refl _) ⟨rfl, rfl⟩)
  · replace hF := xg_f c1816 hF
    refine xy_r (xw_iload_n dM_end_9 rfl) ?_
    refine xy_r (xw_aload_n dM_end_10 rfl) ?_
    refine xy_r (xw_get dM_end_11 fM_500 rfl rfl) ?_
    refine xy_br (xw_icmp_le 23 dM_end_14 (by decide)) (fun c1820 => ?_) (fun c1820 => ?_)
    · replace hF := xg_t c1820 hF
      refine xy_r (xw_aload_n dM_end_23 rfl) ?_
      refine xy_r (xw_iload_n dM_end_24 rfl) ?_
      refine xy_r (xg_put dM_end_25 fM_500 rfl (by decide) (Nat.le_of_ble_eq_true rfl) (fun _ => rfl) (fun _ => rfl) (mV_o (s' := ((0, x0, s.1.2.2), s.2)) rfl)) ?_
      refine xy_r (xw_iload_n dM_end_28 rfl) ?_
      obtain rfl := Option.some.inj hF
      exact xy_end (xw_ireturn dM_end_29 rfl rfl (Nat.le_refl _) (Nat.le_refl _) ⟨rfl, rfl⟩)
    · replace hF := xg_f c1820 hF
      refine xy_r (xw_aload_n dM_end_17 rfl) ?_
      refine xy_r (xw_iconst (1) dM_end_18 (by decide)) ?_
      obtain ⟨r1821, er1821, hF⟩ := xg_b hF
      have hm1822 : s.2.2.1.2.2.2.2.2.2.1 ≤ r1821.2.2.2.1.2.2.2.2.2.2.1 ∧ s.2.2.1.2.2.2.2.2.2.2 ≤ r1821.2.2.2.1.2.2.2.2.2.2.2 := xy_le hm (show s.2.2.1.2.2.2.2.2.2.1 ≤ r1821.2.2.2.1.2.2.2.2.2.2.1 ∧ s.2.2.1.2.2.2.2.2.2.2 ≤ r1821.2.2.2.1.2.2.2.2.2.2.2 from (CM_fail (w := w) (h := h) hb (s := ((0, s.1.2), s.2)) er1821).1)
      refine xy_V1 (nl := 2) (sm := s.2.2.1.2.2.2.2.2.2.1) (sn := s.2.2.1.2.2.2.2.2.2.2) (tm := r1821.2.2.2.1.2.2.2.2.2.2.1) (tn := r1821.2.2.2.1.2.2.2.2.2.2.2) (CM_fail hb (s := ((0, s.1.2), s.2)) er1821) rfl rfl hm (fun _ => rfl) (fun _ => rfl) (fun _ => rfl) (fun _ => dM_end_19) (fun _ R => kM_497 R) (fun _ => rfl) ⟨(Nat.le_of_ble_eq_true rfl), (Nat.le_of_ble_eq_true rfl)⟩ rfl rfl rfl (fun _ => rfl) (Nat.le_of_ble_eq_true rfl) ?_
      obtain rfl := Option.some.inj hF
      exact xy_end (xw_ireturn dM_end_22 rfl rfl (Nat.le_refl _) (Nat.le_refl _) ⟨rfl, rfl⟩)
/-- FormulaShaperModel.copy -/
def FM_copy (x0 : Int32) (x1 : Int32) (s : xMs) : Option (xo Int32 xMs) := if x0 < (-100) then ((FM_fail 1 ((0, s.1.2), s.2)).bind fun r1825 => some (.inl (r1825.1, r1825.2))) else (if 100 < x0 then ((FM_fail 1 ((0, s.1.2), s.2)).bind fun r1829 => some (.inl (r1829.1, r1829.2))) else (if x1 < (-100) then ((FM_fail 1 ((0, s.1.2), s.2)).bind fun r1833 => some (.inl (r1833.1, r1833.2))) else (if x1 ≤ 100 then (if s.1.2.2.2.2.1 = 0 then ((FM_fail 2 ((0, s.1.2), s.2)).bind fun r1847 => some (.inl (r1847.1, r1847.2))) else (xo_b (FM_parsed ((0, s.1.2), s.2)) fun r1838 => (FM_H r1838.1 x0 x1 r1838.2).bind fun r1841 => (FM_keep r1838.1 3 r1841).bind fun r1844 => some (.inl (r1844.1, r1844.2)))) else ((FM_fail 1 ((0, s.1.2), s.2)).bind fun r1850 => some (.inl (r1850.1, r1850.2))))))
set_option maxRecDepth 20000 in
theorem CM_copy {w : xw_G} {h : xw_H} (hb : xMb h) {x0 : Int32} {x1 : Int32} {s : xMs} {out : (xo Int32 xMs)} (hF : FM_copy x0 x1 s = some out) : (s.2.2.1.2.2.2.2.2.2.1 ≤ (xo_s out).2.2.1.2.2.2.2.2.2.1 ∧ s.2.2.1.2.2.2.2.2.2.2 ≤ (xo_s out).2.2.1.2.2.2.2.2.2.2) ∧ xw_C w (mM_copy { frames := 1121, cells := (xo_s out).2.2.1.2.2.2.2.2.2.1 - s.2.2.1.2.2.2.2.2.2.1, slots := (xo_s out).2.2.1.2.2.2.2.2.2.2 - s.2.2.1.2.2.2.2.2.2.2, locals := 66624 }) (xo_P (fun x => some (.int x)) (fun s => mV s h) out) [.ref 2000, .int x0, .int x1] (mV s h) := by
  unfold FM_copy at hF
  refine xy_enter (L := [some (.ref 2000), some (.int x0), some (.int x1), none]) (fun _ => rfl) (fun _ => rfl) (fun _ => (show plainName "FormulaShaperModel" = true by decide +kernel)) (fun _ => (Nat.le_of_ble_eq_true rfl)) (fun _ => rfl) ?_
  have hm : s.2.2.1.2.2.2.2.2.2.1 ≤ s.2.2.1.2.2.2.2.2.2.1 ∧ s.2.2.1.2.2.2.2.2.2.2 ≤ s.2.2.1.2.2.2.2.2.2.2 := ⟨Nat.le_refl _, Nat.le_refl _⟩
  refine xy_r (xw_aload_n dM_copy_0 rfl) ?_
  refine xy_r (xw_iconst (0) dM_copy_1 (by decide)) ?_
  refine xy_r (xg_put dM_copy_2 fM_185 rfl (by decide) (Nat.le_of_ble_eq_true rfl) (fun _ => rfl) (fun _ => rfl) (mV_o (s' := ((0, s.1.2), s.2)) rfl)) ?_
  refine xy_r (xw_iload_n dM_copy_5 rfl) ?_
  refine xy_r (xw_bipush (-100) dM_copy_6 (by decide)) ?_
  refine xy_br (xw_icmp_lt 29 dM_copy_8 (by decide)) (fun c1824 => ?_) (fun c1824 => ?_)
  · replace hF := xg_t c1824 hF
    refine xy_r (xw_aload_n dM_copy_29 rfl) ?_
    refine xy_r (xw_iconst (1) dM_copy_30 (by decide)) ?_
    obtain ⟨r1825, er1825, hF⟩ := xg_b hF
    have hm1826 : s.2.2.1.2.2.2.2.2.2.1 ≤ r1825.2.2.2.1.2.2.2.2.2.2.1 ∧ s.2.2.1.2.2.2.2.2.2.2 ≤ r1825.2.2.2.1.2.2.2.2.2.2.2 := xy_le hm (show s.2.2.1.2.2.2.2.2.2.1 ≤ r1825.2.2.2.1.2.2.2.2.2.2.1 ∧ s.2.2.1.2.2.2.2.2.2.2 ≤ r1825.2.2.2.1.2.2.2.2.2.2.2 from (CM_fail (w := w) (h := h) hb (s := ((0, s.1.2), s.2)) er1825).1)
    refine xy_V1 (nl := 2) (sm := s.2.2.1.2.2.2.2.2.2.1) (sn := s.2.2.1.2.2.2.2.2.2.2) (tm := r1825.2.2.2.1.2.2.2.2.2.2.1) (tn := r1825.2.2.2.1.2.2.2.2.2.2.2) (CM_fail hb (s := ((0, s.1.2), s.2)) er1825) rfl rfl hm (fun _ => rfl) (fun _ => rfl) (fun _ => rfl) (fun _ => dM_copy_31) (fun _ R => kM_497 R) (fun _ => rfl) ⟨(Nat.le_of_ble_eq_true rfl), (Nat.le_of_ble_eq_true rfl)⟩ rfl rfl rfl (fun _ => rfl) (Nat.le_of_ble_eq_true rfl) ?_
    obtain rfl := Option.some.inj hF
    exact xy_end (xw_ireturn dM_copy_34 rfl rfl (Nat.le_refl _) (Nat.le_refl _) ⟨rfl, rfl⟩)
  · replace hF := xg_f c1824 hF
    refine xy_r (xw_iload_n dM_copy_11 rfl) ?_
    refine xy_r (xw_bipush (100) dM_copy_12 (by decide)) ?_
    refine xy_br (xw_icmp_gt 29 dM_copy_14 (by decide)) (fun c1828 => ?_) (fun c1828 => ?_)
    · replace hF := xg_t c1828 hF
      refine xy_r (xw_aload_n dM_copy_29 rfl) ?_
      refine xy_r (xw_iconst (1) dM_copy_30 (by decide)) ?_
      obtain ⟨r1829, er1829, hF⟩ := xg_b hF
      have hm1830 : s.2.2.1.2.2.2.2.2.2.1 ≤ r1829.2.2.2.1.2.2.2.2.2.2.1 ∧ s.2.2.1.2.2.2.2.2.2.2 ≤ r1829.2.2.2.1.2.2.2.2.2.2.2 := xy_le hm (show s.2.2.1.2.2.2.2.2.2.1 ≤ r1829.2.2.2.1.2.2.2.2.2.2.1 ∧ s.2.2.1.2.2.2.2.2.2.2 ≤ r1829.2.2.2.1.2.2.2.2.2.2.2 from (CM_fail (w := w) (h := h) hb (s := ((0, s.1.2), s.2)) er1829).1)
      refine xy_V1 (nl := 2) (sm := s.2.2.1.2.2.2.2.2.2.1) (sn := s.2.2.1.2.2.2.2.2.2.2) (tm := r1829.2.2.2.1.2.2.2.2.2.2.1) (tn := r1829.2.2.2.1.2.2.2.2.2.2.2) (CM_fail hb (s := ((0, s.1.2), s.2)) er1829) rfl rfl hm (fun _ => rfl) (fun _ => rfl) (fun _ => rfl) (fun _ => dM_copy_31) (fun _ R => kM_497 R) (fun _ => rfl) ⟨(Nat.le_of_ble_eq_true rfl), (Nat.le_of_ble_eq_true rfl)⟩ rfl rfl rfl (fun _ => rfl) (Nat.le_of_ble_eq_true rfl) ?_
      obtain rfl := Option.some.inj hF
      exact xy_end (xw_ireturn dM_copy_34 rfl rfl (Nat.le_refl _) (Nat.le_refl _) ⟨rfl, rfl⟩)
    · replace hF := xg_f c1828 hF
      refine xy_r (xw_iload_n dM_copy_17 rfl) ?_
      refine xy_r (xw_bipush (-100) dM_copy_18 (by decide)) ?_
      refine xy_br (xw_icmp_lt 29 dM_copy_20 (by decide)) (fun c1832 => ?_) (fun c1832 => ?_)
      · replace hF := xg_t c1832 hF
        refine xy_r (xw_aload_n dM_copy_29 rfl) ?_
        refine xy_r (xw_iconst (1) dM_copy_30 (by decide)) ?_
        obtain ⟨r1833, er1833, hF⟩ := xg_b hF
        have hm1834 : s.2.2.1.2.2.2.2.2.2.1 ≤ r1833.2.2.2.1.2.2.2.2.2.2.1 ∧ s.2.2.1.2.2.2.2.2.2.2 ≤ r1833.2.2.2.1.2.2.2.2.2.2.2 := xy_le hm (show s.2.2.1.2.2.2.2.2.2.1 ≤ r1833.2.2.2.1.2.2.2.2.2.2.1 ∧ s.2.2.1.2.2.2.2.2.2.2 ≤ r1833.2.2.2.1.2.2.2.2.2.2.2 from (CM_fail (w := w) (h := h) hb (s := ((0, s.1.2), s.2)) er1833).1)
        refine xy_V1 (nl := 2) (sm := s.2.2.1.2.2.2.2.2.2.1) (sn := s.2.2.1.2.2.2.2.2.2.2) (tm := r1833.2.2.2.1.2.2.2.2.2.2.1) (tn := r1833.2.2.2.1.2.2.2.2.2.2.2) (CM_fail hb (s := ((0, s.1.2), s.2)) er1833) rfl rfl hm (fun _ => rfl) (fun _ => rfl) (fun _ => rfl) (fun _ => dM_copy_31) (fun _ R => kM_497 R) (fun _ => rfl) ⟨(Nat.le_of_ble_eq_true rfl), (Nat.le_of_ble_eq_true rfl)⟩ rfl rfl rfl (fun _ => rfl) (Nat.le_of_ble_eq_true rfl) ?_
        obtain rfl := Option.some.inj hF
        exact xy_end (xw_ireturn dM_copy_34 rfl rfl (Nat.le_refl _) (Nat.le_refl _) ⟨rfl, rfl⟩)
      · replace hF := xg_f c1832 hF
        refine xy_r (xw_iload_n dM_copy_23 rfl) ?_
        refine xy_r (xw_bipush (100) dM_copy_24 (by decide)) ?_
        refine xy_br (xw_icmp_le 35 dM_copy_26 (by decide)) (fun c1836 => ?_) (fun c1836 => ?_)
        · replace hF := xg_t c1836 hF
          refine xy_r (xw_aload_n dM_copy_35 rfl) ?_
          refine xy_r (xw_get dM_copy_36 fM_487 rfl rfl) ?_
          refine xy_brn (xw_if_ne 48 dM_copy_39 (by decide)) (fun c1837 => ?_) (fun c1837 => ?_)
          · replace hF := xg_f c1837 hF
            refine xy_r (xw_aload_n dM_copy_48 rfl) ?_
            rcases xg_o hF with ⟨r1838, er1838, hF⟩ | ⟨r1838, er1838, hF⟩
            · have hm1839 : s.2.2.1.2.2.2.2.2.2.1 ≤ r1838.2.2.2.1.2.2.2.2.2.2.1 ∧ s.2.2.1.2.2.2.2.2.2.2 ≤ r1838.2.2.2.1.2.2.2.2.2.2.2 := xy_le hm (show s.2.2.1.2.2.2.2.2.2.1 ≤ r1838.2.2.2.1.2.2.2.2.2.2.1 ∧ s.2.2.1.2.2.2.2.2.2.2 ≤ r1838.2.2.2.1.2.2.2.2.2.2.2 from (CM_parsed (w := w) (h := h) hb (s := ((0, s.1.2), s.2)) er1838).1)
              refine xy_V1 (nl := 1) (sm := s.2.2.1.2.2.2.2.2.2.1) (sn := s.2.2.1.2.2.2.2.2.2.2) (tm := r1838.2.2.2.1.2.2.2.2.2.2.1) (tn := r1838.2.2.2.1.2.2.2.2.2.2.2) (CM_parsed hb (s := ((0, s.1.2), s.2)) er1838) rfl rfl hm (fun _ => rfl) (fun _ => rfl) (fun _ => rfl) (fun _ => dM_copy_49) (fun _ R => kM_507 R) (fun _ => rfl) ⟨(Nat.le_of_ble_eq_true rfl), (Nat.le_of_ble_eq_true rfl)⟩ rfl rfl rfl (fun _ => rfl) (Nat.le_of_ble_eq_true rfl) ?_
              refine xy_r (xw_astore_n dM_copy_52 (Nat.le_of_ble_eq_true rfl)) ?_
              refine xy_r (xw_Ln (L' := [some (.ref 2000), some (.int x0), some (.int x1), some (.ref (xn r1838.1))]) rfl) ?_
              refine xy_r (xw_aload_n dM_copy_53 rfl) ?_
              refine xy_r (xw_aload_n dM_copy_54 rfl) ?_
              refine xy_r (xw_iload_n dM_copy_55 rfl) ?_
              refine xy_r (xw_iload_n dM_copy_56 rfl) ?_
              obtain ⟨r1841, er1841, hF⟩ := xg_b hF
              have hm1842 : s.2.2.1.2.2.2.2.2.2.1 ≤ r1841.2.2.1.2.2.2.2.2.2.1 ∧ s.2.2.1.2.2.2.2.2.2.2 ≤ r1841.2.2.1.2.2.2.2.2.2.2 := xy_le hm1839 (show r1838.2.2.2.1.2.2.2.2.2.2.1 ≤ r1841.2.2.1.2.2.2.2.2.2.1 ∧ r1838.2.2.2.1.2.2.2.2.2.2.2 ≤ r1841.2.2.1.2.2.2.2.2.2.2 from (CM_H (w := w) (h := h) hb (s := r1838.2) er1841).1)
              refine xy_V0 (nl := 5) (sm := r1838.2.2.2.1.2.2.2.2.2.2.1) (sn := r1838.2.2.2.1.2.2.2.2.2.2.2) (tm := r1841.2.2.1.2.2.2.2.2.2.1) (tn := r1841.2.2.1.2.2.2.2.2.2.2) (CM_H hb (s := r1838.2) er1841) rfl rfl hm1839 (fun _ => rfl) (fun _ => rfl) (fun _ => rfl) (fun _ => dM_copy_57) (fun _ R => kM_463 R) (fun _ => rfl) ⟨(Nat.le_of_ble_eq_true rfl), (Nat.le_of_ble_eq_true rfl)⟩ rfl rfl rfl (fun _ => rfl) (Nat.le_of_ble_eq_true rfl) ?_
              refine xy_r (xw_aload_n dM_copy_60 rfl) ?_
              refine xy_r (xw_aload_n dM_copy_61 rfl) ?_
              refine xy_r (xw_iconst (3) dM_copy_62 (by decide)) ?_
              obtain ⟨r1844, er1844, hF⟩ := xg_b hF
              have hm1845 : s.2.2.1.2.2.2.2.2.2.1 ≤ r1844.2.2.2.1.2.2.2.2.2.2.1 ∧ s.2.2.1.2.2.2.2.2.2.2 ≤ r1844.2.2.2.1.2.2.2.2.2.2.2 := xy_le hm1842 (show r1841.2.2.1.2.2.2.2.2.2.1 ≤ r1844.2.2.2.1.2.2.2.2.2.2.1 ∧ r1841.2.2.1.2.2.2.2.2.2.2 ≤ r1844.2.2.2.1.2.2.2.2.2.2.2 from (CM_keep (w := w) (h := h) hb (s := r1841) er1844).1)
              refine xy_V1 (nl := 4) (sm := r1841.2.2.1.2.2.2.2.2.2.1) (sn := r1841.2.2.1.2.2.2.2.2.2.2) (tm := r1844.2.2.2.1.2.2.2.2.2.2.1) (tn := r1844.2.2.2.1.2.2.2.2.2.2.2) (CM_keep hb (s := r1841) er1844) rfl rfl hm1842 (fun _ => rfl) (fun _ => rfl) (fun _ => rfl) (fun _ => dM_copy_63) (fun _ R => kM_503 R) (fun _ => rfl) ⟨(Nat.le_of_ble_eq_true rfl), (Nat.le_of_ble_eq_true rfl)⟩ rfl rfl rfl (fun _ => rfl) (Nat.le_of_ble_eq_true rfl) ?_
              obtain rfl := Option.some.inj hF
              exact xy_end (xw_ireturn dM_copy_66 rfl rfl (Nat.le_refl _) (Nat.le_refl _) ⟨rfl, rfl⟩)
            · subst hF
              exact xy_Vt (nl := 1) (sm := s.2.2.1.2.2.2.2.2.2.1) (sn := s.2.2.1.2.2.2.2.2.2.2) (tm := r1838.2.2.2.1.2.2.2.2.2.2.1) (tn := r1838.2.2.2.1.2.2.2.2.2.2.2) (CM_parsed hb (s := ((0, s.1.2), s.2)) er1838) rfl rfl hm (fun _ => rfl) (fun _ => rfl) (fun _ => rfl) (fun _ => dM_copy_49) (fun _ R => kM_507 R) (fun _ => rfl) ⟨(Nat.le_of_ble_eq_true rfl), (Nat.le_of_ble_eq_true rfl)⟩ rfl rfl rfl (fun _ => rfl) (Nat.le_of_ble_eq_true rfl) ⟨rfl, rfl⟩
          · replace hF := xg_t c1837 hF
            refine xy_r (xw_aload_n dM_copy_42 rfl) ?_
            refine xy_r (xw_iconst (2) dM_copy_43 (by decide)) ?_
            obtain ⟨r1847, er1847, hF⟩ := xg_b hF
            have hm1848 : s.2.2.1.2.2.2.2.2.2.1 ≤ r1847.2.2.2.1.2.2.2.2.2.2.1 ∧ s.2.2.1.2.2.2.2.2.2.2 ≤ r1847.2.2.2.1.2.2.2.2.2.2.2 := xy_le hm (show s.2.2.1.2.2.2.2.2.2.1 ≤ r1847.2.2.2.1.2.2.2.2.2.2.1 ∧ s.2.2.1.2.2.2.2.2.2.2 ≤ r1847.2.2.2.1.2.2.2.2.2.2.2 from (CM_fail (w := w) (h := h) hb (s := ((0, s.1.2), s.2)) er1847).1)
            refine xy_V1 (nl := 2) (sm := s.2.2.1.2.2.2.2.2.2.1) (sn := s.2.2.1.2.2.2.2.2.2.2) (tm := r1847.2.2.2.1.2.2.2.2.2.2.1) (tn := r1847.2.2.2.1.2.2.2.2.2.2.2) (CM_fail hb (s := ((0, s.1.2), s.2)) er1847) rfl rfl hm (fun _ => rfl) (fun _ => rfl) (fun _ => rfl) (fun _ => dM_copy_44) (fun _ R => kM_497 R) (fun _ => rfl) ⟨(Nat.le_of_ble_eq_true rfl), (Nat.le_of_ble_eq_true rfl)⟩ rfl rfl rfl (fun _ => rfl) (Nat.le_of_ble_eq_true rfl) ?_
            obtain rfl := Option.some.inj hF
            exact xy_end (xw_ireturn dM_copy_47 rfl rfl (Nat.le_refl _) (Nat.le_refl _) ⟨rfl, rfl⟩)
        · replace hF := xg_f c1836 hF
          refine xy_r (xw_aload_n dM_copy_29 rfl) ?_
          refine xy_r (xw_iconst (1) dM_copy_30 (by decide)) ?_
          obtain ⟨r1850, er1850, hF⟩ := xg_b hF
          have hm1851 : s.2.2.1.2.2.2.2.2.2.1 ≤ r1850.2.2.2.1.2.2.2.2.2.2.1 ∧ s.2.2.1.2.2.2.2.2.2.2 ≤ r1850.2.2.2.1.2.2.2.2.2.2.2 := xy_le hm (show s.2.2.1.2.2.2.2.2.2.1 ≤ r1850.2.2.2.1.2.2.2.2.2.2.1 ∧ s.2.2.1.2.2.2.2.2.2.2 ≤ r1850.2.2.2.1.2.2.2.2.2.2.2 from (CM_fail (w := w) (h := h) hb (s := ((0, s.1.2), s.2)) er1850).1)
          refine xy_V1 (nl := 2) (sm := s.2.2.1.2.2.2.2.2.2.1) (sn := s.2.2.1.2.2.2.2.2.2.2) (tm := r1850.2.2.2.1.2.2.2.2.2.2.1) (tn := r1850.2.2.2.1.2.2.2.2.2.2.2) (CM_fail hb (s := ((0, s.1.2), s.2)) er1850) rfl rfl hm (fun _ => rfl) (fun _ => rfl) (fun _ => rfl) (fun _ => dM_copy_31) (fun _ R => kM_497 R) (fun _ => rfl) ⟨(Nat.le_of_ble_eq_true rfl), (Nat.le_of_ble_eq_true rfl)⟩ rfl rfl rfl (fun _ => rfl) (Nat.le_of_ble_eq_true rfl) ?_
          obtain rfl := Option.some.inj hF
          exact xy_end (xw_ireturn dM_copy_34 rfl rfl (Nat.le_refl _) (Nat.le_refl _) ⟨rfl, rfl⟩)
def FM_change_16 (l1 : Bool) (l2 : Int32) (l3 : Int32) (l4 : Bool) (t0 : Int32) (s : xMs) : Option (xo Int32 xMs) := if l2 < 0 then ((FM_fail 1 s).bind fun r1855 => some (.inl (r1855.1, r1855.2))) else (if l3 < 1 then ((FM_fail 1 s).bind fun r1859 => some (.inl (r1859.1, r1859.2))) else (if t0 ≤ l2 then ((FM_fail 1 s).bind fun r1863 => some (.inl (r1863.1, r1863.2))) else (if l3 ≤ (t0 - l2) then (if s.1.2.2.2.2.1 = 0 then ((FM_fail 2 s).bind fun r1877 => some (.inl (r1877.1, r1877.2))) else (xo_b (FM_parsed s) fun r1868 => (FM_V r1868.1 l1 l2 l3 l4 r1868.2).bind fun r1871 => (FM_keep r1868.1 3 r1871).bind fun r1874 => some (.inl (r1874.1, r1874.2)))) else ((FM_fail 1 s).bind fun r1880 => some (.inl (r1880.1, r1880.2))))))
/-- FormulaShaperModel.change -/
def FM_change (x0 : Bool) (x1 : Int32) (x2 : Int32) (x3 : Bool) (s : xMs) : Option (xo Int32 xMs) := if x0 = true then (FM_change_16 x0 x1 x2 x3 26 ((0, s.1.2), s.2)) else (FM_change_16 x0 x1 x2 x3 80 ((0, s.1.2), s.2))
set_option maxRecDepth 20000 in
theorem CM_change_16 {w : xw_G} {h : xw_H} (hb : xMb h)  {l1 : Bool} {l2 : Int32} {l3 : Int32} {l4 : Bool} {t0 : Int32} {s : xMs} {out : (xo Int32 xMs)} {h0 : xw_H} {m0 n0 : Nat} (hm : m0 ≤ s.2.2.1.2.2.2.2.2.2.1 ∧ n0 ≤ s.2.2.1.2.2.2.2.2.2.2) (hF : FM_change_16 l1 l2 l3 l4 t0 s = some out) : xw_Y w mM_change 1121 66630 (xo_P (fun x => some (.int x)) (fun s => mV s h) out) h0 m0 n0 s.2.2.1.2.2.2.2.2.2.1 s.2.2.1.2.2.2.2.2.2.2 (xo_s out).2.2.1.2.2.2.2.2.2.1 (xo_s out).2.2.1.2.2.2.2.2.2.2 16 [some (.ref 2000), some (.int (xb l1)), some (.int l2), some (.int l3), some (.int (xb l4)), none, none] [.int t0] (mV s h) := by
  unfold FM_change_16 at hF
  refine xy_r (xw_istore dM_change_16 (Nat.le_of_ble_eq_true rfl)) ?_
  refine xy_r (xw_Ln (L' := [some (.ref 2000), some (.int (xb l1)), some (.int l2), some (.int l3), some (.int (xb l4)), some (.int t0), none]) rfl) ?_
  refine xy_r (xw_iload_n dM_change_18 rfl) ?_
  refine xy_br (xw_if_lt 41 dM_change_19 (by decide)) (fun c1854 => ?_) (fun c1854 => ?_)
  · replace hF := xg_t c1854 hF
    refine xy_r (xw_aload_n dM_change_41 rfl) ?_
    refine xy_r (xw_iconst (1) dM_change_42 (by decide)) ?_
    obtain ⟨r1855, er1855, hF⟩ := xg_b hF
    have hm1856 : m0 ≤ r1855.2.2.2.1.2.2.2.2.2.2.1 ∧ n0 ≤ r1855.2.2.2.1.2.2.2.2.2.2.2 := xy_le hm (show s.2.2.1.2.2.2.2.2.2.1 ≤ r1855.2.2.2.1.2.2.2.2.2.2.1 ∧ s.2.2.1.2.2.2.2.2.2.2 ≤ r1855.2.2.2.1.2.2.2.2.2.2.2 from (CM_fail (w := w) (h := h) hb (s := s) er1855).1)
    refine xy_V1 (nl := 2) (sm := s.2.2.1.2.2.2.2.2.2.1) (sn := s.2.2.1.2.2.2.2.2.2.2) (tm := r1855.2.2.2.1.2.2.2.2.2.2.1) (tn := r1855.2.2.2.1.2.2.2.2.2.2.2) (CM_fail hb (s := s) er1855) rfl rfl hm (fun _ => rfl) (fun _ => rfl) (fun _ => rfl) (fun _ => dM_change_43) (fun _ R => kM_497 R) (fun _ => rfl) ⟨(Nat.le_of_ble_eq_true rfl), (Nat.le_of_ble_eq_true rfl)⟩ rfl rfl rfl (fun _ => rfl) (Nat.le_of_ble_eq_true rfl) ?_
    obtain rfl := Option.some.inj hF
    exact xy_end (xw_ireturn dM_change_46 rfl rfl (Nat.le_refl _) (Nat.le_refl _) ⟨rfl, rfl⟩)
  · replace hF := xg_f c1854 hF
    refine xy_r (xw_iload_n dM_change_22 rfl) ?_
    refine xy_r (xw_iconst (1) dM_change_23 (by decide)) ?_
    refine xy_br (xw_icmp_lt 41 dM_change_24 (by decide)) (fun c1858 => ?_) (fun c1858 => ?_)
    · replace hF := xg_t c1858 hF
      refine xy_r (xw_aload_n dM_change_41 rfl) ?_
      refine xy_r (xw_iconst (1) dM_change_42 (by decide)) ?_
      obtain ⟨r1859, er1859, hF⟩ := xg_b hF
      have hm1860 : m0 ≤ r1859.2.2.2.1.2.2.2.2.2.2.1 ∧ n0 ≤ r1859.2.2.2.1.2.2.2.2.2.2.2 := xy_le hm (show s.2.2.1.2.2.2.2.2.2.1 ≤ r1859.2.2.2.1.2.2.2.2.2.2.1 ∧ s.2.2.1.2.2.2.2.2.2.2 ≤ r1859.2.2.2.1.2.2.2.2.2.2.2 from (CM_fail (w := w) (h := h) hb (s := s) er1859).1)
      refine xy_V1 (nl := 2) (sm := s.2.2.1.2.2.2.2.2.2.1) (sn := s.2.2.1.2.2.2.2.2.2.2) (tm := r1859.2.2.2.1.2.2.2.2.2.2.1) (tn := r1859.2.2.2.1.2.2.2.2.2.2.2) (CM_fail hb (s := s) er1859) rfl rfl hm (fun _ => rfl) (fun _ => rfl) (fun _ => rfl) (fun _ => dM_change_43) (fun _ R => kM_497 R) (fun _ => rfl) ⟨(Nat.le_of_ble_eq_true rfl), (Nat.le_of_ble_eq_true rfl)⟩ rfl rfl rfl (fun _ => rfl) (Nat.le_of_ble_eq_true rfl) ?_
      obtain rfl := Option.some.inj hF
      exact xy_end (xw_ireturn dM_change_46 rfl rfl (Nat.le_refl _) (Nat.le_refl _) ⟨rfl, rfl⟩)
    · replace hF := xg_f c1858 hF
      refine xy_r (xw_iload_n dM_change_27 rfl) ?_
      refine xy_r (xw_iload dM_change_28 rfl) ?_
      refine xy_br (xw_icmp_ge 41 dM_change_30 (by decide)) (fun c1862 => ?_) (fun c1862 => ?_)
      · replace hF := xg_t c1862 hF
        refine xy_r (xw_aload_n dM_change_41 rfl) ?_
        refine xy_r (xw_iconst (1) dM_change_42 (by decide)) ?_
        obtain ⟨r1863, er1863, hF⟩ := xg_b hF
        have hm1864 : m0 ≤ r1863.2.2.2.1.2.2.2.2.2.2.1 ∧ n0 ≤ r1863.2.2.2.1.2.2.2.2.2.2.2 := xy_le hm (show s.2.2.1.2.2.2.2.2.2.1 ≤ r1863.2.2.2.1.2.2.2.2.2.2.1 ∧ s.2.2.1.2.2.2.2.2.2.2 ≤ r1863.2.2.2.1.2.2.2.2.2.2.2 from (CM_fail (w := w) (h := h) hb (s := s) er1863).1)
        refine xy_V1 (nl := 2) (sm := s.2.2.1.2.2.2.2.2.2.1) (sn := s.2.2.1.2.2.2.2.2.2.2) (tm := r1863.2.2.2.1.2.2.2.2.2.2.1) (tn := r1863.2.2.2.1.2.2.2.2.2.2.2) (CM_fail hb (s := s) er1863) rfl rfl hm (fun _ => rfl) (fun _ => rfl) (fun _ => rfl) (fun _ => dM_change_43) (fun _ R => kM_497 R) (fun _ => rfl) ⟨(Nat.le_of_ble_eq_true rfl), (Nat.le_of_ble_eq_true rfl)⟩ rfl rfl rfl (fun _ => rfl) (Nat.le_of_ble_eq_true rfl) ?_
        obtain rfl := Option.some.inj hF
        exact xy_end (xw_ireturn dM_change_46 rfl rfl (Nat.le_refl _) (Nat.le_refl _) ⟨rfl, rfl⟩)
      · replace hF := xg_f c1862 hF
        refine xy_r (xw_iload_n dM_change_33 rfl) ?_
        refine xy_r (xw_iload dM_change_34 rfl) ?_
        refine xy_r (xw_iload_n dM_change_36 rfl) ?_
        refine xy_r (xw_isub dM_change_37) ?_
        refine xy_br (xw_icmp_le 47 dM_change_38 (by decide)) (fun c1866 => ?_) (fun c1866 => ?_)
        · replace hF := xg_t c1866 hF
          refine xy_r (xw_aload_n dM_change_47 rfl) ?_
          refine xy_r (xw_get dM_change_48 fM_487 rfl rfl) ?_
          refine xy_brn (xw_if_ne 60 dM_change_51 (by decide)) (fun c1867 => ?_) (fun c1867 => ?_)
          · replace hF := xg_f c1867 hF
            refine xy_r (xw_aload_n dM_change_60 rfl) ?_
            rcases xg_o hF with ⟨r1868, er1868, hF⟩ | ⟨r1868, er1868, hF⟩
            · have hm1869 : m0 ≤ r1868.2.2.2.1.2.2.2.2.2.2.1 ∧ n0 ≤ r1868.2.2.2.1.2.2.2.2.2.2.2 := xy_le hm (show s.2.2.1.2.2.2.2.2.2.1 ≤ r1868.2.2.2.1.2.2.2.2.2.2.1 ∧ s.2.2.1.2.2.2.2.2.2.2 ≤ r1868.2.2.2.1.2.2.2.2.2.2.2 from (CM_parsed (w := w) (h := h) hb (s := s) er1868).1)
              refine xy_V1 (nl := 1) (sm := s.2.2.1.2.2.2.2.2.2.1) (sn := s.2.2.1.2.2.2.2.2.2.2) (tm := r1868.2.2.2.1.2.2.2.2.2.2.1) (tn := r1868.2.2.2.1.2.2.2.2.2.2.2) (CM_parsed hb (s := s) er1868) rfl rfl hm (fun _ => rfl) (fun _ => rfl) (fun _ => rfl) (fun _ => dM_change_61) (fun _ R => kM_507 R) (fun _ => rfl) ⟨(Nat.le_of_ble_eq_true rfl), (Nat.le_of_ble_eq_true rfl)⟩ rfl rfl rfl (fun _ => rfl) (Nat.le_of_ble_eq_true rfl) ?_
              refine xy_r (xw_astore dM_change_64 (Nat.le_of_ble_eq_true rfl)) ?_
              refine xy_r (xw_Ln (L' := [some (.ref 2000), some (.int (xb l1)), some (.int l2), some (.int l3), some (.int (xb l4)), some (.int t0), some (.ref (xn r1868.1))]) rfl) ?_
              refine xy_r (xw_aload_n dM_change_66 rfl) ?_
              refine xy_r (xw_aload dM_change_67 rfl) ?_
              refine xy_r (xw_iload_n dM_change_69 rfl) ?_
              refine xy_r (xw_iload_n dM_change_70 rfl) ?_
              refine xy_r (xw_iload_n dM_change_71 rfl) ?_
              refine xy_r (xw_iload dM_change_72 rfl) ?_
              obtain ⟨r1871, er1871, hF⟩ := xg_b hF
              have hm1872 : m0 ≤ r1871.2.2.1.2.2.2.2.2.2.1 ∧ n0 ≤ r1871.2.2.1.2.2.2.2.2.2.2 := xy_le hm1869 (show r1868.2.2.2.1.2.2.2.2.2.2.1 ≤ r1871.2.2.1.2.2.2.2.2.2.1 ∧ r1868.2.2.2.1.2.2.2.2.2.2.2 ≤ r1871.2.2.1.2.2.2.2.2.2.2 from (CM_V (w := w) (h := h) hb (s := r1868.2) er1871).1)
              refine xy_V0 (nl := 11) (sm := r1868.2.2.2.1.2.2.2.2.2.2.1) (sn := r1868.2.2.2.1.2.2.2.2.2.2.2) (tm := r1871.2.2.1.2.2.2.2.2.2.1) (tn := r1871.2.2.1.2.2.2.2.2.2.2) (CM_V hb (s := r1868.2) er1871) rfl rfl hm1869 (fun _ => rfl) (fun _ => rfl) (fun _ => rfl) (fun _ => dM_change_74) (fun _ R => kM_473 R) (fun _ => rfl) ⟨(Nat.le_of_ble_eq_true rfl), (Nat.le_of_ble_eq_true rfl)⟩ rfl rfl rfl (fun _ => rfl) (Nat.le_of_ble_eq_true rfl) ?_
              refine xy_r (xw_aload_n dM_change_77 rfl) ?_
              refine xy_r (xw_aload dM_change_78 rfl) ?_
              refine xy_r (xw_iconst (3) dM_change_80 (by decide)) ?_
              obtain ⟨r1874, er1874, hF⟩ := xg_b hF
              have hm1875 : m0 ≤ r1874.2.2.2.1.2.2.2.2.2.2.1 ∧ n0 ≤ r1874.2.2.2.1.2.2.2.2.2.2.2 := xy_le hm1872 (show r1871.2.2.1.2.2.2.2.2.2.1 ≤ r1874.2.2.2.1.2.2.2.2.2.2.1 ∧ r1871.2.2.1.2.2.2.2.2.2.2 ≤ r1874.2.2.2.1.2.2.2.2.2.2.2 from (CM_keep (w := w) (h := h) hb (s := r1871) er1874).1)
              refine xy_V1 (nl := 4) (sm := r1871.2.2.1.2.2.2.2.2.2.1) (sn := r1871.2.2.1.2.2.2.2.2.2.2) (tm := r1874.2.2.2.1.2.2.2.2.2.2.1) (tn := r1874.2.2.2.1.2.2.2.2.2.2.2) (CM_keep hb (s := r1871) er1874) rfl rfl hm1872 (fun _ => rfl) (fun _ => rfl) (fun _ => rfl) (fun _ => dM_change_81) (fun _ R => kM_503 R) (fun _ => rfl) ⟨(Nat.le_of_ble_eq_true rfl), (Nat.le_of_ble_eq_true rfl)⟩ rfl rfl rfl (fun _ => rfl) (Nat.le_of_ble_eq_true rfl) ?_
              obtain rfl := Option.some.inj hF
              exact xy_end (xw_ireturn dM_change_84 rfl rfl (Nat.le_refl _) (Nat.le_refl _) ⟨rfl, rfl⟩)
            · subst hF
              exact xy_Vt (nl := 1) (sm := s.2.2.1.2.2.2.2.2.2.1) (sn := s.2.2.1.2.2.2.2.2.2.2) (tm := r1868.2.2.2.1.2.2.2.2.2.2.1) (tn := r1868.2.2.2.1.2.2.2.2.2.2.2) (CM_parsed hb (s := s) er1868) rfl rfl hm (fun _ => rfl) (fun _ => rfl) (fun _ => rfl) (fun _ => dM_change_61) (fun _ R => kM_507 R) (fun _ => rfl) ⟨(Nat.le_of_ble_eq_true rfl), (Nat.le_of_ble_eq_true rfl)⟩ rfl rfl rfl (fun _ => rfl) (Nat.le_of_ble_eq_true rfl) ⟨rfl, rfl⟩
          · replace hF := xg_t c1867 hF
            refine xy_r (xw_aload_n dM_change_54 rfl) ?_
            refine xy_r (xw_iconst (2) dM_change_55 (by decide)) ?_
            obtain ⟨r1877, er1877, hF⟩ := xg_b hF
            have hm1878 : m0 ≤ r1877.2.2.2.1.2.2.2.2.2.2.1 ∧ n0 ≤ r1877.2.2.2.1.2.2.2.2.2.2.2 := xy_le hm (show s.2.2.1.2.2.2.2.2.2.1 ≤ r1877.2.2.2.1.2.2.2.2.2.2.1 ∧ s.2.2.1.2.2.2.2.2.2.2 ≤ r1877.2.2.2.1.2.2.2.2.2.2.2 from (CM_fail (w := w) (h := h) hb (s := s) er1877).1)
            refine xy_V1 (nl := 2) (sm := s.2.2.1.2.2.2.2.2.2.1) (sn := s.2.2.1.2.2.2.2.2.2.2) (tm := r1877.2.2.2.1.2.2.2.2.2.2.1) (tn := r1877.2.2.2.1.2.2.2.2.2.2.2) (CM_fail hb (s := s) er1877) rfl rfl hm (fun _ => rfl) (fun _ => rfl) (fun _ => rfl) (fun _ => dM_change_56) (fun _ R => kM_497 R) (fun _ => rfl) ⟨(Nat.le_of_ble_eq_true rfl), (Nat.le_of_ble_eq_true rfl)⟩ rfl rfl rfl (fun _ => rfl) (Nat.le_of_ble_eq_true rfl) ?_
            obtain rfl := Option.some.inj hF
            exact xy_end (xw_ireturn dM_change_59 rfl rfl (Nat.le_refl _) (Nat.le_refl _) ⟨rfl, rfl⟩)
        · replace hF := xg_f c1866 hF
          refine xy_r (xw_aload_n dM_change_41 rfl) ?_
          refine xy_r (xw_iconst (1) dM_change_42 (by decide)) ?_
          obtain ⟨r1880, er1880, hF⟩ := xg_b hF
          have hm1881 : m0 ≤ r1880.2.2.2.1.2.2.2.2.2.2.1 ∧ n0 ≤ r1880.2.2.2.1.2.2.2.2.2.2.2 := xy_le hm (show s.2.2.1.2.2.2.2.2.2.1 ≤ r1880.2.2.2.1.2.2.2.2.2.2.1 ∧ s.2.2.1.2.2.2.2.2.2.2 ≤ r1880.2.2.2.1.2.2.2.2.2.2.2 from (CM_fail (w := w) (h := h) hb (s := s) er1880).1)
          refine xy_V1 (nl := 2) (sm := s.2.2.1.2.2.2.2.2.2.1) (sn := s.2.2.1.2.2.2.2.2.2.2) (tm := r1880.2.2.2.1.2.2.2.2.2.2.1) (tn := r1880.2.2.2.1.2.2.2.2.2.2.2) (CM_fail hb (s := s) er1880) rfl rfl hm (fun _ => rfl) (fun _ => rfl) (fun _ => rfl) (fun _ => dM_change_43) (fun _ R => kM_497 R) (fun _ => rfl) ⟨(Nat.le_of_ble_eq_true rfl), (Nat.le_of_ble_eq_true rfl)⟩ rfl rfl rfl (fun _ => rfl) (Nat.le_of_ble_eq_true rfl) ?_
          obtain rfl := Option.some.inj hF
          exact xy_end (xw_ireturn dM_change_46 rfl rfl (Nat.le_refl _) (Nat.le_refl _) ⟨rfl, rfl⟩)
set_option maxRecDepth 20000 in
theorem CM_change {w : xw_G} {h : xw_H} (hb : xMb h) {x0 : Bool} {x1 : Int32} {x2 : Int32} {x3 : Bool} {s : xMs} {out : (xo Int32 xMs)} (hF : FM_change x0 x1 x2 x3 s = some out) : (s.2.2.1.2.2.2.2.2.2.1 ≤ (xo_s out).2.2.1.2.2.2.2.2.2.1 ∧ s.2.2.1.2.2.2.2.2.2.2 ≤ (xo_s out).2.2.1.2.2.2.2.2.2.2) ∧ xw_C w (mM_change { frames := 1121, cells := (xo_s out).2.2.1.2.2.2.2.2.2.1 - s.2.2.1.2.2.2.2.2.2.1, slots := (xo_s out).2.2.1.2.2.2.2.2.2.2 - s.2.2.1.2.2.2.2.2.2.2, locals := 66630 }) (xo_P (fun x => some (.int x)) (fun s => mV s h) out) [.ref 2000, .int (xb x0), .int x1, .int x2, .int (xb x3)] (mV s h) := by
  unfold FM_change at hF
  refine xy_enter (L := [some (.ref 2000), some (.int (xb x0)), some (.int x1), some (.int x2), some (.int (xb x3)), none, none]) (fun _ => rfl) (fun _ => rfl) (fun _ => (show plainName "FormulaShaperModel" = true by decide +kernel)) (fun _ => (Nat.le_of_ble_eq_true rfl)) (fun _ => rfl) ?_
  have hm : s.2.2.1.2.2.2.2.2.2.1 ≤ s.2.2.1.2.2.2.2.2.2.1 ∧ s.2.2.1.2.2.2.2.2.2.2 ≤ s.2.2.1.2.2.2.2.2.2.2 := ⟨Nat.le_refl _, Nat.le_refl _⟩
  refine xy_r (xw_aload_n dM_change_0 rfl) ?_
  refine xy_r (xw_iconst (0) dM_change_1 (by decide)) ?_
  refine xy_r (xg_put dM_change_2 fM_185 rfl (by decide) (Nat.le_of_ble_eq_true rfl) (fun _ => rfl) (fun _ => rfl) (mV_o (s' := ((0, s.1.2), s.2)) rfl)) ?_
  refine xy_r (xw_iload_n dM_change_5 rfl) ?_
  refine xy_brn (xw_if_eqB 14 dM_change_6 (by decide)) (fun c1853 => ?_) (fun c1853 => ?_)
  · replace hF := xg_f c1853 hF
    refine xy_r (xw_bipush (80) dM_change_14 (by decide)) ?_
    exact CM_change_16 hb (s := ((0, s.1.2), s.2)) hm hF
  · replace hF := xg_t c1853 hF
    refine xy_r (xw_bipush (26) dM_change_9 (by decide)) ?_
    refine xy_r (xw_goto 16 dM_change_11 (by decide)) ?_
    exact CM_change_16 hb (s := ((0, s.1.2), s.2)) hm hF
/-- FormulaShaperModel.insert -/
def FM_insert (x0 : Bool) (x1 : Int32) (x2 : Int32) (s : xMs) : Option (xo Int32 xMs) := xo_b (FM_change x0 x1 x2 true s) fun r1883 => some (.inl (r1883.1, r1883.2))
set_option maxRecDepth 20000 in
theorem CM_insert {w : xw_G} {h : xw_H} (hb : xMb h) {x0 : Bool} {x1 : Int32} {x2 : Int32} {s : xMs} {out : (xo Int32 xMs)} (hF : FM_insert x0 x1 x2 s = some out) : (s.2.2.1.2.2.2.2.2.2.1 ≤ (xo_s out).2.2.1.2.2.2.2.2.2.1 ∧ s.2.2.1.2.2.2.2.2.2.2 ≤ (xo_s out).2.2.1.2.2.2.2.2.2.2) ∧ xw_C w (mM_insert { frames := 1122, cells := (xo_s out).2.2.1.2.2.2.2.2.2.1 - s.2.2.1.2.2.2.2.2.2.1, slots := (xo_s out).2.2.1.2.2.2.2.2.2.2 - s.2.2.1.2.2.2.2.2.2.2, locals := 66656 }) (xo_P (fun x => some (.int x)) (fun s => mV s h) out) [.ref 2000, .int (xb x0), .int x1, .int x2] (mV s h) := by
  unfold FM_insert at hF
  refine xy_enter (L := [some (.ref 2000), some (.int (xb x0)), some (.int x1), some (.int x2)]) (fun _ => rfl) (fun _ => rfl) (fun _ => (show plainName "FormulaShaperModel" = true by decide +kernel)) (fun _ => (Nat.le_of_ble_eq_true rfl)) (fun _ => rfl) ?_
  have hm : s.2.2.1.2.2.2.2.2.2.1 ≤ s.2.2.1.2.2.2.2.2.2.1 ∧ s.2.2.1.2.2.2.2.2.2.2 ≤ s.2.2.1.2.2.2.2.2.2.2 := ⟨Nat.le_refl _, Nat.le_refl _⟩
  refine xy_r (xw_aload_n dM_insert_0 rfl) ?_
  refine xy_r (xw_iload_n dM_insert_1 rfl) ?_
  refine xy_r (xw_iload_n dM_insert_2 rfl) ?_
  refine xy_r (xw_iload_n dM_insert_3 rfl) ?_
  refine xy_r (xw_iconst (1) dM_insert_4 (by decide)) ?_
  rcases xg_o hF with ⟨r1883, er1883, hF⟩ | ⟨r1883, er1883, hF⟩
  · have hm1884 : s.2.2.1.2.2.2.2.2.2.1 ≤ r1883.2.2.2.1.2.2.2.2.2.2.1 ∧ s.2.2.1.2.2.2.2.2.2.2 ≤ r1883.2.2.2.1.2.2.2.2.2.2.2 := xy_le hm (show s.2.2.1.2.2.2.2.2.2.1 ≤ r1883.2.2.2.1.2.2.2.2.2.2.1 ∧ s.2.2.1.2.2.2.2.2.2.2 ≤ r1883.2.2.2.1.2.2.2.2.2.2.2 from (CM_change (w := w) (h := h) hb (s := s) er1883).1)
    refine xy_V1 (nl := 7) (sm := s.2.2.1.2.2.2.2.2.2.1) (sn := s.2.2.1.2.2.2.2.2.2.2) (tm := r1883.2.2.2.1.2.2.2.2.2.2.1) (tn := r1883.2.2.2.1.2.2.2.2.2.2.2) (CM_change hb (s := s) er1883) rfl rfl hm (fun _ => rfl) (fun _ => rfl) (fun _ => rfl) (fun _ => dM_insert_5) (fun _ R => kM_510 R) (fun _ => rfl) ⟨(Nat.le_of_ble_eq_true rfl), (Nat.le_of_ble_eq_true rfl)⟩ rfl rfl rfl (fun _ => rfl) (Nat.le_of_ble_eq_true rfl) ?_
    obtain rfl := Option.some.inj hF
    exact xy_end (xw_ireturn dM_insert_8 rfl rfl (Nat.le_refl _) (Nat.le_refl _) ⟨rfl, rfl⟩)
  · subst hF
    exact xy_Vt (nl := 7) (sm := s.2.2.1.2.2.2.2.2.2.1) (sn := s.2.2.1.2.2.2.2.2.2.2) (tm := r1883.2.2.2.1.2.2.2.2.2.2.1) (tn := r1883.2.2.2.1.2.2.2.2.2.2.2) (CM_change hb (s := s) er1883) rfl rfl hm (fun _ => rfl) (fun _ => rfl) (fun _ => rfl) (fun _ => dM_insert_5) (fun _ R => kM_510 R) (fun _ => rfl) ⟨(Nat.le_of_ble_eq_true rfl), (Nat.le_of_ble_eq_true rfl)⟩ rfl rfl rfl (fun _ => rfl) (Nat.le_of_ble_eq_true rfl) ⟨rfl, rfl⟩
/-- FormulaShaperModel.remove -/
def FM_remove (x0 : Bool) (x1 : Int32) (x2 : Int32) (s : xMs) : Option (xo Int32 xMs) := xo_b (FM_change x0 x1 x2 false s) fun r1886 => some (.inl (r1886.1, r1886.2))
set_option maxRecDepth 20000 in
theorem CM_remove {w : xw_G} {h : xw_H} (hb : xMb h) {x0 : Bool} {x1 : Int32} {x2 : Int32} {s : xMs} {out : (xo Int32 xMs)} (hF : FM_remove x0 x1 x2 s = some out) : (s.2.2.1.2.2.2.2.2.2.1 ≤ (xo_s out).2.2.1.2.2.2.2.2.2.1 ∧ s.2.2.1.2.2.2.2.2.2.2 ≤ (xo_s out).2.2.1.2.2.2.2.2.2.2) ∧ xw_C w (mM_remove { frames := 1122, cells := (xo_s out).2.2.1.2.2.2.2.2.2.1 - s.2.2.1.2.2.2.2.2.2.1, slots := (xo_s out).2.2.1.2.2.2.2.2.2.2 - s.2.2.1.2.2.2.2.2.2.2, locals := 66656 }) (xo_P (fun x => some (.int x)) (fun s => mV s h) out) [.ref 2000, .int (xb x0), .int x1, .int x2] (mV s h) := by
  unfold FM_remove at hF
  refine xy_enter (L := [some (.ref 2000), some (.int (xb x0)), some (.int x1), some (.int x2)]) (fun _ => rfl) (fun _ => rfl) (fun _ => (show plainName "FormulaShaperModel" = true by decide +kernel)) (fun _ => (Nat.le_of_ble_eq_true rfl)) (fun _ => rfl) ?_
  have hm : s.2.2.1.2.2.2.2.2.2.1 ≤ s.2.2.1.2.2.2.2.2.2.1 ∧ s.2.2.1.2.2.2.2.2.2.2 ≤ s.2.2.1.2.2.2.2.2.2.2 := ⟨Nat.le_refl _, Nat.le_refl _⟩
  refine xy_r (xw_aload_n dM_remove_0 rfl) ?_
  refine xy_r (xw_iload_n dM_remove_1 rfl) ?_
  refine xy_r (xw_iload_n dM_remove_2 rfl) ?_
  refine xy_r (xw_iload_n dM_remove_3 rfl) ?_
  refine xy_r (xw_iconst (0) dM_remove_4 (by decide)) ?_
  rcases xg_o hF with ⟨r1886, er1886, hF⟩ | ⟨r1886, er1886, hF⟩
  · have hm1887 : s.2.2.1.2.2.2.2.2.2.1 ≤ r1886.2.2.2.1.2.2.2.2.2.2.1 ∧ s.2.2.1.2.2.2.2.2.2.2 ≤ r1886.2.2.2.1.2.2.2.2.2.2.2 := xy_le hm (show s.2.2.1.2.2.2.2.2.2.1 ≤ r1886.2.2.2.1.2.2.2.2.2.2.1 ∧ s.2.2.1.2.2.2.2.2.2.2 ≤ r1886.2.2.2.1.2.2.2.2.2.2.2 from (CM_change (w := w) (h := h) hb (s := s) er1886).1)
    refine xy_V1 (nl := 7) (sm := s.2.2.1.2.2.2.2.2.2.1) (sn := s.2.2.1.2.2.2.2.2.2.2) (tm := r1886.2.2.2.1.2.2.2.2.2.2.1) (tn := r1886.2.2.2.1.2.2.2.2.2.2.2) (CM_change hb (s := s) er1886) rfl rfl hm (fun _ => rfl) (fun _ => rfl) (fun _ => rfl) (fun _ => dM_remove_5) (fun _ R => kM_510 R) (fun _ => rfl) ⟨(Nat.le_of_ble_eq_true rfl), (Nat.le_of_ble_eq_true rfl)⟩ rfl rfl rfl (fun _ => rfl) (Nat.le_of_ble_eq_true rfl) ?_
    obtain rfl := Option.some.inj hF
    exact xy_end (xw_ireturn dM_remove_8 rfl rfl (Nat.le_refl _) (Nat.le_refl _) ⟨rfl, rfl⟩)
  · subst hF
    exact xy_Vt (nl := 7) (sm := s.2.2.1.2.2.2.2.2.2.1) (sn := s.2.2.1.2.2.2.2.2.2.2) (tm := r1886.2.2.2.1.2.2.2.2.2.2.1) (tn := r1886.2.2.2.1.2.2.2.2.2.2.2) (CM_change hb (s := s) er1886) rfl rfl hm (fun _ => rfl) (fun _ => rfl) (fun _ => rfl) (fun _ => dM_remove_5) (fun _ R => kM_510 R) (fun _ => rfl) ⟨(Nat.le_of_ble_eq_true rfl), (Nat.le_of_ble_eq_true rfl)⟩ rfl rfl rfl (fun _ => rfl) (Nat.le_of_ble_eq_true rfl) ⟨rfl, rfl⟩
def FM_show_I_20 : Nat → Int32 → xMs → Option (Int32 × xMs)
  | 0, _, _ => none
  | fu + 1, l1, s => if s.1.2.2.2.2.1 ≤ l1 then (some (s.1.2.2.2.2.1, ((s.1.1, s.1.2.1, s.1.2.2.2.2.1, s.1.2.2.2), s.2))) else (if 0 ≤ l1 ∧ l1 < nI 1000 then (if 0 ≤ l1 ∧ l1 < nI 2000 then (FM_show_I_20 fu (l1 + 1) (s.1, s.2.1, s.2.2.1, s.2.2.2.1, (s.2.2.2.2.1, (upd s.2.2.2.2.2.1 (l1).toNatClampNeg (vp_nar .byte (s.2.2.2.2.2.2.1 (l1).toNatClampNeg))), s.2.2.2.2.2.2))) else none) else none)
/-- FormulaShaperModel.show -/
def FM_show_I  (s : xMs) : Option (Int32 × xMs) := if s.1.2.2.2.2.1 = 0 then ((FM_fail 1 ((0, s.1.2), s.2)).bind fun r1893 => some (r1893.1, r1893.2)) else (FM_show_I_20 xFuel 0 ((0, s.1.2), s.2))
set_option maxRecDepth 20000 in
theorem CM_show_I_20 {w : xw_G} {h : xw_H} (hb : xMb h)  : ∀ (fu : Nat) {l1 : Int32} {s : xMs} {out : (Int32 × xMs)} {h0 : xw_H} {m0 n0 : Nat} (hm : m0 ≤ s.2.2.1.2.2.2.2.2.2.1 ∧ n0 ≤ s.2.2.1.2.2.2.2.2.2.2), FM_show_I_20 fu l1 s = some out → xw_Y w mM_show_I 1 21 (xw_R (some (.int out.1)) (mV out.2 h)) h0 m0 n0 s.2.2.1.2.2.2.2.2.2.1 s.2.2.1.2.2.2.2.2.2.2 out.2.2.2.1.2.2.2.2.2.2.1 out.2.2.2.1.2.2.2.2.2.2.2 20 [some (.ref 2000), some (.int l1)] [] (mV s h) := by
  intro fu
  induction fu with
  | zero =>
    intro l1 s out h0 m0 n0 hm hF
    rw [FM_show_I_20] at hF
    cases hF
  | succ fu ih =>
    intro l1 s out h0 m0 n0 hm hF
    rw [FM_show_I_20] at hF
    refine xy_r (xw_iload_n dM_show_I_20 rfl) ?_
    refine xy_r (xw_aload_n dM_show_I_21 rfl) ?_
    refine xy_r (xw_get dM_show_I_22 fM_487 rfl rfl) ?_
    refine xy_br (xw_icmp_ge 46 dM_show_I_25 (by decide)) (fun c1890 => ?_) (fun c1890 => ?_)
    · replace hF := xg_t c1890 hF
      refine xy_r (xw_aload_n dM_show_I_46 rfl) ?_
      refine xy_r (xw_aload_n dM_show_I_47 rfl) ?_
      refine xy_r (xw_get dM_show_I_48 fM_487 rfl rfl) ?_
      refine xy_r (xg_put dM_show_I_51 fM_514 rfl (by decide) (Nat.le_of_ble_eq_true rfl) (fun _ => rfl) (fun _ => rfl) (mV_o (s' := ((s.1.1, s.1.2.1, s.1.2.2.2.2.1, s.1.2.2.2), s.2)) rfl)) ?_
      refine xy_r (xw_aload_n dM_show_I_54 rfl) ?_
      refine xy_r (xw_get dM_show_I_55 fM_514 rfl rfl) ?_
      obtain rfl := Option.some.inj hF
      exact xy_end (xw_ireturn dM_show_I_58 rfl rfl (Nat.le_refl _) (Nat.le_refl _) ⟨rfl, rfl⟩)
    · replace hF := xg_f c1890 hF
      refine xy_r (xw_aload_n dM_show_I_28 rfl) ?_
      refine xy_r (xw_get dM_show_I_29 fM_13 rfl rfl) ?_
      refine xy_r (xw_iload_n dM_show_I_32 rfl) ?_
      refine xy_r (xw_aload_n dM_show_I_33 rfl) ?_
      refine xy_r (xw_get dM_show_I_34 fM_20 rfl rfl) ?_
      refine xy_r (xw_iload_n dM_show_I_37 rfl) ?_
      obtain ⟨g1891, hF⟩ := xg_g hF
      refine xy_r (xg_baload g1891 dM_show_I_38 rfl (by decide)) ?_
      obtain ⟨g1892, hF⟩ := xg_g hF
      refine xy_r (xg_bastore g1892 dM_show_I_39 rfl (by decide) (by decide) (mV_e (s' := (s.1, s.2.1, s.2.2.1, s.2.2.2.1, (s.2.2.2.2.1, (upd s.2.2.2.2.2.1 (l1).toNatClampNeg (vp_nar .byte (s.2.2.2.2.2.2.1 (l1).toNatClampNeg))), s.2.2.2.2.2.2))) mV_result rfl)) ?_
      refine xy_r (xw_iinc ((l1 + 1)) dM_show_I_40 rfl rfl (Nat.le_of_ble_eq_true rfl)) ?_
      refine xy_r (xw_Ln (L' := [some (.ref 2000), some (.int (l1 + 1))]) rfl) ?_
      refine xy_r (xw_goto 20 dM_show_I_43 (by decide)) ?_
      exact ih (s := (s.1, s.2.1, s.2.2.1, s.2.2.2.1, (s.2.2.2.2.1, (upd s.2.2.2.2.2.1 (l1).toNatClampNeg (vp_nar .byte (s.2.2.2.2.2.2.1 (l1).toNatClampNeg))), s.2.2.2.2.2.2))) hm hF
set_option maxRecDepth 20000 in
theorem CM_show_I {w : xw_G} {h : xw_H} (hb : xMb h)  {s : xMs} {out : (Int32 × xMs)} (hF : FM_show_I  s = some out) : (s.2.2.1.2.2.2.2.2.2.1 ≤ out.2.2.2.1.2.2.2.2.2.2.1 ∧ s.2.2.1.2.2.2.2.2.2.2 ≤ out.2.2.2.1.2.2.2.2.2.2.2) ∧ xw_C w (mM_show_I { frames := 1, cells := out.2.2.2.1.2.2.2.2.2.2.1 - s.2.2.1.2.2.2.2.2.2.1, slots := out.2.2.2.1.2.2.2.2.2.2.2 - s.2.2.1.2.2.2.2.2.2.2, locals := 21 }) (xw_R (some (.int out.1)) (mV out.2 h)) [.ref 2000] (mV s h) := by
  unfold FM_show_I at hF
  refine xy_enter (L := [some (.ref 2000), none]) (fun _ => rfl) (fun _ => rfl) (fun _ => (show plainName "FormulaShaperModel" = true by decide +kernel)) (fun _ => (Nat.le_of_ble_eq_true rfl)) (fun _ => rfl) ?_
  have hm : s.2.2.1.2.2.2.2.2.2.1 ≤ s.2.2.1.2.2.2.2.2.2.1 ∧ s.2.2.1.2.2.2.2.2.2.2 ≤ s.2.2.1.2.2.2.2.2.2.2 := ⟨Nat.le_refl _, Nat.le_refl _⟩
  refine xy_r (xw_aload_n dM_show_I_0 rfl) ?_
  refine xy_r (xw_iconst (0) dM_show_I_1 (by decide)) ?_
  refine xy_r (xg_put dM_show_I_2 fM_185 rfl (by decide) (Nat.le_of_ble_eq_true rfl) (fun _ => rfl) (fun _ => rfl) (mV_o (s' := ((0, s.1.2), s.2)) rfl)) ?_
  refine xy_r (xw_aload_n dM_show_I_5 rfl) ?_
  refine xy_r (xw_get dM_show_I_6 fM_487 rfl rfl) ?_
  refine xy_brn (xw_if_ne 18 dM_show_I_9 (by decide)) (fun c1889 => ?_) (fun c1889 => ?_)
  · replace hF := xg_f c1889 hF
    refine xy_r (xw_iconst (0) dM_show_I_18 (by decide)) ?_
    refine xy_r (xw_istore_n dM_show_I_19 (Nat.le_of_ble_eq_true rfl)) ?_
    refine xy_r (xw_Ln (L' := [some (.ref 2000), some (.int 0)]) rfl) ?_
    exact CM_show_I_20 hb xFuel (s := ((0, s.1.2), s.2)) hm hF
  · replace hF := xg_t c1889 hF
    refine xy_r (xw_aload_n dM_show_I_12 rfl) ?_
    refine xy_r (xw_iconst (1) dM_show_I_13 (by decide)) ?_
    obtain ⟨r1893, er1893, hF⟩ := xg_b hF
    have hm1894 : s.2.2.1.2.2.2.2.2.2.1 ≤ r1893.2.2.2.1.2.2.2.2.2.2.1 ∧ s.2.2.1.2.2.2.2.2.2.2 ≤ r1893.2.2.2.1.2.2.2.2.2.2.2 := xy_le hm (show s.2.2.1.2.2.2.2.2.2.1 ≤ r1893.2.2.2.1.2.2.2.2.2.2.1 ∧ s.2.2.1.2.2.2.2.2.2.2 ≤ r1893.2.2.2.1.2.2.2.2.2.2.2 from (CM_fail (w := w) (h := h) hb (s := ((0, s.1.2), s.2)) er1893).1)
    refine xy_V1 (nl := 2) (sm := s.2.2.1.2.2.2.2.2.2.1) (sn := s.2.2.1.2.2.2.2.2.2.2) (tm := r1893.2.2.2.1.2.2.2.2.2.2.1) (tn := r1893.2.2.2.1.2.2.2.2.2.2.2) (CM_fail hb (s := ((0, s.1.2), s.2)) er1893) rfl rfl hm (fun _ => rfl) (fun _ => rfl) (fun _ => rfl) (fun _ => dM_show_I_14) (fun _ R => kM_497 R) (fun _ => rfl) ⟨(Nat.le_of_ble_eq_true rfl), (Nat.le_of_ble_eq_true rfl)⟩ rfl rfl rfl (fun _ => rfl) (Nat.le_of_ble_eq_true rfl) ?_
    obtain rfl := Option.some.inj hF
    exact xy_end (xw_ireturn dM_show_I_17 rfl rfl (Nat.le_refl _) (Nat.le_refl _) ⟨rfl, rfl⟩)
/-- FormulaShaperModel.reference -/
def FM_reference (x0 : Int32) (x1 : Int32) (s : xMs) : Option (xo Int32 xMs) := if x1 < 0 then ((FM_fail 1 ((0, s.1.2), s.2)).bind fun r1897 => some (.inl (r1897.1, r1897.2))) else (if x1 ≤ 3 then (if s.1.2.2.2.2.1 = 0 then ((FM_fail 2 ((0, s.1.2), s.2)).bind fun r1917 => some (.inl (r1917.1, r1917.2))) else (xo_b (FM_parsed ((0, s.1.2.1, s.1.2.2.1, s.1.2.2.2.1, s.1.2.2.2.2.1, 0), s.2)) fun r1902 => (FM_G r1902.1 r1902.2).bind fun r1905 => if x0 < 0 then ((FM_fail 3 r1905).bind fun r1909 => some (.inl (r1909.1, r1909.2))) else (if x0 < r1905.1.2.2.2.2.2 then (if 0 ≤ ((4 * x0) + x1) ∧ ((4 * x0) + x1) < nI 4096 then (some (.inl ((r1905.2.2.2.2.2.2.2.1 (((4 * x0) + x1)).toNatClampNeg), r1905))) else none) else ((FM_fail 3 r1905).bind fun r1914 => some (.inl (r1914.1, r1914.2)))))) else ((FM_fail 1 ((0, s.1.2), s.2)).bind fun r1920 => some (.inl (r1920.1, r1920.2))))
set_option maxRecDepth 20000 in
theorem CM_reference {w : xw_G} {h : xw_H} (hb : xMb h) {x0 : Int32} {x1 : Int32} {s : xMs} {out : (xo Int32 xMs)} (hF : FM_reference x0 x1 s = some out) : (s.2.2.1.2.2.2.2.2.2.1 ≤ (xo_s out).2.2.1.2.2.2.2.2.2.1 ∧ s.2.2.1.2.2.2.2.2.2.2 ≤ (xo_s out).2.2.1.2.2.2.2.2.2.2) ∧ xw_C w (mM_reference { frames := 1121, cells := (xo_s out).2.2.1.2.2.2.2.2.2.1 - s.2.2.1.2.2.2.2.2.2.1, slots := (xo_s out).2.2.1.2.2.2.2.2.2.2 - s.2.2.1.2.2.2.2.2.2.2, locals := 66622 }) (xo_P (fun x => some (.int x)) (fun s => mV s h) out) [.ref 2000, .int x0, .int x1] (mV s h) := by
  unfold FM_reference at hF
  refine xy_enter (L := [some (.ref 2000), some (.int x0), some (.int x1)]) (fun _ => rfl) (fun _ => rfl) (fun _ => (show plainName "FormulaShaperModel" = true by decide +kernel)) (fun _ => (Nat.le_of_ble_eq_true rfl)) (fun _ => rfl) ?_
  have hm : s.2.2.1.2.2.2.2.2.2.1 ≤ s.2.2.1.2.2.2.2.2.2.1 ∧ s.2.2.1.2.2.2.2.2.2.2 ≤ s.2.2.1.2.2.2.2.2.2.2 := ⟨Nat.le_refl _, Nat.le_refl _⟩
  refine xy_r (xw_aload_n dM_reference_0 rfl) ?_
  refine xy_r (xw_iconst (0) dM_reference_1 (by decide)) ?_
  refine xy_r (xg_put dM_reference_2 fM_185 rfl (by decide) (Nat.le_of_ble_eq_true rfl) (fun _ => rfl) (fun _ => rfl) (mV_o (s' := ((0, s.1.2), s.2)) rfl)) ?_
  refine xy_r (xw_iload_n dM_reference_5 rfl) ?_
  refine xy_br (xw_if_lt 14 dM_reference_6 (by decide)) (fun c1896 => ?_) (fun c1896 => ?_)
  · replace hF := xg_t c1896 hF
    refine xy_r (xw_aload_n dM_reference_14 rfl) ?_
    refine xy_r (xw_iconst (1) dM_reference_15 (by decide)) ?_
    obtain ⟨r1897, er1897, hF⟩ := xg_b hF
    have hm1898 : s.2.2.1.2.2.2.2.2.2.1 ≤ r1897.2.2.2.1.2.2.2.2.2.2.1 ∧ s.2.2.1.2.2.2.2.2.2.2 ≤ r1897.2.2.2.1.2.2.2.2.2.2.2 := xy_le hm (show s.2.2.1.2.2.2.2.2.2.1 ≤ r1897.2.2.2.1.2.2.2.2.2.2.1 ∧ s.2.2.1.2.2.2.2.2.2.2 ≤ r1897.2.2.2.1.2.2.2.2.2.2.2 from (CM_fail (w := w) (h := h) hb (s := ((0, s.1.2), s.2)) er1897).1)
    refine xy_V1 (nl := 2) (sm := s.2.2.1.2.2.2.2.2.2.1) (sn := s.2.2.1.2.2.2.2.2.2.2) (tm := r1897.2.2.2.1.2.2.2.2.2.2.1) (tn := r1897.2.2.2.1.2.2.2.2.2.2.2) (CM_fail hb (s := ((0, s.1.2), s.2)) er1897) rfl rfl hm (fun _ => rfl) (fun _ => rfl) (fun _ => rfl) (fun _ => dM_reference_16) (fun _ R => kM_497 R) (fun _ => rfl) ⟨(Nat.le_of_ble_eq_true rfl), (Nat.le_of_ble_eq_true rfl)⟩ rfl rfl rfl (fun _ => rfl) (Nat.le_of_ble_eq_true rfl) ?_
    obtain rfl := Option.some.inj hF
    exact xy_end (xw_ireturn dM_reference_19 rfl rfl (Nat.le_refl _) (Nat.le_refl _) ⟨rfl, rfl⟩)
  · replace hF := xg_f c1896 hF
    refine xy_r (xw_iload_n dM_reference_9 rfl) ?_
    refine xy_r (xw_iconst (3) dM_reference_10 (by decide)) ?_
    refine xy_br (xw_icmp_le 20 dM_reference_11 (by decide)) (fun c1900 => ?_) (fun c1900 => ?_)
    · replace hF := xg_t c1900 hF
      refine xy_r (xw_aload_n dM_reference_20 rfl) ?_
      refine xy_r (xw_get dM_reference_21 fM_487 rfl rfl) ?_
      refine xy_brn (xw_if_ne 33 dM_reference_24 (by decide)) (fun c1901 => ?_) (fun c1901 => ?_)
      · replace hF := xg_f c1901 hF
        refine xy_r (xw_aload_n dM_reference_33 rfl) ?_
        refine xy_r (xw_iconst (0) dM_reference_34 (by decide)) ?_
        refine xy_r (xg_put dM_reference_35 fM_481 rfl (by decide) (Nat.le_of_ble_eq_true rfl) (fun _ => rfl) (fun _ => rfl) (mV_o (s' := ((0, s.1.2.1, s.1.2.2.1, s.1.2.2.2.1, s.1.2.2.2.2.1, 0), s.2)) rfl)) ?_
        refine xy_r (xw_aload_n dM_reference_38 rfl) ?_
        refine xy_r (xw_aload_n dM_reference_39 rfl) ?_
        rcases xg_o hF with ⟨r1902, er1902, hF⟩ | ⟨r1902, er1902, hF⟩
        · have hm1903 : s.2.2.1.2.2.2.2.2.2.1 ≤ r1902.2.2.2.1.2.2.2.2.2.2.1 ∧ s.2.2.1.2.2.2.2.2.2.2 ≤ r1902.2.2.2.1.2.2.2.2.2.2.2 := xy_le hm (show s.2.2.1.2.2.2.2.2.2.1 ≤ r1902.2.2.2.1.2.2.2.2.2.2.1 ∧ s.2.2.1.2.2.2.2.2.2.2 ≤ r1902.2.2.2.1.2.2.2.2.2.2.2 from (CM_parsed (w := w) (h := h) hb (s := ((0, s.1.2.1, s.1.2.2.1, s.1.2.2.2.1, s.1.2.2.2.2.1, 0), s.2)) er1902).1)
          refine xy_V1 (nl := 1) (sm := s.2.2.1.2.2.2.2.2.2.1) (sn := s.2.2.1.2.2.2.2.2.2.2) (tm := r1902.2.2.2.1.2.2.2.2.2.2.1) (tn := r1902.2.2.2.1.2.2.2.2.2.2.2) (CM_parsed hb (s := ((0, s.1.2.1, s.1.2.2.1, s.1.2.2.2.1, s.1.2.2.2.2.1, 0), s.2)) er1902) rfl rfl hm (fun _ => rfl) (fun _ => rfl) (fun _ => rfl) (fun _ => dM_reference_40) (fun _ R => kM_507 R) (fun _ => rfl) ⟨(Nat.le_of_ble_eq_true rfl), (Nat.le_of_ble_eq_true rfl)⟩ rfl rfl rfl (fun _ => rfl) (Nat.le_of_ble_eq_true rfl) ?_
          obtain ⟨r1905, er1905, hF⟩ := xg_b hF
          have hm1906 : s.2.2.1.2.2.2.2.2.2.1 ≤ r1905.2.2.1.2.2.2.2.2.2.1 ∧ s.2.2.1.2.2.2.2.2.2.2 ≤ r1905.2.2.1.2.2.2.2.2.2.2 := xy_le hm1903 (show r1902.2.2.2.1.2.2.2.2.2.2.1 ≤ r1905.2.2.1.2.2.2.2.2.2.1 ∧ r1902.2.2.2.1.2.2.2.2.2.2.2 ≤ r1905.2.2.1.2.2.2.2.2.2.2 from (CM_G (w := w) (h := h) hb (s := r1902.2) er1905).1)
          refine xy_V0 (nl := 3) (sm := r1902.2.2.2.1.2.2.2.2.2.2.1) (sn := r1902.2.2.2.1.2.2.2.2.2.2.2) (tm := r1905.2.2.1.2.2.2.2.2.2.1) (tn := r1905.2.2.1.2.2.2.2.2.2.2) (CM_G hb (s := r1902.2) er1905) rfl rfl hm1903 (fun _ => rfl) (fun _ => rfl) (fun _ => rfl) (fun _ => dM_reference_43) (fun _ R => kM_484 R) (fun _ => rfl) ⟨(Nat.le_of_ble_eq_true rfl), (Nat.le_of_ble_eq_true rfl)⟩ rfl rfl rfl (fun _ => rfl) (Nat.le_of_ble_eq_true rfl) ?_
          refine xy_r (xw_iload_n dM_reference_46 rfl) ?_
          refine xy_br (xw_if_lt 58 dM_reference_47 (by decide)) (fun c1908 => ?_) (fun c1908 => ?_)
          · replace hF := xg_t c1908 hF
            refine xy_r (xw_aload_n dM_reference_58 rfl) ?_
            refine xy_r (xw_iconst (3) dM_reference_59 (by decide)) ?_
            obtain ⟨r1909, er1909, hF⟩ := xg_b hF
            have hm1910 : s.2.2.1.2.2.2.2.2.2.1 ≤ r1909.2.2.2.1.2.2.2.2.2.2.1 ∧ s.2.2.1.2.2.2.2.2.2.2 ≤ r1909.2.2.2.1.2.2.2.2.2.2.2 := xy_le hm1906 (show r1905.2.2.1.2.2.2.2.2.2.1 ≤ r1909.2.2.2.1.2.2.2.2.2.2.1 ∧ r1905.2.2.1.2.2.2.2.2.2.2 ≤ r1909.2.2.2.1.2.2.2.2.2.2.2 from (CM_fail (w := w) (h := h) hb (s := r1905) er1909).1)
            refine xy_V1 (nl := 2) (sm := r1905.2.2.1.2.2.2.2.2.2.1) (sn := r1905.2.2.1.2.2.2.2.2.2.2) (tm := r1909.2.2.2.1.2.2.2.2.2.2.1) (tn := r1909.2.2.2.1.2.2.2.2.2.2.2) (CM_fail hb (s := r1905) er1909) rfl rfl hm1906 (fun _ => rfl) (fun _ => rfl) (fun _ => rfl) (fun _ => dM_reference_60) (fun _ R => kM_497 R) (fun _ => rfl) ⟨(Nat.le_of_ble_eq_true rfl), (Nat.le_of_ble_eq_true rfl)⟩ rfl rfl rfl (fun _ => rfl) (Nat.le_of_ble_eq_true rfl) ?_
            refine xy_r (xw_goto 76 dM_reference_63 (by decide)) ?_
            obtain rfl := Option.some.inj hF
            exact xy_end (xw_ireturn dM_reference_76 rfl rfl (Nat.le_refl _) (Nat.le_refl _) ⟨rfl, rfl⟩)
          · replace hF := xg_f c1908 hF
            refine xy_r (xw_iload_n dM_reference_50 rfl) ?_
            refine xy_r (xw_aload_n dM_reference_51 rfl) ?_
            refine xy_r (xw_get dM_reference_52 fM_481 rfl rfl) ?_
            refine xy_br (xw_icmp_lt 66 dM_reference_55 (by decide)) (fun c1912 => ?_) (fun c1912 => ?_)
            · replace hF := xg_t c1912 hF
              refine xy_r (xw_aload_n dM_reference_66 rfl) ?_
              refine xy_r (xw_get dM_reference_67 fM_167 rfl rfl) ?_
              refine xy_r (xw_iconst (4) dM_reference_70 (by decide)) ?_
              refine xy_r (xw_iload_n dM_reference_71 rfl) ?_
              refine xy_r (xw_imul dM_reference_72) ?_
              refine xy_r (xw_iload_n dM_reference_73 rfl) ?_
              refine xy_r (xw_iadd dM_reference_74) ?_
              obtain ⟨g1913, hF⟩ := xg_g hF
              refine xy_r (xg_iaload g1913 dM_reference_75 rfl (by decide)) ?_
              obtain rfl := Option.some.inj hF
              exact xy_end (xw_ireturn dM_reference_76 rfl rfl (Nat.le_refl _) (Nat.le_refl _) ⟨rfl, rfl⟩)
            · replace hF := xg_f c1912 hF
              refine xy_r (xw_aload_n dM_reference_58 rfl) ?_
              refine xy_r (xw_iconst (3) dM_reference_59 (by decide)) ?_
              obtain ⟨r1914, er1914, hF⟩ := xg_b hF
              have hm1915 : s.2.2.1.2.2.2.2.2.2.1 ≤ r1914.2.2.2.1.2.2.2.2.2.2.1 ∧ s.2.2.1.2.2.2.2.2.2.2 ≤ r1914.2.2.2.1.2.2.2.2.2.2.2 := xy_le hm1906 (show r1905.2.2.1.2.2.2.2.2.2.1 ≤ r1914.2.2.2.1.2.2.2.2.2.2.1 ∧ r1905.2.2.1.2.2.2.2.2.2.2 ≤ r1914.2.2.2.1.2.2.2.2.2.2.2 from (CM_fail (w := w) (h := h) hb (s := r1905) er1914).1)
              refine xy_V1 (nl := 2) (sm := r1905.2.2.1.2.2.2.2.2.2.1) (sn := r1905.2.2.1.2.2.2.2.2.2.2) (tm := r1914.2.2.2.1.2.2.2.2.2.2.1) (tn := r1914.2.2.2.1.2.2.2.2.2.2.2) (CM_fail hb (s := r1905) er1914) rfl rfl hm1906 (fun _ => rfl) (fun _ => rfl) (fun _ => rfl) (fun _ => dM_reference_60) (fun _ R => kM_497 R) (fun _ => rfl) ⟨(Nat.le_of_ble_eq_true rfl), (Nat.le_of_ble_eq_true rfl)⟩ rfl rfl rfl (fun _ => rfl) (Nat.le_of_ble_eq_true rfl) ?_
              refine xy_r (xw_goto 76 dM_reference_63 (by decide)) ?_
              obtain rfl := Option.some.inj hF
              exact xy_end (xw_ireturn dM_reference_76 rfl rfl (Nat.le_refl _) (Nat.le_refl _) ⟨rfl, rfl⟩)
        · subst hF
          exact xy_Vt (nl := 1) (sm := s.2.2.1.2.2.2.2.2.2.1) (sn := s.2.2.1.2.2.2.2.2.2.2) (tm := r1902.2.2.2.1.2.2.2.2.2.2.1) (tn := r1902.2.2.2.1.2.2.2.2.2.2.2) (CM_parsed hb (s := ((0, s.1.2.1, s.1.2.2.1, s.1.2.2.2.1, s.1.2.2.2.2.1, 0), s.2)) er1902) rfl rfl hm (fun _ => rfl) (fun _ => rfl) (fun _ => rfl) (fun _ => dM_reference_40) (fun _ R => kM_507 R) (fun _ => rfl) ⟨(Nat.le_of_ble_eq_true rfl), (Nat.le_of_ble_eq_true rfl)⟩ rfl rfl rfl (fun _ => rfl) (Nat.le_of_ble_eq_true rfl) ⟨rfl, rfl⟩
      · replace hF := xg_t c1901 hF
        refine xy_r (xw_aload_n dM_reference_27 rfl) ?_
        refine xy_r (xw_iconst (2) dM_reference_28 (by decide)) ?_
        obtain ⟨r1917, er1917, hF⟩ := xg_b hF
        have hm1918 : s.2.2.1.2.2.2.2.2.2.1 ≤ r1917.2.2.2.1.2.2.2.2.2.2.1 ∧ s.2.2.1.2.2.2.2.2.2.2 ≤ r1917.2.2.2.1.2.2.2.2.2.2.2 := xy_le hm (show s.2.2.1.2.2.2.2.2.2.1 ≤ r1917.2.2.2.1.2.2.2.2.2.2.1 ∧ s.2.2.1.2.2.2.2.2.2.2 ≤ r1917.2.2.2.1.2.2.2.2.2.2.2 from (CM_fail (w := w) (h := h) hb (s := ((0, s.1.2), s.2)) er1917).1)
        refine xy_V1 (nl := 2) (sm := s.2.2.1.2.2.2.2.2.2.1) (sn := s.2.2.1.2.2.2.2.2.2.2) (tm := r1917.2.2.2.1.2.2.2.2.2.2.1) (tn := r1917.2.2.2.1.2.2.2.2.2.2.2) (CM_fail hb (s := ((0, s.1.2), s.2)) er1917) rfl rfl hm (fun _ => rfl) (fun _ => rfl) (fun _ => rfl) (fun _ => dM_reference_29) (fun _ R => kM_497 R) (fun _ => rfl) ⟨(Nat.le_of_ble_eq_true rfl), (Nat.le_of_ble_eq_true rfl)⟩ rfl rfl rfl (fun _ => rfl) (Nat.le_of_ble_eq_true rfl) ?_
        obtain rfl := Option.some.inj hF
        exact xy_end (xw_ireturn dM_reference_32 rfl rfl (Nat.le_refl _) (Nat.le_refl _) ⟨rfl, rfl⟩)
    · replace hF := xg_f c1900 hF
      refine xy_r (xw_aload_n dM_reference_14 rfl) ?_
      refine xy_r (xw_iconst (1) dM_reference_15 (by decide)) ?_
      obtain ⟨r1920, er1920, hF⟩ := xg_b hF
      have hm1921 : s.2.2.1.2.2.2.2.2.2.1 ≤ r1920.2.2.2.1.2.2.2.2.2.2.1 ∧ s.2.2.1.2.2.2.2.2.2.2 ≤ r1920.2.2.2.1.2.2.2.2.2.2.2 := xy_le hm (show s.2.2.1.2.2.2.2.2.2.1 ≤ r1920.2.2.2.1.2.2.2.2.2.2.1 ∧ s.2.2.1.2.2.2.2.2.2.2 ≤ r1920.2.2.2.1.2.2.2.2.2.2.2 from (CM_fail (w := w) (h := h) hb (s := ((0, s.1.2), s.2)) er1920).1)
      refine xy_V1 (nl := 2) (sm := s.2.2.1.2.2.2.2.2.2.1) (sn := s.2.2.1.2.2.2.2.2.2.2) (tm := r1920.2.2.2.1.2.2.2.2.2.2.1) (tn := r1920.2.2.2.1.2.2.2.2.2.2.2) (CM_fail hb (s := ((0, s.1.2), s.2)) er1920) rfl rfl hm (fun _ => rfl) (fun _ => rfl) (fun _ => rfl) (fun _ => dM_reference_16) (fun _ R => kM_497 R) (fun _ => rfl) ⟨(Nat.le_of_ble_eq_true rfl), (Nat.le_of_ble_eq_true rfl)⟩ rfl rfl rfl (fun _ => rfl) (Nat.le_of_ble_eq_true rfl) ?_
      obtain rfl := Option.some.inj hF
      exact xy_end (xw_ireturn dM_reference_19 rfl rfl (Nat.le_refl _) (Nat.le_refl _) ⟨rfl, rfl⟩)
def FM_word_29 : Nat → Int32 → Int64 → Int32 → xMs → Option (Int64 × xMs)
  | 0, _, _, _, _ => none
  | fu + 1, l1, l2, l4, s => if (l1 + 8) ≤ l4 then (some (l2, s)) else (if s.1.2.2.1 ≤ l4 then (FM_word_29 fu l1 ((l2 * (256)) + (Int32.toInt64 0)) (l4 + 1) s) else (if 0 ≤ l4 ∧ l4 < nI 2000 then (FM_word_29 fu l1 ((l2 * (256)) + (Int32.toInt64 ((s.2.2.2.2.2.1 (l4).toNatClampNeg) &&& 255))) (l4 + 1) s) else none))
/-- FormulaShaperModel.word -/
def FM_word (x0 : Int32) (s : xMs) : Option (Int64 × xMs) := if x0 < 0 then ((FM_fail 1 ((0, s.1.2), s.2)).bind fun r1924 => some ((Int32.toInt64 r1924.1), r1924.2)) else (if x0 < s.1.2.2.1 then (FM_word_29 xFuel x0 0 x0 ((0, s.1.2), s.2)) else ((FM_fail 1 ((0, s.1.2), s.2)).bind fun r1931 => some ((Int32.toInt64 r1931.1), r1931.2)))
set_option maxRecDepth 20000 in
theorem CM_word_29 {w : xw_G} {h : xw_H} (hb : xMb h)  : ∀ (fu : Nat) {l1 : Int32} {l2 : Int64} {l4 : Int32} {s : xMs} {out : (Int64 × xMs)} {h0 : xw_H} {m0 n0 : Nat} (hm : m0 ≤ s.2.2.1.2.2.2.2.2.2.1 ∧ n0 ≤ s.2.2.1.2.2.2.2.2.2.2), FM_word_29 fu l1 l2 l4 s = some out → xw_Y w mM_word 1 21 (xw_R (some (.long out.1)) (mV out.2 h)) h0 m0 n0 s.2.2.1.2.2.2.2.2.2.1 s.2.2.1.2.2.2.2.2.2.2 out.2.2.2.1.2.2.2.2.2.2.1 out.2.2.2.1.2.2.2.2.2.2.2 29 [some (.ref 2000), some (.int l1), some (.long l2), none, some (.int l4)] [] (mV s h) := by
  intro fu
  induction fu with
  | zero =>
    intro l1 l2 l4 s out h0 m0 n0 hm hF
    rw [FM_word_29] at hF
    cases hF
  | succ fu ih =>
    intro l1 l2 l4 s out h0 m0 n0 hm hF
    rw [FM_word_29] at hF
    refine xy_r (xw_iload dM_word_29 rfl) ?_
    refine xy_r (xw_iload_n dM_word_31 rfl) ?_
    refine xy_r (xw_bipush (8) dM_word_32 (by decide)) ?_
    refine xy_r (xw_iadd dM_word_34) ?_
    refine xy_br (xw_icmp_ge 76 dM_word_35 (by decide)) (fun c1928 => ?_) (fun c1928 => ?_)
    · replace hF := xg_t c1928 hF
      refine xy_r (xw_lload_n dM_word_76 rfl) ?_
      obtain rfl := Option.some.inj hF
      exact xy_end (xw_lreturn dM_word_77 rfl (Nat.le_refl _) (Nat.le_refl _) ⟨rfl, rfl⟩)
    · replace hF := xg_f c1928 hF
      refine xy_r (xw_lload_n dM_word_38 rfl) ?_
      refine xy_r (xw_ldc2 dM_word_39 tw_1403) ?_
      refine xy_r (xw_lmul dM_word_42) ?_
      refine xy_r (xw_iload dM_word_43 rfl) ?_
      refine xy_r (xw_aload_n dM_word_45 rfl) ?_
      refine xy_r (xw_get dM_word_46 fM_514 rfl rfl) ?_
      refine xy_br (xw_icmp_ge 66 dM_word_49 (by decide)) (fun c1929 => ?_) (fun c1929 => ?_)
      · replace hF := xg_t c1929 hF
        refine xy_r (xw_iconst (0) dM_word_66 (by decide)) ?_
        refine xy_r (xw_i2l dM_word_67) ?_
        refine xy_r (xw_ladd dM_word_68) ?_
        refine xy_r (xw_lstore_n dM_word_69 (Nat.le_of_ble_eq_true rfl)) ?_
        refine xy_r (xw_Ln (L' := [some (.ref 2000), some (.int l1), some (.long ((l2 * (256)) + (Int32.toInt64 0))), none, some (.int l4)]) rfl) ?_
        refine xy_r (xw_iinc ((l4 + 1)) dM_word_70 rfl rfl (Nat.le_of_ble_eq_true rfl)) ?_
        refine xy_r (xw_Ln (L' := [some (.ref 2000), some (.int l1), some (.long ((l2 * (256)) + (Int32.toInt64 0))), none, some (.int (l4 + 1))]) rfl) ?_
        refine xy_r (xw_goto 29 dM_word_73 (by decide)) ?_
        exact ih (s := s) hm hF
      · replace hF := xg_f c1929 hF
        refine xy_r (xw_aload_n dM_word_52 rfl) ?_
        refine xy_r (xw_get dM_word_53 fM_13 rfl rfl) ?_
        refine xy_r (xw_iload dM_word_56 rfl) ?_
        obtain ⟨g1930, hF⟩ := xg_g hF
        refine xy_r (xg_baload g1930 dM_word_58 rfl (by decide)) ?_
        refine xy_r (xw_sipush (255) dM_word_59 (by decide)) ?_
        refine xy_r (xw_iand dM_word_62) ?_
        refine xy_r (xw_goto 67 dM_word_63 (by decide)) ?_
        refine xy_r (xw_i2l dM_word_67) ?_
        refine xy_r (xw_ladd dM_word_68) ?_
        refine xy_r (xw_lstore_n dM_word_69 (Nat.le_of_ble_eq_true rfl)) ?_
        refine xy_r (xw_Ln (L' := [some (.ref 2000), some (.int l1), some (.long ((l2 * (256)) + (Int32.toInt64 ((s.2.2.2.2.2.1 (l4).toNatClampNeg) &&& 255)))), none, some (.int l4)]) rfl) ?_
        refine xy_r (xw_iinc ((l4 + 1)) dM_word_70 rfl rfl (Nat.le_of_ble_eq_true rfl)) ?_
        refine xy_r (xw_Ln (L' := [some (.ref 2000), some (.int l1), some (.long ((l2 * (256)) + (Int32.toInt64 ((s.2.2.2.2.2.1 (l4).toNatClampNeg) &&& 255)))), none, some (.int (l4 + 1))]) rfl) ?_
        refine xy_r (xw_goto 29 dM_word_73 (by decide)) ?_
        exact ih (s := s) hm hF
set_option maxRecDepth 20000 in
theorem CM_word {w : xw_G} {h : xw_H} (hb : xMb h) {x0 : Int32} {s : xMs} {out : (Int64 × xMs)} (hF : FM_word x0 s = some out) : (s.2.2.1.2.2.2.2.2.2.1 ≤ out.2.2.2.1.2.2.2.2.2.2.1 ∧ s.2.2.1.2.2.2.2.2.2.2 ≤ out.2.2.2.1.2.2.2.2.2.2.2) ∧ xw_C w (mM_word { frames := 1, cells := out.2.2.2.1.2.2.2.2.2.2.1 - s.2.2.1.2.2.2.2.2.2.1, slots := out.2.2.2.1.2.2.2.2.2.2.2 - s.2.2.1.2.2.2.2.2.2.2, locals := 21 }) (xw_R (some (.long out.1)) (mV out.2 h)) [.ref 2000, .int x0] (mV s h) := by
  unfold FM_word at hF
  refine xy_enter (L := [some (.ref 2000), some (.int x0), none, none, none]) (fun _ => rfl) (fun _ => rfl) (fun _ => (show plainName "FormulaShaperModel" = true by decide +kernel)) (fun _ => (Nat.le_of_ble_eq_true rfl)) (fun _ => rfl) ?_
  have hm : s.2.2.1.2.2.2.2.2.2.1 ≤ s.2.2.1.2.2.2.2.2.2.1 ∧ s.2.2.1.2.2.2.2.2.2.2 ≤ s.2.2.1.2.2.2.2.2.2.2 := ⟨Nat.le_refl _, Nat.le_refl _⟩
  refine xy_r (xw_aload_n dM_word_0 rfl) ?_
  refine xy_r (xw_iconst (0) dM_word_1 (by decide)) ?_
  refine xy_r (xg_put dM_word_2 fM_185 rfl (by decide) (Nat.le_of_ble_eq_true rfl) (fun _ => rfl) (fun _ => rfl) (mV_o (s' := ((0, s.1.2), s.2)) rfl)) ?_
  refine xy_r (xw_iload_n dM_word_5 rfl) ?_
  refine xy_br (xw_if_lt 17 dM_word_6 (by decide)) (fun c1923 => ?_) (fun c1923 => ?_)
  · replace hF := xg_t c1923 hF
    refine xy_r (xw_aload_n dM_word_17 rfl) ?_
    refine xy_r (xw_iconst (1) dM_word_18 (by decide)) ?_
    obtain ⟨r1924, er1924, hF⟩ := xg_b hF
    have hm1925 : s.2.2.1.2.2.2.2.2.2.1 ≤ r1924.2.2.2.1.2.2.2.2.2.2.1 ∧ s.2.2.1.2.2.2.2.2.2.2 ≤ r1924.2.2.2.1.2.2.2.2.2.2.2 := xy_le hm (show s.2.2.1.2.2.2.2.2.2.1 ≤ r1924.2.2.2.1.2.2.2.2.2.2.1 ∧ s.2.2.1.2.2.2.2.2.2.2 ≤ r1924.2.2.2.1.2.2.2.2.2.2.2 from (CM_fail (w := w) (h := h) hb (s := ((0, s.1.2), s.2)) er1924).1)
    refine xy_V1 (nl := 2) (sm := s.2.2.1.2.2.2.2.2.2.1) (sn := s.2.2.1.2.2.2.2.2.2.2) (tm := r1924.2.2.2.1.2.2.2.2.2.2.1) (tn := r1924.2.2.2.1.2.2.2.2.2.2.2) (CM_fail hb (s := ((0, s.1.2), s.2)) er1924) rfl rfl hm (fun _ => rfl) (fun _ => rfl) (fun _ => rfl) (fun _ => dM_word_19) (fun _ R => kM_497 R) (fun _ => rfl) ⟨(Nat.le_of_ble_eq_true rfl), (Nat.le_of_ble_eq_true rfl)⟩ rfl rfl rfl (fun _ => rfl) (Nat.le_of_ble_eq_true rfl) ?_
    refine xy_r (xw_i2l dM_word_22) ?_
    obtain rfl := Option.some.inj hF
    exact xy_end (xw_lreturn dM_word_23 rfl (Nat.le_refl _) (Nat.le_refl _) ⟨rfl, rfl⟩)
  · replace hF := xg_f c1923 hF
    refine xy_r (xw_iload_n dM_word_9 rfl) ?_
    refine xy_r (xw_aload_n dM_word_10 rfl) ?_
    refine xy_r (xw_get dM_word_11 fM_514 rfl rfl) ?_
    refine xy_br (xw_icmp_lt 24 dM_word_14 (by decide)) (fun c1927 => ?_) (fun c1927 => ?_)
    · replace hF := xg_t c1927 hF
      refine xy_r (xw_lconst (0) dM_word_24 (by decide)) ?_
      refine xy_r (xw_lstore_n dM_word_25 (Nat.le_of_ble_eq_true rfl)) ?_
      refine xy_r (xw_Ln (L' := [some (.ref 2000), some (.int x0), some (.long 0), none, none]) rfl) ?_
      refine xy_r (xw_iload_n dM_word_26 rfl) ?_
      refine xy_r (xw_istore dM_word_27 (Nat.le_of_ble_eq_true rfl)) ?_
      refine xy_r (xw_Ln (L' := [some (.ref 2000), some (.int x0), some (.long 0), none, some (.int x0)]) rfl) ?_
      exact CM_word_29 hb xFuel (s := ((0, s.1.2), s.2)) hm hF
    · replace hF := xg_f c1927 hF
      refine xy_r (xw_aload_n dM_word_17 rfl) ?_
      refine xy_r (xw_iconst (1) dM_word_18 (by decide)) ?_
      obtain ⟨r1931, er1931, hF⟩ := xg_b hF
      have hm1932 : s.2.2.1.2.2.2.2.2.2.1 ≤ r1931.2.2.2.1.2.2.2.2.2.2.1 ∧ s.2.2.1.2.2.2.2.2.2.2 ≤ r1931.2.2.2.1.2.2.2.2.2.2.2 := xy_le hm (show s.2.2.1.2.2.2.2.2.2.1 ≤ r1931.2.2.2.1.2.2.2.2.2.2.1 ∧ s.2.2.1.2.2.2.2.2.2.2 ≤ r1931.2.2.2.1.2.2.2.2.2.2.2 from (CM_fail (w := w) (h := h) hb (s := ((0, s.1.2), s.2)) er1931).1)
      refine xy_V1 (nl := 2) (sm := s.2.2.1.2.2.2.2.2.2.1) (sn := s.2.2.1.2.2.2.2.2.2.2) (tm := r1931.2.2.2.1.2.2.2.2.2.2.1) (tn := r1931.2.2.2.1.2.2.2.2.2.2.2) (CM_fail hb (s := ((0, s.1.2), s.2)) er1931) rfl rfl hm (fun _ => rfl) (fun _ => rfl) (fun _ => rfl) (fun _ => dM_word_19) (fun _ R => kM_497 R) (fun _ => rfl) ⟨(Nat.le_of_ble_eq_true rfl), (Nat.le_of_ble_eq_true rfl)⟩ rfl rfl rfl (fun _ => rfl) (Nat.le_of_ble_eq_true rfl) ?_
      refine xy_r (xw_i2l dM_word_22) ?_
      obtain rfl := Option.some.inj hF
      exact xy_end (xw_lreturn dM_word_23 rfl (Nat.le_refl _) (Nat.le_refl _) ⟨rfl, rfl⟩)
/-- FormulaShaperModel.count -/
def FM_count (x0 : Int32) (s : xMs) : Option (xo Int32 xMs) := if x0 < 0 then ((FM_fail 1 ((0, s.1.2), s.2)).bind fun r1935 => some (.inl (r1935.1, r1935.2))) else (if x0 ≤ 3 then (if s.1.2.2.2.2.1 ≤ 0 then (if x0 = 0 then (some (.inl (s.1.2.1, ((0, s.1.2.1, s.1.2.2.1, s.1.2.2.2.1, s.1.2.2.2.2.1, 0), s.2)))) else (if x0 = 1 then (some (.inl (s.1.2.2.1, ((0, s.1.2.1, s.1.2.2.1, s.1.2.2.2.1, s.1.2.2.2.2.1, 0), s.2)))) else (if x0 = 2 then (some (.inl (s.1.2.2.2.1, ((0, s.1.2.1, s.1.2.2.1, s.1.2.2.2.1, s.1.2.2.2.2.1, 0), s.2)))) else (some (.inl (0, ((0, s.1.2.1, s.1.2.2.1, s.1.2.2.2.1, s.1.2.2.2.2.1, 0), s.2))))))) else (xo_b (FM_parsed ((0, s.1.2.1, s.1.2.2.1, s.1.2.2.2.1, s.1.2.2.2.2.1, 0), s.2)) fun r1943 => (FM_G r1943.1 r1943.2).bind fun r1946 => if x0 = 0 then (some (.inl (r1946.1.2.1, r1946))) else (if x0 = 1 then (some (.inl (r1946.1.2.2.1, r1946))) else (if x0 = 2 then (some (.inl (r1946.1.2.2.2.1, r1946))) else (some (.inl (r1946.1.2.2.2.2.2, r1946))))))) else ((FM_fail 1 ((0, s.1.2), s.2)).bind fun r1952 => some (.inl (r1952.1, r1952.2))))
set_option maxRecDepth 20000 in
theorem CM_count {w : xw_G} {h : xw_H} (hb : xMb h) {x0 : Int32} {s : xMs} {out : (xo Int32 xMs)} (hF : FM_count x0 s = some out) : (s.2.2.1.2.2.2.2.2.2.1 ≤ (xo_s out).2.2.1.2.2.2.2.2.2.1 ∧ s.2.2.1.2.2.2.2.2.2.2 ≤ (xo_s out).2.2.1.2.2.2.2.2.2.2) ∧ xw_C w (mM_count { frames := 1121, cells := (xo_s out).2.2.1.2.2.2.2.2.2.1 - s.2.2.1.2.2.2.2.2.2.1, slots := (xo_s out).2.2.1.2.2.2.2.2.2.2 - s.2.2.1.2.2.2.2.2.2.2, locals := 66622 }) (xo_P (fun x => some (.int x)) (fun s => mV s h) out) [.ref 2000, .int x0] (mV s h) := by
  unfold FM_count at hF
  refine xy_enter (L := [some (.ref 2000), some (.int x0)]) (fun _ => rfl) (fun _ => rfl) (fun _ => (show plainName "FormulaShaperModel" = true by decide +kernel)) (fun _ => (Nat.le_of_ble_eq_true rfl)) (fun _ => rfl) ?_
  have hm : s.2.2.1.2.2.2.2.2.2.1 ≤ s.2.2.1.2.2.2.2.2.2.1 ∧ s.2.2.1.2.2.2.2.2.2.2 ≤ s.2.2.1.2.2.2.2.2.2.2 := ⟨Nat.le_refl _, Nat.le_refl _⟩
  refine xy_r (xw_aload_n dM_count_0 rfl) ?_
  refine xy_r (xw_iconst (0) dM_count_1 (by decide)) ?_
  refine xy_r (xg_put dM_count_2 fM_185 rfl (by decide) (Nat.le_of_ble_eq_true rfl) (fun _ => rfl) (fun _ => rfl) (mV_o (s' := ((0, s.1.2), s.2)) rfl)) ?_
  refine xy_r (xw_iload_n dM_count_5 rfl) ?_
  refine xy_br (xw_if_lt 14 dM_count_6 (by decide)) (fun c1934 => ?_) (fun c1934 => ?_)
  · replace hF := xg_t c1934 hF
    refine xy_r (xw_aload_n dM_count_14 rfl) ?_
    refine xy_r (xw_iconst (1) dM_count_15 (by decide)) ?_
    obtain ⟨r1935, er1935, hF⟩ := xg_b hF
    have hm1936 : s.2.2.1.2.2.2.2.2.2.1 ≤ r1935.2.2.2.1.2.2.2.2.2.2.1 ∧ s.2.2.1.2.2.2.2.2.2.2 ≤ r1935.2.2.2.1.2.2.2.2.2.2.2 := xy_le hm (show s.2.2.1.2.2.2.2.2.2.1 ≤ r1935.2.2.2.1.2.2.2.2.2.2.1 ∧ s.2.2.1.2.2.2.2.2.2.2 ≤ r1935.2.2.2.1.2.2.2.2.2.2.2 from (CM_fail (w := w) (h := h) hb (s := ((0, s.1.2), s.2)) er1935).1)
    refine xy_V1 (nl := 2) (sm := s.2.2.1.2.2.2.2.2.2.1) (sn := s.2.2.1.2.2.2.2.2.2.2) (tm := r1935.2.2.2.1.2.2.2.2.2.2.1) (tn := r1935.2.2.2.1.2.2.2.2.2.2.2) (CM_fail hb (s := ((0, s.1.2), s.2)) er1935) rfl rfl hm (fun _ => rfl) (fun _ => rfl) (fun _ => rfl) (fun _ => dM_count_16) (fun _ R => kM_497 R) (fun _ => rfl) ⟨(Nat.le_of_ble_eq_true rfl), (Nat.le_of_ble_eq_true rfl)⟩ rfl rfl rfl (fun _ => rfl) (Nat.le_of_ble_eq_true rfl) ?_
    obtain rfl := Option.some.inj hF
    exact xy_end (xw_ireturn dM_count_19 rfl rfl (Nat.le_refl _) (Nat.le_refl _) ⟨rfl, rfl⟩)
  · replace hF := xg_f c1934 hF
    refine xy_r (xw_iload_n dM_count_9 rfl) ?_
    refine xy_r (xw_iconst (3) dM_count_10 (by decide)) ?_
    refine xy_br (xw_icmp_le 20 dM_count_11 (by decide)) (fun c1938 => ?_) (fun c1938 => ?_)
    · replace hF := xg_t c1938 hF
      refine xy_r (xw_aload_n dM_count_20 rfl) ?_
      refine xy_r (xw_iconst (0) dM_count_21 (by decide)) ?_
      refine xy_r (xg_put dM_count_22 fM_481 rfl (by decide) (Nat.le_of_ble_eq_true rfl) (fun _ => rfl) (fun _ => rfl) (mV_o (s' := ((0, s.1.2.1, s.1.2.2.1, s.1.2.2.2.1, s.1.2.2.2.2.1, 0), s.2)) rfl)) ?_
      refine xy_r (xw_aload_n dM_count_25 rfl) ?_
      refine xy_r (xw_get dM_count_26 fM_487 rfl rfl) ?_
      refine xy_br (xw_if_le 40 dM_count_29 (by decide)) (fun c1939 => ?_) (fun c1939 => ?_)
      · replace hF := xg_t c1939 hF
        refine xy_r (xw_iload_n dM_count_40 rfl) ?_
        refine xy_brn (xw_if_ne 51 dM_count_41 (by decide)) (fun c1940 => ?_) (fun c1940 => ?_)
        · replace hF := xg_f c1940 hF
          refine xy_r (xw_iload_n dM_count_51 rfl) ?_
          refine xy_r (xw_iconst (1) dM_count_52 (by decide)) ?_
          refine xy_brn (xw_icmp_ne 63 dM_count_53 (by decide)) (fun c1941 => ?_) (fun c1941 => ?_)
          · replace hF := xg_f c1941 hF
            refine xy_r (xw_iload_n dM_count_63 rfl) ?_
            refine xy_r (xw_iconst (2) dM_count_64 (by decide)) ?_
            refine xy_brn (xw_icmp_ne 75 dM_count_65 (by decide)) (fun c1942 => ?_) (fun c1942 => ?_)
            · replace hF := xg_f c1942 hF
              refine xy_r (xw_aload_n dM_count_75 rfl) ?_
              refine xy_r (xw_get dM_count_76 fM_481 rfl rfl) ?_
              obtain rfl := Option.some.inj hF
              exact xy_end (xw_ireturn dM_count_79 rfl rfl (Nat.le_refl _) (Nat.le_refl _) ⟨rfl, rfl⟩)
            · replace hF := xg_t c1942 hF
              refine xy_r (xw_aload_n dM_count_68 rfl) ?_
              refine xy_r (xw_get dM_count_69 fM_16 rfl rfl) ?_
              refine xy_r (xw_goto 79 dM_count_72 (by decide)) ?_
              obtain rfl := Option.some.inj hF
              exact xy_end (xw_ireturn dM_count_79 rfl rfl (Nat.le_refl _) (Nat.le_refl _) ⟨rfl, rfl⟩)
          · replace hF := xg_t c1941 hF
            refine xy_r (xw_aload_n dM_count_56 rfl) ?_
            refine xy_r (xw_get dM_count_57 fM_514 rfl rfl) ?_
            refine xy_r (xw_goto 79 dM_count_60 (by decide)) ?_
            obtain rfl := Option.some.inj hF
            exact xy_end (xw_ireturn dM_count_79 rfl rfl (Nat.le_refl _) (Nat.le_refl _) ⟨rfl, rfl⟩)
        · replace hF := xg_t c1940 hF
          refine xy_r (xw_aload_n dM_count_44 rfl) ?_
          refine xy_r (xw_get dM_count_45 fM_500 rfl rfl) ?_
          refine xy_r (xw_goto 79 dM_count_48 (by decide)) ?_
          obtain rfl := Option.some.inj hF
          exact xy_end (xw_ireturn dM_count_79 rfl rfl (Nat.le_refl _) (Nat.le_refl _) ⟨rfl, rfl⟩)
      · replace hF := xg_f c1939 hF
        refine xy_r (xw_aload_n dM_count_32 rfl) ?_
        refine xy_r (xw_aload_n dM_count_33 rfl) ?_
        rcases xg_o hF with ⟨r1943, er1943, hF⟩ | ⟨r1943, er1943, hF⟩
        · have hm1944 : s.2.2.1.2.2.2.2.2.2.1 ≤ r1943.2.2.2.1.2.2.2.2.2.2.1 ∧ s.2.2.1.2.2.2.2.2.2.2 ≤ r1943.2.2.2.1.2.2.2.2.2.2.2 := xy_le hm (show s.2.2.1.2.2.2.2.2.2.1 ≤ r1943.2.2.2.1.2.2.2.2.2.2.1 ∧ s.2.2.1.2.2.2.2.2.2.2 ≤ r1943.2.2.2.1.2.2.2.2.2.2.2 from (CM_parsed (w := w) (h := h) hb (s := ((0, s.1.2.1, s.1.2.2.1, s.1.2.2.2.1, s.1.2.2.2.2.1, 0), s.2)) er1943).1)
          refine xy_V1 (nl := 1) (sm := s.2.2.1.2.2.2.2.2.2.1) (sn := s.2.2.1.2.2.2.2.2.2.2) (tm := r1943.2.2.2.1.2.2.2.2.2.2.1) (tn := r1943.2.2.2.1.2.2.2.2.2.2.2) (CM_parsed hb (s := ((0, s.1.2.1, s.1.2.2.1, s.1.2.2.2.1, s.1.2.2.2.2.1, 0), s.2)) er1943) rfl rfl hm (fun _ => rfl) (fun _ => rfl) (fun _ => rfl) (fun _ => dM_count_34) (fun _ R => kM_507 R) (fun _ => rfl) ⟨(Nat.le_of_ble_eq_true rfl), (Nat.le_of_ble_eq_true rfl)⟩ rfl rfl rfl (fun _ => rfl) (Nat.le_of_ble_eq_true rfl) ?_
          obtain ⟨r1946, er1946, hF⟩ := xg_b hF
          have hm1947 : s.2.2.1.2.2.2.2.2.2.1 ≤ r1946.2.2.1.2.2.2.2.2.2.1 ∧ s.2.2.1.2.2.2.2.2.2.2 ≤ r1946.2.2.1.2.2.2.2.2.2.2 := xy_le hm1944 (show r1943.2.2.2.1.2.2.2.2.2.2.1 ≤ r1946.2.2.1.2.2.2.2.2.2.1 ∧ r1943.2.2.2.1.2.2.2.2.2.2.2 ≤ r1946.2.2.1.2.2.2.2.2.2.2 from (CM_G (w := w) (h := h) hb (s := r1943.2) er1946).1)
          refine xy_V0 (nl := 3) (sm := r1943.2.2.2.1.2.2.2.2.2.2.1) (sn := r1943.2.2.2.1.2.2.2.2.2.2.2) (tm := r1946.2.2.1.2.2.2.2.2.2.1) (tn := r1946.2.2.1.2.2.2.2.2.2.2) (CM_G hb (s := r1943.2) er1946) rfl rfl hm1944 (fun _ => rfl) (fun _ => rfl) (fun _ => rfl) (fun _ => dM_count_37) (fun _ R => kM_484 R) (fun _ => rfl) ⟨(Nat.le_of_ble_eq_true rfl), (Nat.le_of_ble_eq_true rfl)⟩ rfl rfl rfl (fun _ => rfl) (Nat.le_of_ble_eq_true rfl) ?_
          refine xy_r (xw_iload_n dM_count_40 rfl) ?_
          refine xy_brn (xw_if_ne 51 dM_count_41 (by decide)) (fun c1949 => ?_) (fun c1949 => ?_)
          · replace hF := xg_f c1949 hF
            refine xy_r (xw_iload_n dM_count_51 rfl) ?_
            refine xy_r (xw_iconst (1) dM_count_52 (by decide)) ?_
            refine xy_brn (xw_icmp_ne 63 dM_count_53 (by decide)) (fun c1950 => ?_) (fun c1950 => ?_)
            · replace hF := xg_f c1950 hF
              refine xy_r (xw_iload_n dM_count_63 rfl) ?_
              refine xy_r (xw_iconst (2) dM_count_64 (by decide)) ?_
              refine xy_brn (xw_icmp_ne 75 dM_count_65 (by decide)) (fun c1951 => ?_) (fun c1951 => ?_)
              · replace hF := xg_f c1951 hF
                refine xy_r (xw_aload_n dM_count_75 rfl) ?_
                refine xy_r (xw_get dM_count_76 fM_481 rfl rfl) ?_
                obtain rfl := Option.some.inj hF
                exact xy_end (xw_ireturn dM_count_79 rfl rfl (Nat.le_refl _) (Nat.le_refl _) ⟨rfl, rfl⟩)
              · replace hF := xg_t c1951 hF
                refine xy_r (xw_aload_n dM_count_68 rfl) ?_
                refine xy_r (xw_get dM_count_69 fM_16 rfl rfl) ?_
                refine xy_r (xw_goto 79 dM_count_72 (by decide)) ?_
                obtain rfl := Option.some.inj hF
                exact xy_end (xw_ireturn dM_count_79 rfl rfl (Nat.le_refl _) (Nat.le_refl _) ⟨rfl, rfl⟩)
            · replace hF := xg_t c1950 hF
              refine xy_r (xw_aload_n dM_count_56 rfl) ?_
              refine xy_r (xw_get dM_count_57 fM_514 rfl rfl) ?_
              refine xy_r (xw_goto 79 dM_count_60 (by decide)) ?_
              obtain rfl := Option.some.inj hF
              exact xy_end (xw_ireturn dM_count_79 rfl rfl (Nat.le_refl _) (Nat.le_refl _) ⟨rfl, rfl⟩)
          · replace hF := xg_t c1949 hF
            refine xy_r (xw_aload_n dM_count_44 rfl) ?_
            refine xy_r (xw_get dM_count_45 fM_500 rfl rfl) ?_
            refine xy_r (xw_goto 79 dM_count_48 (by decide)) ?_
            obtain rfl := Option.some.inj hF
            exact xy_end (xw_ireturn dM_count_79 rfl rfl (Nat.le_refl _) (Nat.le_refl _) ⟨rfl, rfl⟩)
        · subst hF
          exact xy_Vt (nl := 1) (sm := s.2.2.1.2.2.2.2.2.2.1) (sn := s.2.2.1.2.2.2.2.2.2.2) (tm := r1943.2.2.2.1.2.2.2.2.2.2.1) (tn := r1943.2.2.2.1.2.2.2.2.2.2.2) (CM_parsed hb (s := ((0, s.1.2.1, s.1.2.2.1, s.1.2.2.2.1, s.1.2.2.2.2.1, 0), s.2)) er1943) rfl rfl hm (fun _ => rfl) (fun _ => rfl) (fun _ => rfl) (fun _ => dM_count_34) (fun _ R => kM_507 R) (fun _ => rfl) ⟨(Nat.le_of_ble_eq_true rfl), (Nat.le_of_ble_eq_true rfl)⟩ rfl rfl rfl (fun _ => rfl) (Nat.le_of_ble_eq_true rfl) ⟨rfl, rfl⟩
    · replace hF := xg_f c1938 hF
      refine xy_r (xw_aload_n dM_count_14 rfl) ?_
      refine xy_r (xw_iconst (1) dM_count_15 (by decide)) ?_
      obtain ⟨r1952, er1952, hF⟩ := xg_b hF
      have hm1953 : s.2.2.1.2.2.2.2.2.2.1 ≤ r1952.2.2.2.1.2.2.2.2.2.2.1 ∧ s.2.2.1.2.2.2.2.2.2.2 ≤ r1952.2.2.2.1.2.2.2.2.2.2.2 := xy_le hm (show s.2.2.1.2.2.2.2.2.2.1 ≤ r1952.2.2.2.1.2.2.2.2.2.2.1 ∧ s.2.2.1.2.2.2.2.2.2.2 ≤ r1952.2.2.2.1.2.2.2.2.2.2.2 from (CM_fail (w := w) (h := h) hb (s := ((0, s.1.2), s.2)) er1952).1)
      refine xy_V1 (nl := 2) (sm := s.2.2.1.2.2.2.2.2.2.1) (sn := s.2.2.1.2.2.2.2.2.2.2) (tm := r1952.2.2.2.1.2.2.2.2.2.2.1) (tn := r1952.2.2.2.1.2.2.2.2.2.2.2) (CM_fail hb (s := ((0, s.1.2), s.2)) er1952) rfl rfl hm (fun _ => rfl) (fun _ => rfl) (fun _ => rfl) (fun _ => dM_count_16) (fun _ R => kM_497 R) (fun _ => rfl) ⟨(Nat.le_of_ble_eq_true rfl), (Nat.le_of_ble_eq_true rfl)⟩ rfl rfl rfl (fun _ => rfl) (Nat.le_of_ble_eq_true rfl) ?_
      obtain rfl := Option.some.inj hF
      exact xy_end (xw_ireturn dM_count_19 rfl rfl (Nat.le_refl _) (Nat.le_refl _) ⟨rfl, rfl⟩)
def FM_read (s : xMs) : Option (Int32 × xMs) := (FM_formula 2001 0 s.1.2.1 ((0, 0, s.1.2.2.1, (-1), s.1.2.2.2.2), s.2.1, (0, s.2.2.1.2), s.2.2.2)).bind fun r => match r with
  | .inl q => FM_keep q.1 2 q.2
  | .inr q => if q.1 = "java/lang/UnsupportedOperationException" then FM_fail 1 q.2 else none
set_option maxRecDepth 20000 in
theorem CM_read {w : xw_G} {h : xw_H} (hb : xMb h) {s : xMs} {out : (Int32 × xMs)} (hF : FM_read s = some out) : (s.2.2.1.2.2.2.2.2.2.1 ≤ out.2.2.2.1.2.2.2.2.2.2.1 ∧ s.2.2.1.2.2.2.2.2.2.2 ≤ out.2.2.2.1.2.2.2.2.2.2.2) ∧ xw_C w (mM_read { frames := 273, cells := out.2.2.2.1.2.2.2.2.2.2.1 - s.2.2.1.2.2.2.2.2.2.1, slots := out.2.2.2.1.2.2.2.2.2.2.2 - s.2.2.1.2.2.2.2.2.2.2, locals := 15674 }) (xw_R (some (.int out.1)) (mV out.2 h)) [.ref 2000] (mV s h) := by
  unfold FM_read at hF
  obtain ⟨r, er, hF⟩ := xg_b hF
  have hC := CM_formula (w := w) (h := h) hb er
  have c1 : s.2.2.1.2.2.2.2.2.2.1 ≤ (xo_s r).2.2.1.2.2.2.2.2.2.1 := hC.1.1
  have c2 : s.2.2.1.2.2.2.2.2.2.2 ≤ (xo_s r).2.2.1.2.2.2.2.2.2.2 := hC.1.2
  cases r with
  | inl q =>
    have hK := CM_keep (w := w) (h := h) hb (show FM_keep q.1 2 q.2 = some out from hF)
    have k1 := hK.1.1
    have k2 := hK.1.2
    replace c1 : s.2.2.1.2.2.2.2.2.2.1 ≤ q.2.2.2.1.2.2.2.2.2.2.1 := c1
    replace c2 : s.2.2.1.2.2.2.2.2.2.2 ≤ q.2.2.2.1.2.2.2.2.2.2.2 := c2
    refine ⟨⟨by omega, by omega⟩, ?_⟩
    refine xw_enterH rfl (show plainName "FormulaShaperModel" = true by decide +kernel) (Nat.le_of_ble_eq_true rfl) ?_
    refine xw_aload_n dM_read_0 rfl ?_
    refine xw_iconst (0) dM_read_1 (by decide) ?_
    refine xg_put dM_read_2 fM_185 rfl (by decide) (Nat.le_of_ble_eq_true rfl) (fun _ => rfl) (fun _ => rfl) (mV_o (s' := ((0, s.1.2), s.2)) rfl) ?_
    refine xw_aload_n dM_read_5 rfl ?_
    refine xw_get dM_read_6 fM_500 rfl rfl ?_
    refine xw_istore_n dM_read_9 (Nat.le_of_ble_eq_true rfl) ?_
    refine xw_aload_n dM_read_10 rfl ?_
    refine xw_iconst (0) dM_read_11 (by decide) ?_
    refine xg_put dM_read_12 fM_500 rfl (by decide) (Nat.le_of_ble_eq_true rfl) (fun _ => rfl) (fun _ => rfl) (mV_o (s' := ((0, 0, s.1.2.2), s.2)) rfl) ?_
    refine xw_aload_n dM_read_15 rfl ?_
    refine xw_iconst (-1) dM_read_16 (by decide) ?_
    refine xg_put dM_read_17 fM_16 rfl (by decide) (Nat.le_of_ble_eq_true rfl) (fun _ => rfl) (fun _ => rfl) (mV_o (s' := ((0, 0, s.1.2.2.1, (-1), s.1.2.2.2.2), s.2)) rfl) ?_
    refine xw_aload_n dM_read_20 rfl ?_
    refine xw_iconst (0) dM_read_21 (by decide) ?_
    refine xg_put dM_read_22 fM_188 rfl (by decide) (Nat.le_of_ble_eq_true rfl) (fun _ => rfl) (fun _ => rfl) (mV_o (s' := ((0, 0, s.1.2.2.1, (-1), s.1.2.2.2.2), s.2.1, (0, s.2.2.1.2), s.2.2.2)) rfl) ?_
    refine xw_null dM_read_25 ?_
    refine xw_astore_nN dM_read_26 (Nat.le_of_ble_eq_true rfl) ?_
    refine xw_aload_n dM_read_27 rfl ?_
    refine xw_aload_n dM_read_28 rfl ?_
    refine xw_get dM_read_29 fM_7 rfl rfl ?_
    refine xw_iconst (0) dM_read_32 (by decide) ?_
    refine xw_iload_n dM_read_33 rfl ?_
    refine xw_callVH hC.2 dM_read_34 (kM_490 _) ⟨Nat.le_of_ble_eq_true rfl, Nat.le_of_ble_eq_true rfl⟩ rfl rfl rfl rfl (Nat.le_of_ble_eq_true rfl) (by show 0 + (q.2.2.2.1.2.2.2.2.2.2.1 - s.2.2.1.2.2.2.2.2.2.1) ≤ out.2.2.2.1.2.2.2.2.2.2.1 - s.2.2.1.2.2.2.2.2.2.1; omega) (by show 0 + (q.2.2.2.1.2.2.2.2.2.2.2 - s.2.2.1.2.2.2.2.2.2.2) ≤ out.2.2.2.1.2.2.2.2.2.2.2 - s.2.2.1.2.2.2.2.2.2.2; omega) (fun v h' hp => ?_) (fun E h' hp => (hp : False).elim)
    obtain ⟨rfl, rfl⟩ := hp
    refine xw_astore_n dM_read_37 (Nat.le_of_ble_eq_true rfl) ?_
    refine xw_goto 48 dM_read_38 (by decide) ?_
    refine xw_aload_n dM_read_48 rfl ?_
    refine xw_aload_n dM_read_49 rfl ?_
    refine xw_iconst (2) dM_read_50 (by decide) ?_
    refine xw_callVH hK.2 dM_read_51 (kM_503 _) ⟨Nat.le_of_ble_eq_true rfl, Nat.le_of_ble_eq_true rfl⟩ rfl rfl rfl rfl (Nat.le_of_ble_eq_true rfl) (by show 0 + (q.2.2.2.1.2.2.2.2.2.2.1 - s.2.2.1.2.2.2.2.2.2.1) + (out.2.2.2.1.2.2.2.2.2.2.1 - q.2.2.2.1.2.2.2.2.2.2.1) ≤ out.2.2.2.1.2.2.2.2.2.2.1 - s.2.2.1.2.2.2.2.2.2.1; omega) (by show 0 + (q.2.2.2.1.2.2.2.2.2.2.2 - s.2.2.1.2.2.2.2.2.2.2) + (out.2.2.2.1.2.2.2.2.2.2.2 - q.2.2.2.1.2.2.2.2.2.2.2) ≤ out.2.2.2.1.2.2.2.2.2.2.2 - s.2.2.1.2.2.2.2.2.2.2; omega) (fun v h' hp => ?_) (fun E h' hp => (hp : False).elim)
    obtain ⟨rfl, rfl⟩ := hp
    exact xw_ireturn dM_read_54 rfl rfl (by show 0 + (q.2.2.2.1.2.2.2.2.2.2.1 - s.2.2.1.2.2.2.2.2.2.1) + (out.2.2.2.1.2.2.2.2.2.2.1 - q.2.2.2.1.2.2.2.2.2.2.1) ≤ out.2.2.2.1.2.2.2.2.2.2.1 - s.2.2.1.2.2.2.2.2.2.1; omega) (by show 0 + (q.2.2.2.1.2.2.2.2.2.2.2 - s.2.2.1.2.2.2.2.2.2.2) + (out.2.2.2.1.2.2.2.2.2.2.2 - q.2.2.2.1.2.2.2.2.2.2.2) ≤ out.2.2.2.1.2.2.2.2.2.2.2 - s.2.2.1.2.2.2.2.2.2.2; omega) ⟨rfl, rfl⟩
  | inr q =>
    obtain ⟨cE, hF⟩ := xg_g (show (if q.1 = "java/lang/UnsupportedOperationException" then FM_fail 1 q.2 else none) = some out from hF)
    have hK := CM_fail (w := w) (h := h) hb hF
    have k1 := hK.1.1
    have k2 := hK.1.2
    replace c1 : s.2.2.1.2.2.2.2.2.2.1 ≤ q.2.2.2.1.2.2.2.2.2.2.1 := c1
    replace c2 : s.2.2.1.2.2.2.2.2.2.2 ≤ q.2.2.2.1.2.2.2.2.2.2.2 := c2
    refine ⟨⟨by omega, by omega⟩, ?_⟩
    refine xw_enterH rfl (show plainName "FormulaShaperModel" = true by decide +kernel) (Nat.le_of_ble_eq_true rfl) ?_
    refine xw_aload_n dM_read_0 rfl ?_
    refine xw_iconst (0) dM_read_1 (by decide) ?_
    refine xg_put dM_read_2 fM_185 rfl (by decide) (Nat.le_of_ble_eq_true rfl) (fun _ => rfl) (fun _ => rfl) (mV_o (s' := ((0, s.1.2), s.2)) rfl) ?_
    refine xw_aload_n dM_read_5 rfl ?_
    refine xw_get dM_read_6 fM_500 rfl rfl ?_
    refine xw_istore_n dM_read_9 (Nat.le_of_ble_eq_true rfl) ?_
    refine xw_aload_n dM_read_10 rfl ?_
    refine xw_iconst (0) dM_read_11 (by decide) ?_
    refine xg_put dM_read_12 fM_500 rfl (by decide) (Nat.le_of_ble_eq_true rfl) (fun _ => rfl) (fun _ => rfl) (mV_o (s' := ((0, 0, s.1.2.2), s.2)) rfl) ?_
    refine xw_aload_n dM_read_15 rfl ?_
    refine xw_iconst (-1) dM_read_16 (by decide) ?_
    refine xg_put dM_read_17 fM_16 rfl (by decide) (Nat.le_of_ble_eq_true rfl) (fun _ => rfl) (fun _ => rfl) (mV_o (s' := ((0, 0, s.1.2.2.1, (-1), s.1.2.2.2.2), s.2)) rfl) ?_
    refine xw_aload_n dM_read_20 rfl ?_
    refine xw_iconst (0) dM_read_21 (by decide) ?_
    refine xg_put dM_read_22 fM_188 rfl (by decide) (Nat.le_of_ble_eq_true rfl) (fun _ => rfl) (fun _ => rfl) (mV_o (s' := ((0, 0, s.1.2.2.1, (-1), s.1.2.2.2.2), s.2.1, (0, s.2.2.1.2), s.2.2.2)) rfl) ?_
    refine xw_null dM_read_25 ?_
    refine xw_astore_nN dM_read_26 (Nat.le_of_ble_eq_true rfl) ?_
    refine xw_aload_n dM_read_27 rfl ?_
    refine xw_aload_n dM_read_28 rfl ?_
    refine xw_get dM_read_29 fM_7 rfl rfl ?_
    refine xw_iconst (0) dM_read_32 (by decide) ?_
    refine xw_iload_n dM_read_33 rfl ?_
    refine xw_callVH hC.2 dM_read_34 (kM_490 _) ⟨Nat.le_of_ble_eq_true rfl, Nat.le_of_ble_eq_true rfl⟩ rfl rfl rfl rfl (Nat.le_of_ble_eq_true rfl) (by show 0 + (q.2.2.2.1.2.2.2.2.2.2.1 - s.2.2.1.2.2.2.2.2.2.1) ≤ out.2.2.2.1.2.2.2.2.2.2.1 - s.2.2.1.2.2.2.2.2.2.1; omega) (by show 0 + (q.2.2.2.1.2.2.2.2.2.2.2 - s.2.2.1.2.2.2.2.2.2.2) ≤ out.2.2.2.1.2.2.2.2.2.2.2 - s.2.2.1.2.2.2.2.2.2.2; omega) (fun v h' hp => (hp : False).elim) (fun E h' hp => ?_)
    obtain ⟨rfl, rfl⟩ := hp
    refine ⟨41, 3, 42, ⟨[], _, [], "java/lang/UnsupportedOperationException", rfl, (fun z hz => by cases hz), (by decide), (by decide), rfl, tw_1074, (by rw [cE]; exact tw_659)⟩, Or.inl ⟨3, rfl, dM_read_41⟩, (Nat.le_of_ble_eq_true rfl), ?_⟩
    refine xw_aload_n dM_read_42 rfl ?_
    refine xw_iconst (1) dM_read_43 (by decide) ?_
    refine xw_callVH hK.2 dM_read_44 (kM_497 _) ⟨Nat.le_of_ble_eq_true rfl, Nat.le_of_ble_eq_true rfl⟩ rfl rfl rfl rfl (Nat.le_of_ble_eq_true rfl) (by show 0 + (q.2.2.2.1.2.2.2.2.2.2.1 - s.2.2.1.2.2.2.2.2.2.1) + (out.2.2.2.1.2.2.2.2.2.2.1 - q.2.2.2.1.2.2.2.2.2.2.1) ≤ out.2.2.2.1.2.2.2.2.2.2.1 - s.2.2.1.2.2.2.2.2.2.1; omega) (by show 0 + (q.2.2.2.1.2.2.2.2.2.2.2 - s.2.2.1.2.2.2.2.2.2.2) + (out.2.2.2.1.2.2.2.2.2.2.2 - q.2.2.2.1.2.2.2.2.2.2.2) ≤ out.2.2.2.1.2.2.2.2.2.2.2 - s.2.2.1.2.2.2.2.2.2.2; omega) (fun v h' hp => ?_) (fun E h' hp => (hp : False).elim)
    obtain ⟨rfl, rfl⟩ := hp
    exact xw_ireturn dM_read_47 rfl rfl (by show 0 + (q.2.2.2.1.2.2.2.2.2.2.1 - s.2.2.1.2.2.2.2.2.2.1) + (out.2.2.2.1.2.2.2.2.2.2.1 - q.2.2.2.1.2.2.2.2.2.2.1) ≤ out.2.2.2.1.2.2.2.2.2.2.1 - s.2.2.1.2.2.2.2.2.2.1; omega) (by show 0 + (q.2.2.2.1.2.2.2.2.2.2.2 - s.2.2.1.2.2.2.2.2.2.2) + (out.2.2.2.1.2.2.2.2.2.2.2 - q.2.2.2.1.2.2.2.2.2.2.2) ≤ out.2.2.2.1.2.2.2.2.2.2.2 - s.2.2.1.2.2.2.2.2.2.2; omega) ⟨rfl, rfl⟩
