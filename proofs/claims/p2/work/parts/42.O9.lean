/-- FormulaShaperModel.lost -/
def FM_lost (x0 : Nat) (s : xMs) : Option xMs := if x0 < s.2.2.1.2.2.2.2.1 then (some (s.1, s.2.1, (s.2.2.1.1, s.2.2.1.2.1, s.2.2.1.2.2.1, s.2.2.1.2.2.2.1, s.2.2.1.2.2.2.2.1, (va_up s.2.2.1.2.2.2.2.2.1 x0 (nA (nKind (s.2.2.1.2.2.2.2.2.1 x0) 3) 3)), s.2.2.1.2.2.2.2.2.2), s.2.2.2)) else none
set_option maxRecDepth 20000 in
theorem CM_lost {w : xw_G} {h : xw_H} (hb : xMb h) {x0 : Nat} {s : xMs} {out : xMs} (hF : FM_lost x0 s = some out) : (s.2.2.1.2.2.2.2.2.2.1 ≤ out.2.2.1.2.2.2.2.2.2.1 ∧ s.2.2.1.2.2.2.2.2.2.2 ≤ out.2.2.1.2.2.2.2.2.2.2) ∧ xw_C w (mM_lost { frames := 0, cells := out.2.2.1.2.2.2.2.2.2.1 - s.2.2.1.2.2.2.2.2.2.1, slots := out.2.2.1.2.2.2.2.2.2.2 - s.2.2.1.2.2.2.2.2.2.2, locals := 0 }) (xw_R none (mV out h)) [.ref 2000, .ref (xn x0)] (mV s h) := by
  unfold FM_lost at hF
  refine xy_enter (L := [some (.ref 2000), some (.ref (xn x0))]) (fun _ => rfl) (fun _ => rfl) (fun _ => (show plainName "FormulaShaperModel" = true by decide +kernel)) (fun _ => (Nat.le_of_ble_eq_true rfl)) (fun _ => rfl) ?_
  have hm : s.2.2.1.2.2.2.2.2.2.1 ≤ s.2.2.1.2.2.2.2.2.2.1 ∧ s.2.2.1.2.2.2.2.2.2.2 ≤ s.2.2.1.2.2.2.2.2.2.2 := ⟨Nat.le_refl _, Nat.le_refl _⟩
  refine xy_r (xw_aload_n dM_lost_0 rfl) ?_
  refine xy_r (xw_iconst (3) dM_lost_1 (by decide)) ?_
  obtain ⟨g1607, hF⟩ := xg_g hF
  refine xy_r (xg_put dM_lost_2 fM_192 (mV_n g1607) (xn_le _) (Nat.le_of_ble_eq_true rfl) (fun _ => rfl) (fun _ => rfl) (mV_e (s' := (s.1, s.2.1, (s.2.2.1.1, s.2.2.1.2.1, s.2.2.1.2.2.1, s.2.2.1.2.2.2.1, s.2.2.1.2.2.2.2.1, (va_up s.2.2.1.2.2.2.2.2.1 x0 (nKind (s.2.2.1.2.2.2.2.2.1 x0) 3)), s.2.2.1.2.2.2.2.2.2), s.2.2.2)) (mV_pn (q := (nKind (s.2.2.1.2.2.2.2.2.1 x0) 3)) g1607) rfl)) ?_
  refine xy_r (xw_aload_n dM_lost_5 rfl) ?_
  refine xy_r (xw_iconst (3) dM_lost_6 (by decide)) ?_
  refine xy_r (xg_put dM_lost_7 fM_195 (mV_nu (va_up_self _ _ _) g1607) (xn_le _) (Nat.le_of_ble_eq_true rfl) (fun _ => rfl) (fun _ => rfl) (mV_e (s' := (s.1, s.2.1, (s.2.2.1.1, s.2.2.1.2.1, s.2.2.1.2.2.1, s.2.2.1.2.2.2.1, s.2.2.1.2.2.2.2.1, (va_up s.2.2.1.2.2.2.2.2.1 x0 (nA (nKind (s.2.2.1.2.2.2.2.2.1 x0) 3) 3)), s.2.2.1.2.2.2.2.2.2), s.2.2.2)) (mV_pu (q := (nA (nKind (s.2.2.1.2.2.2.2.2.1 x0) 3) 3)) g1607 (va_up_up _ _ _ _)) rfl)) ?_
  obtain rfl := Option.some.inj hF
  exact xy_end (xw_return dM_lost_10 rfl (Nat.le_refl _) (Nat.le_refl _) ⟨rfl, rfl⟩)
/-- FormulaShaperModel.inOrder -/
def FM_inOrder (x0 : Nat) (s : xMs) : Option xMs := if x0 < s.2.2.1.2.2.2.2.1 then (if (s.2.2.1.2.2.2.2.2.1 x0).2.1.1 ≤ (s.2.2.1.2.2.2.2.2.1 x0).2.1.2.2.2.2.1 then (if (s.2.2.1.2.2.2.2.2.1 x0).2.1.2.1 ≤ (s.2.2.1.2.2.2.2.2.1 x0).2.1.2.2.2.2.2.1 then (some s) else (some (s.1, s.2.1, (s.2.2.1.1, s.2.2.1.2.1, s.2.2.1.2.2.1, s.2.2.1.2.2.2.1, s.2.2.1.2.2.2.2.1, (va_up s.2.2.1.2.2.2.2.2.1 x0 (nLcs (nCs (nLc (nCol (s.2.2.1.2.2.2.2.2.1 x0) ((s.2.2.1.2.2.2.2.2.1 x0).2.1.2.2.2.2.2.1)) ((s.2.2.1.2.2.2.2.2.1 x0).2.1.2.1)) ((s.2.2.1.2.2.2.2.2.1 x0).2.1.2.2.2.2.2.2.2)) ((s.2.2.1.2.2.2.2.2.1 x0).2.1.2.2.2.1))), s.2.2.1.2.2.2.2.2.2), s.2.2.2))) else (if (s.2.2.1.2.2.2.2.2.1 x0).2.1.2.1 ≤ (s.2.2.1.2.2.2.2.2.1 x0).2.1.2.2.2.2.2.1 then (some (s.1, s.2.1, (s.2.2.1.1, s.2.2.1.2.1, s.2.2.1.2.2.1, s.2.2.1.2.2.2.1, s.2.2.1.2.2.2.2.1, (va_up s.2.2.1.2.2.2.2.2.1 x0 (nLrs (nRs (nLr (nRow (s.2.2.1.2.2.2.2.2.1 x0) ((s.2.2.1.2.2.2.2.2.1 x0).2.1.2.2.2.2.1)) ((s.2.2.1.2.2.2.2.2.1 x0).2.1.1)) ((s.2.2.1.2.2.2.2.2.1 x0).2.1.2.2.2.2.2.2.1)) ((s.2.2.1.2.2.2.2.2.1 x0).2.1.2.2.1))), s.2.2.1.2.2.2.2.2.2), s.2.2.2)) else (some (s.1, s.2.1, (s.2.2.1.1, s.2.2.1.2.1, s.2.2.1.2.2.1, s.2.2.1.2.2.2.1, s.2.2.1.2.2.2.2.1, (va_up s.2.2.1.2.2.2.2.2.1 x0 (nLcs (nCs (nLc (nCol (nLrs (nRs (nLr (nRow (s.2.2.1.2.2.2.2.2.1 x0) ((s.2.2.1.2.2.2.2.2.1 x0).2.1.2.2.2.2.1)) ((s.2.2.1.2.2.2.2.2.1 x0).2.1.1)) ((s.2.2.1.2.2.2.2.2.1 x0).2.1.2.2.2.2.2.2.1)) ((s.2.2.1.2.2.2.2.2.1 x0).2.1.2.2.1)) ((s.2.2.1.2.2.2.2.2.1 x0).2.1.2.2.2.2.2.1)) ((s.2.2.1.2.2.2.2.2.1 x0).2.1.2.1)) ((s.2.2.1.2.2.2.2.2.1 x0).2.1.2.2.2.2.2.2.2)) ((s.2.2.1.2.2.2.2.2.1 x0).2.1.2.2.2.1))), s.2.2.1.2.2.2.2.2.2), s.2.2.2)))) else none
set_option maxRecDepth 20000 in
theorem CM_inOrder {w : xw_G} {h : xw_H} (hb : xMb h) {x0 : Nat} {s : xMs} {out : xMs} (hF : FM_inOrder x0 s = some out) : (s.2.2.1.2.2.2.2.2.2.1 ≤ out.2.2.1.2.2.2.2.2.2.1 ∧ s.2.2.1.2.2.2.2.2.2.2 ≤ out.2.2.1.2.2.2.2.2.2.2) ∧ xw_C w (mM_inOrder { frames := 0, cells := out.2.2.1.2.2.2.2.2.2.1 - s.2.2.1.2.2.2.2.2.2.1, slots := out.2.2.1.2.2.2.2.2.2.2 - s.2.2.1.2.2.2.2.2.2.2, locals := 0 }) (xw_R none (mV out h)) [.ref 2000, .ref (xn x0)] (mV s h) := by
  unfold FM_inOrder at hF
  refine xy_enter (L := [some (.ref 2000), some (.ref (xn x0)), none, none]) (fun _ => rfl) (fun _ => rfl) (fun _ => (show plainName "FormulaShaperModel" = true by decide +kernel)) (fun _ => (Nat.le_of_ble_eq_true rfl)) (fun _ => rfl) ?_
  have hm : s.2.2.1.2.2.2.2.2.2.1 ≤ s.2.2.1.2.2.2.2.2.2.1 ∧ s.2.2.1.2.2.2.2.2.2.2 ≤ s.2.2.1.2.2.2.2.2.2.2 := ⟨Nat.le_refl _, Nat.le_refl _⟩
  refine xy_r (xw_aload_n dM_inOrder_0 rfl) ?_
  obtain ⟨g1608, hF⟩ := xg_g hF
  refine xy_r (xw_get dM_inOrder_1 fM_368 (mV_n g1608) rfl) ?_
  refine xy_r (xw_aload_n dM_inOrder_4 rfl) ?_
  refine xy_r (xw_get dM_inOrder_5 fM_389 (mV_n g1608) rfl) ?_
  refine xy_br (xw_icmp_le 47 dM_inOrder_8 (by decide)) (fun c1609 => ?_) (fun c1609 => ?_)
  · replace hF := xg_t c1609 hF
    refine xy_r (xw_aload_n dM_inOrder_47 rfl) ?_
    refine xy_r (xw_get dM_inOrder_48 fM_371 (mV_n g1608) rfl) ?_
    refine xy_r (xw_aload_n dM_inOrder_51 rfl) ?_
    refine xy_r (xw_get dM_inOrder_52 fM_398 (mV_n g1608) rfl) ?_
    refine xy_br (xw_icmp_le 94 dM_inOrder_55 (by decide)) (fun c1610 => ?_) (fun c1610 => ?_)
    · replace hF := xg_t c1610 hF
      obtain rfl := Option.some.inj hF
      exact xy_end (xw_return dM_inOrder_94 rfl (Nat.le_refl _) (Nat.le_refl _) ⟨rfl, rfl⟩)
    · replace hF := xg_f c1610 hF
      refine xy_r (xw_aload_n dM_inOrder_58 rfl) ?_
      refine xy_r (xw_get dM_inOrder_59 fM_371 (mV_n g1608) rfl) ?_
      refine xy_r (xw_istore_n dM_inOrder_62 (Nat.le_of_ble_eq_true rfl)) ?_
      refine xy_r (xw_Ln (L' := [some (.ref 2000), some (.ref (xn x0)), some (.int (s.2.2.1.2.2.2.2.2.1 x0).2.1.2.1), none]) rfl) ?_
      refine xy_r (xw_aload_n dM_inOrder_63 rfl) ?_
      refine xy_r (xw_aload_n dM_inOrder_64 rfl) ?_
      refine xy_r (xw_get dM_inOrder_65 fM_398 (mV_n g1608) rfl) ?_
      refine xy_r (xg_put dM_inOrder_68 fM_371 (mV_n g1608) (xn_le _) (Nat.le_of_ble_eq_true rfl) (fun _ => rfl) (fun _ => rfl) (mV_e (s' := (s.1, s.2.1, (s.2.2.1.1, s.2.2.1.2.1, s.2.2.1.2.2.1, s.2.2.1.2.2.2.1, s.2.2.1.2.2.2.2.1, (va_up s.2.2.1.2.2.2.2.2.1 x0 (nCol (s.2.2.1.2.2.2.2.2.1 x0) ((s.2.2.1.2.2.2.2.2.1 x0).2.1.2.2.2.2.2.1))), s.2.2.1.2.2.2.2.2.2), s.2.2.2)) (mV_pn (q := (nCol (s.2.2.1.2.2.2.2.2.1 x0) ((s.2.2.1.2.2.2.2.2.1 x0).2.1.2.2.2.2.2.1))) g1608) rfl)) ?_
      refine xy_r (xw_aload_n dM_inOrder_71 rfl) ?_
      refine xy_r (xw_iload_n dM_inOrder_72 rfl) ?_
      refine xy_r (xg_put dM_inOrder_73 fM_398 (mV_nu (va_up_self _ _ _) g1608) (xn_le _) (Nat.le_of_ble_eq_true rfl) (fun _ => rfl) (fun _ => rfl) (mV_e (s' := (s.1, s.2.1, (s.2.2.1.1, s.2.2.1.2.1, s.2.2.1.2.2.1, s.2.2.1.2.2.2.1, s.2.2.1.2.2.2.2.1, (va_up s.2.2.1.2.2.2.2.2.1 x0 (nLc (nCol (s.2.2.1.2.2.2.2.2.1 x0) ((s.2.2.1.2.2.2.2.2.1 x0).2.1.2.2.2.2.2.1)) ((s.2.2.1.2.2.2.2.2.1 x0).2.1.2.1))), s.2.2.1.2.2.2.2.2.2), s.2.2.2)) (mV_pu (q := (nLc (nCol (s.2.2.1.2.2.2.2.2.1 x0) ((s.2.2.1.2.2.2.2.2.1 x0).2.1.2.2.2.2.2.1)) ((s.2.2.1.2.2.2.2.2.1 x0).2.1.2.1))) g1608 (va_up_up _ _ _ _)) rfl)) ?_
      refine xy_r (xw_aload_n dM_inOrder_76 rfl) ?_
      refine xy_r (xw_get dM_inOrder_77 fM_377 (mV_nu (va_up_self _ _ _) g1608) rfl) ?_
      refine xy_r (xw_istore_n dM_inOrder_80 (Nat.le_of_ble_eq_true rfl)) ?_
      refine xy_r (xw_Ln (L' := [some (.ref 2000), some (.ref (xn x0)), some (.int (s.2.2.1.2.2.2.2.2.1 x0).2.1.2.1), some (.int (xb (s.2.2.1.2.2.2.2.2.1 x0).2.1.2.2.2.1))]) rfl) ?_
      refine xy_r (xw_aload_n dM_inOrder_81 rfl) ?_
      refine xy_r (xw_aload_n dM_inOrder_82 rfl) ?_
      refine xy_r (xw_get dM_inOrder_83 fM_401 (mV_nu (va_up_self _ _ _) g1608) rfl) ?_
      refine xy_r (xg_put dM_inOrder_86 fM_377 (mV_nu (va_up_self _ _ _) g1608) (xn_le _) (Nat.le_of_ble_eq_true rfl) (fun _ => xb_nar (s.2.2.1.2.2.2.2.2.1 x0).2.1.2.2.2.2.2.2.2) (fun _ => xb_fit (s.2.2.1.2.2.2.2.2.1 x0).2.1.2.2.2.2.2.2.2) (mV_e (s' := (s.1, s.2.1, (s.2.2.1.1, s.2.2.1.2.1, s.2.2.1.2.2.1, s.2.2.1.2.2.2.1, s.2.2.1.2.2.2.2.1, (va_up s.2.2.1.2.2.2.2.2.1 x0 (nCs (nLc (nCol (s.2.2.1.2.2.2.2.2.1 x0) ((s.2.2.1.2.2.2.2.2.1 x0).2.1.2.2.2.2.2.1)) ((s.2.2.1.2.2.2.2.2.1 x0).2.1.2.1)) ((s.2.2.1.2.2.2.2.2.1 x0).2.1.2.2.2.2.2.2.2))), s.2.2.1.2.2.2.2.2.2), s.2.2.2)) (mV_pu (q := (nCs (nLc (nCol (s.2.2.1.2.2.2.2.2.1 x0) ((s.2.2.1.2.2.2.2.2.1 x0).2.1.2.2.2.2.2.1)) ((s.2.2.1.2.2.2.2.2.1 x0).2.1.2.1)) ((s.2.2.1.2.2.2.2.2.1 x0).2.1.2.2.2.2.2.2.2))) g1608 (va_up_up _ _ _ _)) rfl)) ?_
      refine xy_r (xw_aload_n dM_inOrder_89 rfl) ?_
      refine xy_r (xw_iload_n dM_inOrder_90 rfl) ?_
      refine xy_r (xg_put dM_inOrder_91 fM_401 (mV_nu (va_up_self _ _ _) g1608) (xn_le _) (Nat.le_of_ble_eq_true rfl) (fun _ => xb_nar (s.2.2.1.2.2.2.2.2.1 x0).2.1.2.2.2.1) (fun _ => xb_fit (s.2.2.1.2.2.2.2.2.1 x0).2.1.2.2.2.1) (mV_e (s' := (s.1, s.2.1, (s.2.2.1.1, s.2.2.1.2.1, s.2.2.1.2.2.1, s.2.2.1.2.2.2.1, s.2.2.1.2.2.2.2.1, (va_up s.2.2.1.2.2.2.2.2.1 x0 (nLcs (nCs (nLc (nCol (s.2.2.1.2.2.2.2.2.1 x0) ((s.2.2.1.2.2.2.2.2.1 x0).2.1.2.2.2.2.2.1)) ((s.2.2.1.2.2.2.2.2.1 x0).2.1.2.1)) ((s.2.2.1.2.2.2.2.2.1 x0).2.1.2.2.2.2.2.2.2)) ((s.2.2.1.2.2.2.2.2.1 x0).2.1.2.2.2.1))), s.2.2.1.2.2.2.2.2.2), s.2.2.2)) (mV_pu (q := (nLcs (nCs (nLc (nCol (s.2.2.1.2.2.2.2.2.1 x0) ((s.2.2.1.2.2.2.2.2.1 x0).2.1.2.2.2.2.2.1)) ((s.2.2.1.2.2.2.2.2.1 x0).2.1.2.1)) ((s.2.2.1.2.2.2.2.2.1 x0).2.1.2.2.2.2.2.2.2)) ((s.2.2.1.2.2.2.2.2.1 x0).2.1.2.2.2.1))) g1608 (va_up_up _ _ _ _)) rfl)) ?_
      obtain rfl := Option.some.inj hF
      exact xy_end (xw_return dM_inOrder_94 rfl (Nat.le_refl _) (Nat.le_refl _) ⟨rfl, rfl⟩)
  · replace hF := xg_f c1609 hF
    refine xy_r (xw_aload_n dM_inOrder_11 rfl) ?_
    refine xy_r (xw_get dM_inOrder_12 fM_368 (mV_n g1608) rfl) ?_
    refine xy_r (xw_istore_n dM_inOrder_15 (Nat.le_of_ble_eq_true rfl)) ?_
    refine xy_r (xw_Ln (L' := [some (.ref 2000), some (.ref (xn x0)), some (.int (s.2.2.1.2.2.2.2.2.1 x0).2.1.1), none]) rfl) ?_
    refine xy_r (xw_aload_n dM_inOrder_16 rfl) ?_
    refine xy_r (xw_aload_n dM_inOrder_17 rfl) ?_
    refine xy_r (xw_get dM_inOrder_18 fM_389 (mV_n g1608) rfl) ?_
    refine xy_r (xg_put dM_inOrder_21 fM_368 (mV_n g1608) (xn_le _) (Nat.le_of_ble_eq_true rfl) (fun _ => rfl) (fun _ => rfl) (mV_e (s' := (s.1, s.2.1, (s.2.2.1.1, s.2.2.1.2.1, s.2.2.1.2.2.1, s.2.2.1.2.2.2.1, s.2.2.1.2.2.2.2.1, (va_up s.2.2.1.2.2.2.2.2.1 x0 (nRow (s.2.2.1.2.2.2.2.2.1 x0) ((s.2.2.1.2.2.2.2.2.1 x0).2.1.2.2.2.2.1))), s.2.2.1.2.2.2.2.2.2), s.2.2.2)) (mV_pn (q := (nRow (s.2.2.1.2.2.2.2.2.1 x0) ((s.2.2.1.2.2.2.2.2.1 x0).2.1.2.2.2.2.1))) g1608) rfl)) ?_
    refine xy_r (xw_aload_n dM_inOrder_24 rfl) ?_
    refine xy_r (xw_iload_n dM_inOrder_25 rfl) ?_
    refine xy_r (xg_put dM_inOrder_26 fM_389 (mV_nu (va_up_self _ _ _) g1608) (xn_le _) (Nat.le_of_ble_eq_true rfl) (fun _ => rfl) (fun _ => rfl) (mV_e (s' := (s.1, s.2.1, (s.2.2.1.1, s.2.2.1.2.1, s.2.2.1.2.2.1, s.2.2.1.2.2.2.1, s.2.2.1.2.2.2.2.1, (va_up s.2.2.1.2.2.2.2.2.1 x0 (nLr (nRow (s.2.2.1.2.2.2.2.2.1 x0) ((s.2.2.1.2.2.2.2.2.1 x0).2.1.2.2.2.2.1)) ((s.2.2.1.2.2.2.2.2.1 x0).2.1.1))), s.2.2.1.2.2.2.2.2.2), s.2.2.2)) (mV_pu (q := (nLr (nRow (s.2.2.1.2.2.2.2.2.1 x0) ((s.2.2.1.2.2.2.2.2.1 x0).2.1.2.2.2.2.1)) ((s.2.2.1.2.2.2.2.2.1 x0).2.1.1))) g1608 (va_up_up _ _ _ _)) rfl)) ?_
    refine xy_r (xw_aload_n dM_inOrder_29 rfl) ?_
    refine xy_r (xw_get dM_inOrder_30 fM_374 (mV_nu (va_up_self _ _ _) g1608) rfl) ?_
    refine xy_r (xw_istore_n dM_inOrder_33 (Nat.le_of_ble_eq_true rfl)) ?_
    refine xy_r (xw_Ln (L' := [some (.ref 2000), some (.ref (xn x0)), some (.int (s.2.2.1.2.2.2.2.2.1 x0).2.1.1), some (.int (xb (s.2.2.1.2.2.2.2.2.1 x0).2.1.2.2.1))]) rfl) ?_
    refine xy_r (xw_aload_n dM_inOrder_34 rfl) ?_
    refine xy_r (xw_aload_n dM_inOrder_35 rfl) ?_
    refine xy_r (xw_get dM_inOrder_36 fM_392 (mV_nu (va_up_self _ _ _) g1608) rfl) ?_
    refine xy_r (xg_put dM_inOrder_39 fM_374 (mV_nu (va_up_self _ _ _) g1608) (xn_le _) (Nat.le_of_ble_eq_true rfl) (fun _ => xb_nar (s.2.2.1.2.2.2.2.2.1 x0).2.1.2.2.2.2.2.2.1) (fun _ => xb_fit (s.2.2.1.2.2.2.2.2.1 x0).2.1.2.2.2.2.2.2.1) (mV_e (s' := (s.1, s.2.1, (s.2.2.1.1, s.2.2.1.2.1, s.2.2.1.2.2.1, s.2.2.1.2.2.2.1, s.2.2.1.2.2.2.2.1, (va_up s.2.2.1.2.2.2.2.2.1 x0 (nRs (nLr (nRow (s.2.2.1.2.2.2.2.2.1 x0) ((s.2.2.1.2.2.2.2.2.1 x0).2.1.2.2.2.2.1)) ((s.2.2.1.2.2.2.2.2.1 x0).2.1.1)) ((s.2.2.1.2.2.2.2.2.1 x0).2.1.2.2.2.2.2.2.1))), s.2.2.1.2.2.2.2.2.2), s.2.2.2)) (mV_pu (q := (nRs (nLr (nRow (s.2.2.1.2.2.2.2.2.1 x0) ((s.2.2.1.2.2.2.2.2.1 x0).2.1.2.2.2.2.1)) ((s.2.2.1.2.2.2.2.2.1 x0).2.1.1)) ((s.2.2.1.2.2.2.2.2.1 x0).2.1.2.2.2.2.2.2.1))) g1608 (va_up_up _ _ _ _)) rfl)) ?_
    refine xy_r (xw_aload_n dM_inOrder_42 rfl) ?_
    refine xy_r (xw_iload_n dM_inOrder_43 rfl) ?_
    refine xy_r (xg_put dM_inOrder_44 fM_392 (mV_nu (va_up_self _ _ _) g1608) (xn_le _) (Nat.le_of_ble_eq_true rfl) (fun _ => xb_nar (s.2.2.1.2.2.2.2.2.1 x0).2.1.2.2.1) (fun _ => xb_fit (s.2.2.1.2.2.2.2.2.1 x0).2.1.2.2.1) (mV_e (s' := (s.1, s.2.1, (s.2.2.1.1, s.2.2.1.2.1, s.2.2.1.2.2.1, s.2.2.1.2.2.2.1, s.2.2.1.2.2.2.2.1, (va_up s.2.2.1.2.2.2.2.2.1 x0 (nLrs (nRs (nLr (nRow (s.2.2.1.2.2.2.2.2.1 x0) ((s.2.2.1.2.2.2.2.2.1 x0).2.1.2.2.2.2.1)) ((s.2.2.1.2.2.2.2.2.1 x0).2.1.1)) ((s.2.2.1.2.2.2.2.2.1 x0).2.1.2.2.2.2.2.2.1)) ((s.2.2.1.2.2.2.2.2.1 x0).2.1.2.2.1))), s.2.2.1.2.2.2.2.2.2), s.2.2.2)) (mV_pu (q := (nLrs (nRs (nLr (nRow (s.2.2.1.2.2.2.2.2.1 x0) ((s.2.2.1.2.2.2.2.2.1 x0).2.1.2.2.2.2.1)) ((s.2.2.1.2.2.2.2.2.1 x0).2.1.1)) ((s.2.2.1.2.2.2.2.2.1 x0).2.1.2.2.2.2.2.2.1)) ((s.2.2.1.2.2.2.2.2.1 x0).2.1.2.2.1))) g1608 (va_up_up _ _ _ _)) rfl)) ?_
    refine xy_r (xw_aload_n dM_inOrder_47 rfl) ?_
    refine xy_r (xw_get dM_inOrder_48 fM_371 (mV_nu (va_up_self _ _ _) g1608) rfl) ?_
    refine xy_r (xw_aload_n dM_inOrder_51 rfl) ?_
    refine xy_r (xw_get dM_inOrder_52 fM_398 (mV_nu (va_up_self _ _ _) g1608) rfl) ?_
    refine xy_br (xw_icmp_le 94 dM_inOrder_55 (by decide)) (fun c1611 => ?_) (fun c1611 => ?_)
    · replace hF := xg_t c1611 hF
      obtain rfl := Option.some.inj hF
      exact xy_end (xw_return dM_inOrder_94 rfl (Nat.le_refl _) (Nat.le_refl _) ⟨rfl, rfl⟩)
    · replace hF := xg_f c1611 hF
      refine xy_r (xw_aload_n dM_inOrder_58 rfl) ?_
      refine xy_r (xw_get dM_inOrder_59 fM_371 (mV_nu (va_up_self _ _ _) g1608) rfl) ?_
      refine xy_r (xw_istore_n dM_inOrder_62 (Nat.le_of_ble_eq_true rfl)) ?_
      refine xy_r (xw_Ln (L' := [some (.ref 2000), some (.ref (xn x0)), some (.int (s.2.2.1.2.2.2.2.2.1 x0).2.1.2.1), some (.int (xb (s.2.2.1.2.2.2.2.2.1 x0).2.1.2.2.1))]) rfl) ?_
      refine xy_r (xw_aload_n dM_inOrder_63 rfl) ?_
      refine xy_r (xw_aload_n dM_inOrder_64 rfl) ?_
      refine xy_r (xw_get dM_inOrder_65 fM_398 (mV_nu (va_up_self _ _ _) g1608) rfl) ?_
      refine xy_r (xg_put dM_inOrder_68 fM_371 (mV_nu (va_up_self _ _ _) g1608) (xn_le _) (Nat.le_of_ble_eq_true rfl) (fun _ => rfl) (fun _ => rfl) (mV_e (s' := (s.1, s.2.1, (s.2.2.1.1, s.2.2.1.2.1, s.2.2.1.2.2.1, s.2.2.1.2.2.2.1, s.2.2.1.2.2.2.2.1, (va_up s.2.2.1.2.2.2.2.2.1 x0 (nCol (nLrs (nRs (nLr (nRow (s.2.2.1.2.2.2.2.2.1 x0) ((s.2.2.1.2.2.2.2.2.1 x0).2.1.2.2.2.2.1)) ((s.2.2.1.2.2.2.2.2.1 x0).2.1.1)) ((s.2.2.1.2.2.2.2.2.1 x0).2.1.2.2.2.2.2.2.1)) ((s.2.2.1.2.2.2.2.2.1 x0).2.1.2.2.1)) ((s.2.2.1.2.2.2.2.2.1 x0).2.1.2.2.2.2.2.1))), s.2.2.1.2.2.2.2.2.2), s.2.2.2)) (mV_pu (q := (nCol (nLrs (nRs (nLr (nRow (s.2.2.1.2.2.2.2.2.1 x0) ((s.2.2.1.2.2.2.2.2.1 x0).2.1.2.2.2.2.1)) ((s.2.2.1.2.2.2.2.2.1 x0).2.1.1)) ((s.2.2.1.2.2.2.2.2.1 x0).2.1.2.2.2.2.2.2.1)) ((s.2.2.1.2.2.2.2.2.1 x0).2.1.2.2.1)) ((s.2.2.1.2.2.2.2.2.1 x0).2.1.2.2.2.2.2.1))) g1608 (va_up_up _ _ _ _)) rfl)) ?_
      refine xy_r (xw_aload_n dM_inOrder_71 rfl) ?_
      refine xy_r (xw_iload_n dM_inOrder_72 rfl) ?_
      refine xy_r (xg_put dM_inOrder_73 fM_398 (mV_nu (va_up_self _ _ _) g1608) (xn_le _) (Nat.le_of_ble_eq_true rfl) (fun _ => rfl) (fun _ => rfl) (mV_e (s' := (s.1, s.2.1, (s.2.2.1.1, s.2.2.1.2.1, s.2.2.1.2.2.1, s.2.2.1.2.2.2.1, s.2.2.1.2.2.2.2.1, (va_up s.2.2.1.2.2.2.2.2.1 x0 (nLc (nCol (nLrs (nRs (nLr (nRow (s.2.2.1.2.2.2.2.2.1 x0) ((s.2.2.1.2.2.2.2.2.1 x0).2.1.2.2.2.2.1)) ((s.2.2.1.2.2.2.2.2.1 x0).2.1.1)) ((s.2.2.1.2.2.2.2.2.1 x0).2.1.2.2.2.2.2.2.1)) ((s.2.2.1.2.2.2.2.2.1 x0).2.1.2.2.1)) ((s.2.2.1.2.2.2.2.2.1 x0).2.1.2.2.2.2.2.1)) ((s.2.2.1.2.2.2.2.2.1 x0).2.1.2.1))), s.2.2.1.2.2.2.2.2.2), s.2.2.2)) (mV_pu (q := (nLc (nCol (nLrs (nRs (nLr (nRow (s.2.2.1.2.2.2.2.2.1 x0) ((s.2.2.1.2.2.2.2.2.1 x0).2.1.2.2.2.2.1)) ((s.2.2.1.2.2.2.2.2.1 x0).2.1.1)) ((s.2.2.1.2.2.2.2.2.1 x0).2.1.2.2.2.2.2.2.1)) ((s.2.2.1.2.2.2.2.2.1 x0).2.1.2.2.1)) ((s.2.2.1.2.2.2.2.2.1 x0).2.1.2.2.2.2.2.1)) ((s.2.2.1.2.2.2.2.2.1 x0).2.1.2.1))) g1608 (va_up_up _ _ _ _)) rfl)) ?_
      refine xy_r (xw_aload_n dM_inOrder_76 rfl) ?_
      refine xy_r (xw_get dM_inOrder_77 fM_377 (mV_nu (va_up_self _ _ _) g1608) rfl) ?_
      refine xy_r (xw_istore_n dM_inOrder_80 (Nat.le_of_ble_eq_true rfl)) ?_
      refine xy_r (xw_Ln (L' := [some (.ref 2000), some (.ref (xn x0)), some (.int (s.2.2.1.2.2.2.2.2.1 x0).2.1.2.1), some (.int (xb (s.2.2.1.2.2.2.2.2.1 x0).2.1.2.2.2.1))]) rfl) ?_
      refine xy_r (xw_aload_n dM_inOrder_81 rfl) ?_
      refine xy_r (xw_aload_n dM_inOrder_82 rfl) ?_
      refine xy_r (xw_get dM_inOrder_83 fM_401 (mV_nu (va_up_self _ _ _) g1608) rfl) ?_
      refine xy_r (xg_put dM_inOrder_86 fM_377 (mV_nu (va_up_self _ _ _) g1608) (xn_le _) (Nat.le_of_ble_eq_true rfl) (fun _ => xb_nar (s.2.2.1.2.2.2.2.2.1 x0).2.1.2.2.2.2.2.2.2) (fun _ => xb_fit (s.2.2.1.2.2.2.2.2.1 x0).2.1.2.2.2.2.2.2.2) (mV_e (s' := (s.1, s.2.1, (s.2.2.1.1, s.2.2.1.2.1, s.2.2.1.2.2.1, s.2.2.1.2.2.2.1, s.2.2.1.2.2.2.2.1, (va_up s.2.2.1.2.2.2.2.2.1 x0 (nCs (nLc (nCol (nLrs (nRs (nLr (nRow (s.2.2.1.2.2.2.2.2.1 x0) ((s.2.2.1.2.2.2.2.2.1 x0).2.1.2.2.2.2.1)) ((s.2.2.1.2.2.2.2.2.1 x0).2.1.1)) ((s.2.2.1.2.2.2.2.2.1 x0).2.1.2.2.2.2.2.2.1)) ((s.2.2.1.2.2.2.2.2.1 x0).2.1.2.2.1)) ((s.2.2.1.2.2.2.2.2.1 x0).2.1.2.2.2.2.2.1)) ((s.2.2.1.2.2.2.2.2.1 x0).2.1.2.1)) ((s.2.2.1.2.2.2.2.2.1 x0).2.1.2.2.2.2.2.2.2))), s.2.2.1.2.2.2.2.2.2), s.2.2.2)) (mV_pu (q := (nCs (nLc (nCol (nLrs (nRs (nLr (nRow (s.2.2.1.2.2.2.2.2.1 x0) ((s.2.2.1.2.2.2.2.2.1 x0).2.1.2.2.2.2.1)) ((s.2.2.1.2.2.2.2.2.1 x0).2.1.1)) ((s.2.2.1.2.2.2.2.2.1 x0).2.1.2.2.2.2.2.2.1)) ((s.2.2.1.2.2.2.2.2.1 x0).2.1.2.2.1)) ((s.2.2.1.2.2.2.2.2.1 x0).2.1.2.2.2.2.2.1)) ((s.2.2.1.2.2.2.2.2.1 x0).2.1.2.1)) ((s.2.2.1.2.2.2.2.2.1 x0).2.1.2.2.2.2.2.2.2))) g1608 (va_up_up _ _ _ _)) rfl)) ?_
      refine xy_r (xw_aload_n dM_inOrder_89 rfl) ?_
      refine xy_r (xw_iload_n dM_inOrder_90 rfl) ?_
      refine xy_r (xg_put dM_inOrder_91 fM_401 (mV_nu (va_up_self _ _ _) g1608) (xn_le _) (Nat.le_of_ble_eq_true rfl) (fun _ => xb_nar (s.2.2.1.2.2.2.2.2.1 x0).2.1.2.2.2.1) (fun _ => xb_fit (s.2.2.1.2.2.2.2.2.1 x0).2.1.2.2.2.1) (mV_e (s' := (s.1, s.2.1, (s.2.2.1.1, s.2.2.1.2.1, s.2.2.1.2.2.1, s.2.2.1.2.2.2.1, s.2.2.1.2.2.2.2.1, (va_up s.2.2.1.2.2.2.2.2.1 x0 (nLcs (nCs (nLc (nCol (nLrs (nRs (nLr (nRow (s.2.2.1.2.2.2.2.2.1 x0) ((s.2.2.1.2.2.2.2.2.1 x0).2.1.2.2.2.2.1)) ((s.2.2.1.2.2.2.2.2.1 x0).2.1.1)) ((s.2.2.1.2.2.2.2.2.1 x0).2.1.2.2.2.2.2.2.1)) ((s.2.2.1.2.2.2.2.2.1 x0).2.1.2.2.1)) ((s.2.2.1.2.2.2.2.2.1 x0).2.1.2.2.2.2.2.1)) ((s.2.2.1.2.2.2.2.2.1 x0).2.1.2.1)) ((s.2.2.1.2.2.2.2.2.1 x0).2.1.2.2.2.2.2.2.2)) ((s.2.2.1.2.2.2.2.2.1 x0).2.1.2.2.2.1))), s.2.2.1.2.2.2.2.2.2), s.2.2.2)) (mV_pu (q := (nLcs (nCs (nLc (nCol (nLrs (nRs (nLr (nRow (s.2.2.1.2.2.2.2.2.1 x0) ((s.2.2.1.2.2.2.2.2.1 x0).2.1.2.2.2.2.1)) ((s.2.2.1.2.2.2.2.2.1 x0).2.1.1)) ((s.2.2.1.2.2.2.2.2.1 x0).2.1.2.2.2.2.2.2.1)) ((s.2.2.1.2.2.2.2.2.1 x0).2.1.2.2.1)) ((s.2.2.1.2.2.2.2.2.1 x0).2.1.2.2.2.2.2.1)) ((s.2.2.1.2.2.2.2.2.1 x0).2.1.2.1)) ((s.2.2.1.2.2.2.2.2.1 x0).2.1.2.2.2.2.2.2.2)) ((s.2.2.1.2.2.2.2.2.1 x0).2.1.2.2.2.1))) g1608 (va_up_up _ _ _ _)) rfl)) ?_
      obtain rfl := Option.some.inj hF
      exact xy_end (xw_return dM_inOrder_94 rfl (Nat.le_refl _) (Nat.le_refl _) ⟨rfl, rfl⟩)
/-- FormulaShaperModel.moved -/
def FM_moved (x0 : Int32) (x1 : Int32) (x2 : Int32) (x3 : Bool) (x4 : Int32) (s : xMs) : Option Int32 := if x1 ≤ x0 then (if x3 = true then (if x4 ≤ (x0 + x2) then (some (-1)) else (some (x0 + x2))) else (if (x1 + x2) ≤ x0 then (some (x0 - x2)) else (some (-1)))) else (some x0)
set_option maxRecDepth 20000 in
theorem CM_moved {w : xw_G} {h : xw_H} {x0 : Int32} {x1 : Int32} {x2 : Int32} {x3 : Bool} {x4 : Int32} {s : xMs} {out : Int32} (hF : FM_moved x0 x1 x2 x3 x4 s = some out) : xw_C w (mM_moved { frames := 0, cells := 0, slots := 0, locals := 0 }) (xw_R (some (.int out)) (mV s h)) [.ref 2000, .int x0, .int x1, .int x2, .int (xb x3), .int x4] (mV s h) := by
  unfold FM_moved at hF
  refine xw_enter rfl (show plainName "FormulaShaperModel" = true by decide +kernel) (Nat.le_of_ble_eq_true rfl) ?_
  refine xw_iload_n dM_moved_0 rfl ?_
  refine xw_iload_n dM_moved_1 rfl ?_
  refine xw_icmp_ge 7 dM_moved_2 (by decide) (fun c1612 => ?_) (fun c1612 => ?_)
  · replace hF := xg_t c1612 hF
    refine xw_iload dM_moved_7 rfl ?_
    refine xw_if_eqB 28 dM_moved_9 (by decide) (fun c1613 => ?_) (fun c1613 => ?_)
    · replace hF := xg_f c1613 hF
      refine xw_iload_n dM_moved_28 rfl ?_
      refine xw_iload_n dM_moved_29 rfl ?_
      refine xw_iload_n dM_moved_30 rfl ?_
      refine xw_iadd dM_moved_31 ?_
      refine xw_icmp_ge 39 dM_moved_32 (by decide) (fun c1614 => ?_) (fun c1614 => ?_)
      · replace hF := xg_t c1614 hF
        refine xw_iload_n dM_moved_39 rfl ?_
        refine xw_iload_n dM_moved_40 rfl ?_
        refine xw_isub dM_moved_41 ?_
        obtain rfl := Option.some.inj hF
        exact xw_ireturn dM_moved_42 rfl rfl (Nat.le_of_ble_eq_true rfl) (Nat.le_of_ble_eq_true rfl) ⟨rfl, rfl⟩
      · replace hF := xg_f c1614 hF
        refine xw_iconst (-1) dM_moved_35 (by decide) ?_
        refine xw_goto 42 dM_moved_36 (by decide) ?_
        obtain rfl := Option.some.inj hF
        exact xw_ireturn dM_moved_42 rfl rfl (Nat.le_of_ble_eq_true rfl) (Nat.le_of_ble_eq_true rfl) ⟨rfl, rfl⟩
    · replace hF := xg_t c1613 hF
      refine xw_iload_n dM_moved_12 rfl ?_
      refine xw_iload_n dM_moved_13 rfl ?_
      refine xw_iadd dM_moved_14 ?_
      refine xw_iload dM_moved_15 rfl ?_
      refine xw_icmp_ge 26 dM_moved_17 (by decide) (fun c1615 => ?_) (fun c1615 => ?_)
      · replace hF := xg_t c1615 hF
        refine xw_iconst (-1) dM_moved_26 (by decide) ?_
        obtain rfl := Option.some.inj hF
        exact xw_ireturn dM_moved_27 rfl rfl (Nat.le_of_ble_eq_true rfl) (Nat.le_of_ble_eq_true rfl) ⟨rfl, rfl⟩
      · replace hF := xg_f c1615 hF
        refine xw_iload_n dM_moved_20 rfl ?_
        refine xw_iload_n dM_moved_21 rfl ?_
        refine xw_iadd dM_moved_22 ?_
        refine xw_goto 27 dM_moved_23 (by decide) ?_
        obtain rfl := Option.some.inj hF
        exact xw_ireturn dM_moved_27 rfl rfl (Nat.le_of_ble_eq_true rfl) (Nat.le_of_ble_eq_true rfl) ⟨rfl, rfl⟩
  · replace hF := xg_f c1612 hF
    refine xw_iload_n dM_moved_5 rfl ?_
    obtain rfl := Option.some.inj hF
    exact xw_ireturn dM_moved_6 rfl rfl (Nat.le_of_ble_eq_true rfl) (Nat.le_of_ble_eq_true rfl) ⟨rfl, rfl⟩
/-- what the methods shift mean, to a depth -/
abbrev xTH : Type := (Nat → Int32 → Int32 → xMs → Option xMs)
def xKH (w : xw_G) (p : xTH) (d : Nat) : Prop := (∀ {h : xw_H}, xMb h → ∀ {x0 : Nat} {x1 : Int32} {x2 : Int32} {s : xMs} {out : xMs}, p x0 x1 x2 s = some out → (s.2.2.1.2.2.2.2.2.2.1 ≤ out.2.2.1.2.2.2.2.2.2.1 ∧ s.2.2.1.2.2.2.2.2.2.2 ≤ out.2.2.1.2.2.2.2.2.2.2) ∧ xw_C w (mM_shift { frames := d + 20, cells := out.2.2.1.2.2.2.2.2.2.1 - s.2.2.1.2.2.2.2.2.2.1, slots := out.2.2.1.2.2.2.2.2.2.2 - s.2.2.1.2.2.2.2.2.2.2, locals := 60 * d + 600 }) (xw_R none (mV out h)) [.ref 2000, .ref (xn x0), .int x1, .int x2] (mV s h))
theorem xZH {μ : xw_M} {d c n : Nat} (h : μ.2.2.2.2.1.frames + 1 ≤ 21) (h2 : 8 + (μ.2.2.1 + 11) + μ.2.2.2.2.1.locals ≤ 660) : xw_fit { frames := d + 1 + 20, cells := c, slots := n, locals := 60 * (d + 1) + 600 } μ := ⟨by show _ ≤ d + 1 + 20; omega, by show _ ≤ 60 * (d + 1) + 600; omega⟩
def FM_shift_164 (p : xTH) (l1 : Nat) (l4 : Bool) (s : xMs) : Option xMs := if l1 < s.2.2.1.2.2.2.2.1 then (if (s.2.2.1.2.2.2.2.2.1 l1).2.1.2.2.2.2.1 < 0 then ((FM_inOrder l1 s).bind fun r1637 => (FM_lost l1 r1637).bind fun r1641 => some r1641) else (if 80 ≤ (s.2.2.1.2.2.2.2.2.1 l1).2.1.2.2.2.2.1 then ((FM_inOrder l1 s).bind fun r1645 => (FM_lost l1 r1645).bind fun r1649 => some r1649) else (if (s.2.2.1.2.2.2.2.2.1 l1).2.1.2.2.2.2.2.1 < 0 then ((FM_inOrder l1 s).bind fun r1653 => (FM_lost l1 r1653).bind fun r1657 => some r1657) else (if (s.2.2.1.2.2.2.2.2.1 l1).2.1.2.2.2.2.2.1 < 26 then ((FM_inOrder l1 s).bind fun r1661 => if l4 = true then ((FM_lost l1 r1661).bind fun r1665 => some r1665) else (some r1661)) else ((FM_inOrder l1 s).bind fun r1668 => (FM_lost l1 r1668).bind fun r1672 => some r1672))))) else none
def FM_shift_147 (p : xTH) (l1 : Nat) (l3 : Int32) (l4 : Bool) (s : xMs) : Option xMs := if l1 < s.2.2.1.2.2.2.2.1 then (if (s.2.2.1.2.2.2.2.2.1 l1).2.1.2.2.2.2.2.2.2 = true then (FM_shift_164 p l1 l4 s) else (FM_shift_164 p l1 l4 (s.1, s.2.1, (s.2.2.1.1, s.2.2.1.2.1, s.2.2.1.2.2.1, s.2.2.1.2.2.2.1, s.2.2.1.2.2.2.2.1, (va_up s.2.2.1.2.2.2.2.2.1 l1 (nLc (s.2.2.1.2.2.2.2.2.1 l1) ((s.2.2.1.2.2.2.2.2.1 l1).2.1.2.2.2.2.2.1 + l3))), s.2.2.1.2.2.2.2.2.2), s.2.2.2))) else none
def FM_shift_120 (p : xTH) (l1 : Nat) (l2 : Int32) (l3 : Int32) (t0 : Bool) (s : xMs) : Option xMs := if l1 < s.2.2.1.2.2.2.2.1 then (if (s.2.2.1.2.2.2.2.2.1 l1).1.1 = 5 then (if (s.2.2.1.2.2.2.2.2.1 l1).2.1.2.2.2.2.2.2.1 = true then (FM_shift_147 p l1 l3 t0 s) else (FM_shift_147 p l1 l3 t0 (s.1, s.2.1, (s.2.2.1.1, s.2.2.1.2.1, s.2.2.1.2.2.1, s.2.2.1.2.2.2.1, s.2.2.1.2.2.2.2.1, (va_up s.2.2.1.2.2.2.2.2.1 l1 (nLr (s.2.2.1.2.2.2.2.2.1 l1) ((s.2.2.1.2.2.2.2.2.1 l1).2.1.2.2.2.2.1 + l2))), s.2.2.1.2.2.2.2.2.2), s.2.2.2))) else (if t0 = true then ((FM_lost l1 s).bind fun r1629 => some r1629) else (some s))) else none
def FM_shift_115 (p : xTH) (l1 : Nat) (l2 : Int32) (l3 : Int32) (s : xMs) : Option xMs := FM_shift_120 p l1 l2 l3 true s
def FM_shift_83 (p : xTH) (l1 : Nat) (l2 : Int32) (l3 : Int32) (s : xMs) : Option xMs := if l1 < s.2.2.1.2.2.2.2.1 then (if (s.2.2.1.2.2.2.2.2.1 l1).2.1.1 < 0 then (FM_shift_115 p l1 l2 l3 s) else (if 80 ≤ (s.2.2.1.2.2.2.2.2.1 l1).2.1.1 then (FM_shift_115 p l1 l2 l3 s) else (if (s.2.2.1.2.2.2.2.2.1 l1).2.1.2.1 < 0 then (FM_shift_115 p l1 l2 l3 s) else (if (s.2.2.1.2.2.2.2.2.1 l1).2.1.2.1 < 26 then (FM_shift_120 p l1 l2 l3 false s) else (FM_shift_115 p l1 l2 l3 s))))) else none
def FM_shift_66 (p : xTH) (l1 : Nat) (l2 : Int32) (l3 : Int32) (s : xMs) : Option xMs := if l1 < s.2.2.1.2.2.2.2.1 then (if (s.2.2.1.2.2.2.2.2.1 l1).2.1.2.2.2.1 = true then (FM_shift_83 p l1 l2 l3 s) else (FM_shift_83 p l1 l2 l3 (s.1, s.2.1, (s.2.2.1.1, s.2.2.1.2.1, s.2.2.1.2.2.1, s.2.2.1.2.2.2.1, s.2.2.1.2.2.2.2.1, (va_up s.2.2.1.2.2.2.2.2.1 l1 (nCol (s.2.2.1.2.2.2.2.2.1 l1) ((s.2.2.1.2.2.2.2.2.1 l1).2.1.2.1 + l3))), s.2.2.1.2.2.2.2.2.2), s.2.2.2))) else none
def FM_shift_46 (p : xTH) (l1 : Nat) (l2 : Int32) (l3 : Int32) (s : xMs) : Option xMs := if l1 < s.2.2.1.2.2.2.2.1 then (if (s.2.2.1.2.2.2.2.2.1 l1).2.1.2.2.1 = true then (FM_shift_66 p l1 l2 l3 s) else (FM_shift_66 p l1 l2 l3 (s.1, s.2.1, (s.2.2.1.1, s.2.2.1.2.1, s.2.2.1.2.2.1, s.2.2.1.2.2.2.1, s.2.2.1.2.2.2.2.1, (va_up s.2.2.1.2.2.2.2.2.1 l1 (nRow (s.2.2.1.2.2.2.2.2.1 l1) ((s.2.2.1.2.2.2.2.2.1 l1).2.1.1 + l2))), s.2.2.1.2.2.2.2.2.2), s.2.2.2))) else none
def FM_shift_6 (p : xTH) : Nat → Nat → Int32 → Int32 → Option Nat → xMs → Option xMs
  | 0, _, _, _, _, _ => none
  | fu + 1, l1, l2, l3, l4, s => xm l4 (if l1 < s.2.2.1.2.2.2.2.1 then (if (s.2.2.1.2.2.2.2.2.1 l1).1.1 = 4 then (FM_shift_46 p l1 l2 l3 s) else (if (s.2.2.1.2.2.2.2.2.1 l1).1.1 = 5 then (FM_shift_46 p l1 l2 l3 s) else (some s))) else none) (fun i1617 => (p i1617 l2 l3 s).bind fun r1679 => if i1617 < r1679.2.2.1.2.2.2.2.1 then (FM_shift_6 p fu l1 l2 l3 (r1679.2.2.1.2.2.2.2.2.1 i1617).2.2.2.2.1 r1679) else none)
/-- FormulaShaperModel.shift -/
def FM_shift (p : xTH) (x0 : Nat) (x1 : Int32) (x2 : Int32) (s : xMs) : Option xMs := if x0 < s.2.2.1.2.2.2.2.1 then (FM_shift_6 p xFuel x0 x1 x2 (s.2.2.1.2.2.2.2.2.1 x0).2.2.1 s) else none
set_option maxRecDepth 20000 in
theorem CM_shift_164 {w : xw_G} {p : xTH} {d : Nat} (hp : xKH w p d) {h : xw_H} (hb : xMb h)  {l1 : Nat} {l4 : Bool} {s : xMs} {out : xMs} {h0 : xw_H} {m0 n0 : Nat} (hm : m0 ≤ s.2.2.1.2.2.2.2.2.2.1 ∧ n0 ≤ s.2.2.1.2.2.2.2.2.2.2) (hF : FM_shift_164 p l1 l4 s = some out) : xw_Y w mM_shift (d + 1 + 20) (60 * (d + 1) + 600) (xw_R none (mV out h)) h0 m0 n0 s.2.2.1.2.2.2.2.2.2.1 s.2.2.1.2.2.2.2.2.2.2 out.2.2.1.2.2.2.2.2.2.1 out.2.2.1.2.2.2.2.2.2.2 164 [some (.ref 2000), some (.ref (xn l1)), none, none, some (.int (xb l4))] [] (mV s h) := by
  unfold FM_shift_164 at hF
  refine xy_r (xw_aload_n dM_shift_164 rfl) ?_
  obtain ⟨g1635, hF⟩ := xg_g hF
  refine xy_r (xw_get dM_shift_165 fM_389 (mV_n g1635) rfl) ?_
  refine xy_br (xw_if_lt 196 dM_shift_168 (by decide)) (fun c1636 => ?_) (fun c1636 => ?_)
  · replace hF := xg_t c1636 hF
    refine xy_r (xw_iconst (1) dM_shift_196 (by decide)) ?_
    refine xy_r (xw_istore dM_shift_197 (Nat.le_of_ble_eq_true rfl)) ?_
    refine xy_r (xw_Ln (L' := [some (.ref 2000), some (.ref (xn l1)), none, none, some (.int 1)]) rfl) ?_
    refine xy_r (xw_aload_n dM_shift_199 rfl) ?_
    refine xy_r (xw_aload_n dM_shift_200 rfl) ?_
    obtain ⟨r1637, er1637, hF⟩ := xg_b hF
    have hm1638 : m0 ≤ r1637.2.2.1.2.2.2.2.2.2.1 ∧ n0 ≤ r1637.2.2.1.2.2.2.2.2.2.2 := xy_le hm (show s.2.2.1.2.2.2.2.2.2.1 ≤ r1637.2.2.1.2.2.2.2.2.2.1 ∧ s.2.2.1.2.2.2.2.2.2.2 ≤ r1637.2.2.1.2.2.2.2.2.2.2 from (CM_inOrder (w := w) (h := h) hb (s := s) er1637).1)
    refine xy_V0 (nl := 4) (sm := s.2.2.1.2.2.2.2.2.2.1) (sn := s.2.2.1.2.2.2.2.2.2.2) (tm := r1637.2.2.1.2.2.2.2.2.2.1) (tn := r1637.2.2.1.2.2.2.2.2.2.2) (CM_inOrder hb (s := s) er1637) rfl rfl hm (fun _ => rfl) (fun _ => rfl) (fun _ => rfl) (fun _ => dM_shift_201) (fun _ R => kM_467 R) (fun _ => rfl) ⟨by omega, by omega⟩ rfl rfl rfl (fun _ => rfl) (Nat.le_of_ble_eq_true rfl) ?_
    refine xy_r (xw_iload dM_shift_204 rfl) ?_
    refine xy_r (fun k9 => xw_if_eq 214 dM_shift_206 (by decide) (fun q => absurd q (show ¬ ((1 : Int32) = 0) by decide)) (fun _ => k9)) ?_
    refine xy_r (xw_aload_n dM_shift_209 rfl) ?_
    refine xy_r (xw_aload_n dM_shift_210 rfl) ?_
    obtain ⟨r1641, er1641, hF⟩ := xg_b hF
    have hm1642 : m0 ≤ r1641.2.2.1.2.2.2.2.2.2.1 ∧ n0 ≤ r1641.2.2.1.2.2.2.2.2.2.2 := xy_le hm1638 (show r1637.2.2.1.2.2.2.2.2.2.1 ≤ r1641.2.2.1.2.2.2.2.2.2.1 ∧ r1637.2.2.1.2.2.2.2.2.2.2 ≤ r1641.2.2.1.2.2.2.2.2.2.2 from (CM_lost (w := w) (h := h) hb (s := r1637) er1641).1)
    refine xy_V0 (nl := 2) (sm := r1637.2.2.1.2.2.2.2.2.2.1) (sn := r1637.2.2.1.2.2.2.2.2.2.2) (tm := r1641.2.2.1.2.2.2.2.2.2.1) (tn := r1641.2.2.1.2.2.2.2.2.2.2) (CM_lost hb (s := r1637) er1641) rfl rfl hm1638 (fun _ => rfl) (fun _ => rfl) (fun _ => rfl) (fun _ => dM_shift_211) (fun _ R => kM_470 R) (fun _ => rfl) ⟨by omega, by omega⟩ rfl rfl rfl (fun _ => rfl) (Nat.le_of_ble_eq_true rfl) ?_
    obtain rfl := Option.some.inj hF
    exact xy_end (xw_return dM_shift_214 rfl (Nat.le_refl _) (Nat.le_refl _) ⟨rfl, rfl⟩)
  · replace hF := xg_f c1636 hF
    refine xy_r (xw_aload_n dM_shift_171 rfl) ?_
    refine xy_r (xw_get dM_shift_172 fM_389 (mV_n g1635) rfl) ?_
    refine xy_r (xw_bipush (80) dM_shift_175 (by decide)) ?_
    refine xy_br (xw_icmp_ge 196 dM_shift_177 (by decide)) (fun c1644 => ?_) (fun c1644 => ?_)
    · replace hF := xg_t c1644 hF
      refine xy_r (xw_iconst (1) dM_shift_196 (by decide)) ?_
      refine xy_r (xw_istore dM_shift_197 (Nat.le_of_ble_eq_true rfl)) ?_
      refine xy_r (xw_Ln (L' := [some (.ref 2000), some (.ref (xn l1)), none, none, some (.int 1)]) rfl) ?_
      refine xy_r (xw_aload_n dM_shift_199 rfl) ?_
      refine xy_r (xw_aload_n dM_shift_200 rfl) ?_
      obtain ⟨r1645, er1645, hF⟩ := xg_b hF
      have hm1646 : m0 ≤ r1645.2.2.1.2.2.2.2.2.2.1 ∧ n0 ≤ r1645.2.2.1.2.2.2.2.2.2.2 := xy_le hm (show s.2.2.1.2.2.2.2.2.2.1 ≤ r1645.2.2.1.2.2.2.2.2.2.1 ∧ s.2.2.1.2.2.2.2.2.2.2 ≤ r1645.2.2.1.2.2.2.2.2.2.2 from (CM_inOrder (w := w) (h := h) hb (s := s) er1645).1)
      refine xy_V0 (nl := 4) (sm := s.2.2.1.2.2.2.2.2.2.1) (sn := s.2.2.1.2.2.2.2.2.2.2) (tm := r1645.2.2.1.2.2.2.2.2.2.1) (tn := r1645.2.2.1.2.2.2.2.2.2.2) (CM_inOrder hb (s := s) er1645) rfl rfl hm (fun _ => rfl) (fun _ => rfl) (fun _ => rfl) (fun _ => dM_shift_201) (fun _ R => kM_467 R) (fun _ => rfl) ⟨by omega, by omega⟩ rfl rfl rfl (fun _ => rfl) (Nat.le_of_ble_eq_true rfl) ?_
      refine xy_r (xw_iload dM_shift_204 rfl) ?_
      refine xy_r (fun k9 => xw_if_eq 214 dM_shift_206 (by decide) (fun q => absurd q (show ¬ ((1 : Int32) = 0) by decide)) (fun _ => k9)) ?_
      refine xy_r (xw_aload_n dM_shift_209 rfl) ?_
      refine xy_r (xw_aload_n dM_shift_210 rfl) ?_
      obtain ⟨r1649, er1649, hF⟩ := xg_b hF
      have hm1650 : m0 ≤ r1649.2.2.1.2.2.2.2.2.2.1 ∧ n0 ≤ r1649.2.2.1.2.2.2.2.2.2.2 := xy_le hm1646 (show r1645.2.2.1.2.2.2.2.2.2.1 ≤ r1649.2.2.1.2.2.2.2.2.2.1 ∧ r1645.2.2.1.2.2.2.2.2.2.2 ≤ r1649.2.2.1.2.2.2.2.2.2.2 from (CM_lost (w := w) (h := h) hb (s := r1645) er1649).1)
      refine xy_V0 (nl := 2) (sm := r1645.2.2.1.2.2.2.2.2.2.1) (sn := r1645.2.2.1.2.2.2.2.2.2.2) (tm := r1649.2.2.1.2.2.2.2.2.2.1) (tn := r1649.2.2.1.2.2.2.2.2.2.2) (CM_lost hb (s := r1645) er1649) rfl rfl hm1646 (fun _ => rfl) (fun _ => rfl) (fun _ => rfl) (fun _ => dM_shift_211) (fun _ R => kM_470 R) (fun _ => rfl) ⟨by omega, by omega⟩ rfl rfl rfl (fun _ => rfl) (Nat.le_of_ble_eq_true rfl) ?_
      obtain rfl := Option.some.inj hF
      exact xy_end (xw_return dM_shift_214 rfl (Nat.le_refl _) (Nat.le_refl _) ⟨rfl, rfl⟩)
    · replace hF := xg_f c1644 hF
      refine xy_r (xw_aload_n dM_shift_180 rfl) ?_
      refine xy_r (xw_get dM_shift_181 fM_398 (mV_n g1635) rfl) ?_
      refine xy_br (xw_if_lt 196 dM_shift_184 (by decide)) (fun c1652 => ?_) (fun c1652 => ?_)
      · replace hF := xg_t c1652 hF
        refine xy_r (xw_iconst (1) dM_shift_196 (by decide)) ?_
        refine xy_r (xw_istore dM_shift_197 (Nat.le_of_ble_eq_true rfl)) ?_
        refine xy_r (xw_Ln (L' := [some (.ref 2000), some (.ref (xn l1)), none, none, some (.int 1)]) rfl) ?_
        refine xy_r (xw_aload_n dM_shift_199 rfl) ?_
        refine xy_r (xw_aload_n dM_shift_200 rfl) ?_
        obtain ⟨r1653, er1653, hF⟩ := xg_b hF
        have hm1654 : m0 ≤ r1653.2.2.1.2.2.2.2.2.2.1 ∧ n0 ≤ r1653.2.2.1.2.2.2.2.2.2.2 := xy_le hm (show s.2.2.1.2.2.2.2.2.2.1 ≤ r1653.2.2.1.2.2.2.2.2.2.1 ∧ s.2.2.1.2.2.2.2.2.2.2 ≤ r1653.2.2.1.2.2.2.2.2.2.2 from (CM_inOrder (w := w) (h := h) hb (s := s) er1653).1)
        refine xy_V0 (nl := 4) (sm := s.2.2.1.2.2.2.2.2.2.1) (sn := s.2.2.1.2.2.2.2.2.2.2) (tm := r1653.2.2.1.2.2.2.2.2.2.1) (tn := r1653.2.2.1.2.2.2.2.2.2.2) (CM_inOrder hb (s := s) er1653) rfl rfl hm (fun _ => rfl) (fun _ => rfl) (fun _ => rfl) (fun _ => dM_shift_201) (fun _ R => kM_467 R) (fun _ => rfl) ⟨by omega, by omega⟩ rfl rfl rfl (fun _ => rfl) (Nat.le_of_ble_eq_true rfl) ?_
        refine xy_r (xw_iload dM_shift_204 rfl) ?_
        refine xy_r (fun k9 => xw_if_eq 214 dM_shift_206 (by decide) (fun q => absurd q (show ¬ ((1 : Int32) = 0) by decide)) (fun _ => k9)) ?_
        refine xy_r (xw_aload_n dM_shift_209 rfl) ?_
        refine xy_r (xw_aload_n dM_shift_210 rfl) ?_
        obtain ⟨r1657, er1657, hF⟩ := xg_b hF
        have hm1658 : m0 ≤ r1657.2.2.1.2.2.2.2.2.2.1 ∧ n0 ≤ r1657.2.2.1.2.2.2.2.2.2.2 := xy_le hm1654 (show r1653.2.2.1.2.2.2.2.2.2.1 ≤ r1657.2.2.1.2.2.2.2.2.2.1 ∧ r1653.2.2.1.2.2.2.2.2.2.2 ≤ r1657.2.2.1.2.2.2.2.2.2.2 from (CM_lost (w := w) (h := h) hb (s := r1653) er1657).1)
        refine xy_V0 (nl := 2) (sm := r1653.2.2.1.2.2.2.2.2.2.1) (sn := r1653.2.2.1.2.2.2.2.2.2.2) (tm := r1657.2.2.1.2.2.2.2.2.2.1) (tn := r1657.2.2.1.2.2.2.2.2.2.2) (CM_lost hb (s := r1653) er1657) rfl rfl hm1654 (fun _ => rfl) (fun _ => rfl) (fun _ => rfl) (fun _ => dM_shift_211) (fun _ R => kM_470 R) (fun _ => rfl) ⟨by omega, by omega⟩ rfl rfl rfl (fun _ => rfl) (Nat.le_of_ble_eq_true rfl) ?_
        obtain rfl := Option.some.inj hF
        exact xy_end (xw_return dM_shift_214 rfl (Nat.le_refl _) (Nat.le_refl _) ⟨rfl, rfl⟩)
      · replace hF := xg_f c1652 hF
        refine xy_r (xw_aload_n dM_shift_187 rfl) ?_
        refine xy_r (xw_get dM_shift_188 fM_398 (mV_n g1635) rfl) ?_
        refine xy_r (xw_bipush (26) dM_shift_191 (by decide)) ?_
        refine xy_br (xw_icmp_lt 199 dM_shift_193 (by decide)) (fun c1660 => ?_) (fun c1660 => ?_)
        · replace hF := xg_t c1660 hF
          refine xy_r (xw_aload_n dM_shift_199 rfl) ?_
          refine xy_r (xw_aload_n dM_shift_200 rfl) ?_
          obtain ⟨r1661, er1661, hF⟩ := xg_b hF
          have hm1662 : m0 ≤ r1661.2.2.1.2.2.2.2.2.2.1 ∧ n0 ≤ r1661.2.2.1.2.2.2.2.2.2.2 := xy_le hm (show s.2.2.1.2.2.2.2.2.2.1 ≤ r1661.2.2.1.2.2.2.2.2.2.1 ∧ s.2.2.1.2.2.2.2.2.2.2 ≤ r1661.2.2.1.2.2.2.2.2.2.2 from (CM_inOrder (w := w) (h := h) hb (s := s) er1661).1)
          refine xy_V0 (nl := 4) (sm := s.2.2.1.2.2.2.2.2.2.1) (sn := s.2.2.1.2.2.2.2.2.2.2) (tm := r1661.2.2.1.2.2.2.2.2.2.1) (tn := r1661.2.2.1.2.2.2.2.2.2.2) (CM_inOrder hb (s := s) er1661) rfl rfl hm (fun _ => rfl) (fun _ => rfl) (fun _ => rfl) (fun _ => dM_shift_201) (fun _ R => kM_467 R) (fun _ => rfl) ⟨by omega, by omega⟩ rfl rfl rfl (fun _ => rfl) (Nat.le_of_ble_eq_true rfl) ?_
          refine xy_r (xw_iload dM_shift_204 rfl) ?_
          refine xy_brn (xw_if_eqB 214 dM_shift_206 (by decide)) (fun c1664 => ?_) (fun c1664 => ?_)
          · replace hF := xg_f c1664 hF
            obtain rfl := Option.some.inj hF
            exact xy_end (xw_return dM_shift_214 rfl (Nat.le_refl _) (Nat.le_refl _) ⟨rfl, rfl⟩)
          · replace hF := xg_t c1664 hF
            refine xy_r (xw_aload_n dM_shift_209 rfl) ?_
            refine xy_r (xw_aload_n dM_shift_210 rfl) ?_
            obtain ⟨r1665, er1665, hF⟩ := xg_b hF
            have hm1666 : m0 ≤ r1665.2.2.1.2.2.2.2.2.2.1 ∧ n0 ≤ r1665.2.2.1.2.2.2.2.2.2.2 := xy_le hm1662 (show r1661.2.2.1.2.2.2.2.2.2.1 ≤ r1665.2.2.1.2.2.2.2.2.2.1 ∧ r1661.2.2.1.2.2.2.2.2.2.2 ≤ r1665.2.2.1.2.2.2.2.2.2.2 from (CM_lost (w := w) (h := h) hb (s := r1661) er1665).1)
            refine xy_V0 (nl := 2) (sm := r1661.2.2.1.2.2.2.2.2.2.1) (sn := r1661.2.2.1.2.2.2.2.2.2.2) (tm := r1665.2.2.1.2.2.2.2.2.2.1) (tn := r1665.2.2.1.2.2.2.2.2.2.2) (CM_lost hb (s := r1661) er1665) rfl rfl hm1662 (fun _ => rfl) (fun _ => rfl) (fun _ => rfl) (fun _ => dM_shift_211) (fun _ R => kM_470 R) (fun _ => rfl) ⟨by omega, by omega⟩ rfl rfl rfl (fun _ => rfl) (Nat.le_of_ble_eq_true rfl) ?_
            obtain rfl := Option.some.inj hF
            exact xy_end (xw_return dM_shift_214 rfl (Nat.le_refl _) (Nat.le_refl _) ⟨rfl, rfl⟩)
        · replace hF := xg_f c1660 hF
          refine xy_r (xw_iconst (1) dM_shift_196 (by decide)) ?_
          refine xy_r (xw_istore dM_shift_197 (Nat.le_of_ble_eq_true rfl)) ?_
          refine xy_r (xw_Ln (L' := [some (.ref 2000), some (.ref (xn l1)), none, none, some (.int 1)]) rfl) ?_
          refine xy_r (xw_aload_n dM_shift_199 rfl) ?_
          refine xy_r (xw_aload_n dM_shift_200 rfl) ?_
          obtain ⟨r1668, er1668, hF⟩ := xg_b hF
          have hm1669 : m0 ≤ r1668.2.2.1.2.2.2.2.2.2.1 ∧ n0 ≤ r1668.2.2.1.2.2.2.2.2.2.2 := xy_le hm (show s.2.2.1.2.2.2.2.2.2.1 ≤ r1668.2.2.1.2.2.2.2.2.2.1 ∧ s.2.2.1.2.2.2.2.2.2.2 ≤ r1668.2.2.1.2.2.2.2.2.2.2 from (CM_inOrder (w := w) (h := h) hb (s := s) er1668).1)
          refine xy_V0 (nl := 4) (sm := s.2.2.1.2.2.2.2.2.2.1) (sn := s.2.2.1.2.2.2.2.2.2.2) (tm := r1668.2.2.1.2.2.2.2.2.2.1) (tn := r1668.2.2.1.2.2.2.2.2.2.2) (CM_inOrder hb (s := s) er1668) rfl rfl hm (fun _ => rfl) (fun _ => rfl) (fun _ => rfl) (fun _ => dM_shift_201) (fun _ R => kM_467 R) (fun _ => rfl) ⟨by omega, by omega⟩ rfl rfl rfl (fun _ => rfl) (Nat.le_of_ble_eq_true rfl) ?_
          refine xy_r (xw_iload dM_shift_204 rfl) ?_
          refine xy_r (fun k9 => xw_if_eq 214 dM_shift_206 (by decide) (fun q => absurd q (show ¬ ((1 : Int32) = 0) by decide)) (fun _ => k9)) ?_
          refine xy_r (xw_aload_n dM_shift_209 rfl) ?_
          refine xy_r (xw_aload_n dM_shift_210 rfl) ?_
          obtain ⟨r1672, er1672, hF⟩ := xg_b hF
          have hm1673 : m0 ≤ r1672.2.2.1.2.2.2.2.2.2.1 ∧ n0 ≤ r1672.2.2.1.2.2.2.2.2.2.2 := xy_le hm1669 (show r1668.2.2.1.2.2.2.2.2.2.1 ≤ r1672.2.2.1.2.2.2.2.2.2.1 ∧ r1668.2.2.1.2.2.2.2.2.2.2 ≤ r1672.2.2.1.2.2.2.2.2.2.2 from (CM_lost (w := w) (h := h) hb (s := r1668) er1672).1)
          refine xy_V0 (nl := 2) (sm := r1668.2.2.1.2.2.2.2.2.2.1) (sn := r1668.2.2.1.2.2.2.2.2.2.2) (tm := r1672.2.2.1.2.2.2.2.2.2.1) (tn := r1672.2.2.1.2.2.2.2.2.2.2) (CM_lost hb (s := r1668) er1672) rfl rfl hm1669 (fun _ => rfl) (fun _ => rfl) (fun _ => rfl) (fun _ => dM_shift_211) (fun _ R => kM_470 R) (fun _ => rfl) ⟨by omega, by omega⟩ rfl rfl rfl (fun _ => rfl) (Nat.le_of_ble_eq_true rfl) ?_
          obtain rfl := Option.some.inj hF
          exact xy_end (xw_return dM_shift_214 rfl (Nat.le_refl _) (Nat.le_refl _) ⟨rfl, rfl⟩)
set_option maxRecDepth 20000 in
theorem CM_shift_147 {w : xw_G} {p : xTH} {d : Nat} (hp : xKH w p d) {h : xw_H} (hb : xMb h)  {l1 : Nat} {l3 : Int32} {l4 : Bool} {s : xMs} {out : xMs} {h0 : xw_H} {m0 n0 : Nat} (hm : m0 ≤ s.2.2.1.2.2.2.2.2.2.1 ∧ n0 ≤ s.2.2.1.2.2.2.2.2.2.2) (hF : FM_shift_147 p l1 l3 l4 s = some out) : xw_Y w mM_shift (d + 1 + 20) (60 * (d + 1) + 600) (xw_R none (mV out h)) h0 m0 n0 s.2.2.1.2.2.2.2.2.2.1 s.2.2.1.2.2.2.2.2.2.2 out.2.2.1.2.2.2.2.2.2.1 out.2.2.1.2.2.2.2.2.2.2 147 [some (.ref 2000), some (.ref (xn l1)), none, some (.int l3), some (.int (xb l4))] [] (mV s h) := by
  unfold FM_shift_147 at hF
  refine xy_r (xw_aload_n dM_shift_147 rfl) ?_
  obtain ⟨g1633, hF⟩ := xg_g hF
  refine xy_r (xw_get dM_shift_148 fM_401 (mV_n g1633) rfl) ?_
  refine xy_br (xw_if_neB 164 dM_shift_151 (by decide)) (fun c1634 => ?_) (fun c1634 => ?_)
  · replace hF := xg_t c1634 hF
    refine xy_r (xw_drop (L' := [some (.ref 2000), some (.ref (xn l1)), none, none, some (.int (xb l4))]) ⟨rfl, ⟨rfl, ⟨rfl, trivial⟩⟩⟩) ?_
    exact CM_shift_164 (hp := hp) hb (s := s) hm hF
  · replace hF := xg_f c1634 hF
    refine xy_r (xw_aload_n dM_shift_154 rfl) ?_
    refine xy_r (xw_dup_r dM_shift_155) ?_
    refine xy_r (xw_get dM_shift_156 fM_398 (mV_n g1633) rfl) ?_
    refine xy_r (xw_iload_n dM_shift_159 rfl) ?_
    refine xy_r (xw_iadd dM_shift_160) ?_
    refine xy_r (xg_put dM_shift_161 fM_398 (mV_n g1633) (xn_le _) (Nat.le_of_ble_eq_true rfl) (fun _ => rfl) (fun _ => rfl) (mV_e (s' := (s.1, s.2.1, (s.2.2.1.1, s.2.2.1.2.1, s.2.2.1.2.2.1, s.2.2.1.2.2.2.1, s.2.2.1.2.2.2.2.1, (va_up s.2.2.1.2.2.2.2.2.1 l1 (nLc (s.2.2.1.2.2.2.2.2.1 l1) ((s.2.2.1.2.2.2.2.2.1 l1).2.1.2.2.2.2.2.1 + l3))), s.2.2.1.2.2.2.2.2.2), s.2.2.2)) (mV_pn (q := (nLc (s.2.2.1.2.2.2.2.2.1 l1) ((s.2.2.1.2.2.2.2.2.1 l1).2.1.2.2.2.2.2.1 + l3))) g1633) rfl)) ?_
    refine xy_r (xw_drop (L' := [some (.ref 2000), some (.ref (xn l1)), none, none, some (.int (xb l4))]) ⟨rfl, ⟨rfl, ⟨rfl, trivial⟩⟩⟩) ?_
    exact CM_shift_164 (hp := hp) hb (s := (s.1, s.2.1, (s.2.2.1.1, s.2.2.1.2.1, s.2.2.1.2.2.1, s.2.2.1.2.2.2.1, s.2.2.1.2.2.2.2.1, (va_up s.2.2.1.2.2.2.2.2.1 l1 (nLc (s.2.2.1.2.2.2.2.2.1 l1) ((s.2.2.1.2.2.2.2.2.1 l1).2.1.2.2.2.2.2.1 + l3))), s.2.2.1.2.2.2.2.2.2), s.2.2.2)) hm hF
set_option maxRecDepth 20000 in
theorem CM_shift_120 {w : xw_G} {p : xTH} {d : Nat} (hp : xKH w p d) {h : xw_H} (hb : xMb h)  {l1 : Nat} {l2 : Int32} {l3 : Int32} {t0 : Bool} {s : xMs} {out : xMs} {h0 : xw_H} {m0 n0 : Nat} (hm : m0 ≤ s.2.2.1.2.2.2.2.2.2.1 ∧ n0 ≤ s.2.2.1.2.2.2.2.2.2.2) (hF : FM_shift_120 p l1 l2 l3 t0 s = some out) : xw_Y w mM_shift (d + 1 + 20) (60 * (d + 1) + 600) (xw_R none (mV out h)) h0 m0 n0 s.2.2.1.2.2.2.2.2.2.1 s.2.2.1.2.2.2.2.2.2.2 out.2.2.1.2.2.2.2.2.2.1 out.2.2.1.2.2.2.2.2.2.2 120 [some (.ref 2000), some (.ref (xn l1)), some (.int l2), some (.int l3), none] [.int (xb t0)] (mV s h) := by
  unfold FM_shift_120 at hF
  refine xy_r (xw_istore dM_shift_120 (Nat.le_of_ble_eq_true rfl)) ?_
  refine xy_r (xw_Ln (L' := [some (.ref 2000), some (.ref (xn l1)), some (.int l2), some (.int l3), some (.int (xb t0))]) rfl) ?_
  refine xy_r (xw_aload_n dM_shift_122 rfl) ?_
  obtain ⟨g1626, hF⟩ := xg_g hF
  refine xy_r (xw_get dM_shift_123 fM_192 (mV_n g1626) rfl) ?_
  refine xy_r (xw_iconst (5) dM_shift_126 (by decide)) ?_
  refine xy_brn (xw_icmp_ne 204 dM_shift_127 (by decide)) (fun c1627 => ?_) (fun c1627 => ?_)
  · replace hF := xg_f c1627 hF
    refine xy_r (xw_iload dM_shift_204 rfl) ?_
    refine xy_brn (xw_if_eqB 214 dM_shift_206 (by decide)) (fun c1628 => ?_) (fun c1628 => ?_)
    · replace hF := xg_f c1628 hF
      obtain rfl := Option.some.inj hF
      exact xy_end (xw_return dM_shift_214 rfl (Nat.le_refl _) (Nat.le_refl _) ⟨rfl, rfl⟩)
    · replace hF := xg_t c1628 hF
      refine xy_r (xw_aload_n dM_shift_209 rfl) ?_
      refine xy_r (xw_aload_n dM_shift_210 rfl) ?_
      obtain ⟨r1629, er1629, hF⟩ := xg_b hF
      have hm1630 : m0 ≤ r1629.2.2.1.2.2.2.2.2.2.1 ∧ n0 ≤ r1629.2.2.1.2.2.2.2.2.2.2 := xy_le hm (show s.2.2.1.2.2.2.2.2.2.1 ≤ r1629.2.2.1.2.2.2.2.2.2.1 ∧ s.2.2.1.2.2.2.2.2.2.2 ≤ r1629.2.2.1.2.2.2.2.2.2.2 from (CM_lost (w := w) (h := h) hb (s := s) er1629).1)
      refine xy_V0 (nl := 2) (sm := s.2.2.1.2.2.2.2.2.2.1) (sn := s.2.2.1.2.2.2.2.2.2.2) (tm := r1629.2.2.1.2.2.2.2.2.2.1) (tn := r1629.2.2.1.2.2.2.2.2.2.2) (CM_lost hb (s := s) er1629) rfl rfl hm (fun _ => rfl) (fun _ => rfl) (fun _ => rfl) (fun _ => dM_shift_211) (fun _ R => kM_470 R) (fun _ => rfl) ⟨by omega, by omega⟩ rfl rfl rfl (fun _ => rfl) (Nat.le_of_ble_eq_true rfl) ?_
      obtain rfl := Option.some.inj hF
      exact xy_end (xw_return dM_shift_214 rfl (Nat.le_refl _) (Nat.le_refl _) ⟨rfl, rfl⟩)
  · replace hF := xg_t c1627 hF
    refine xy_r (xw_aload_n dM_shift_130 rfl) ?_
    refine xy_r (xw_get dM_shift_131 fM_392 (mV_n g1626) rfl) ?_
    refine xy_br (xw_if_neB 147 dM_shift_134 (by decide)) (fun c1632 => ?_) (fun c1632 => ?_)
    · replace hF := xg_t c1632 hF
      refine xy_r (xw_drop (L' := [some (.ref 2000), some (.ref (xn l1)), none, some (.int l3), some (.int (xb t0))]) ⟨rfl, ⟨rfl, ⟨rfl, ⟨rfl, trivial⟩⟩⟩⟩) ?_
      exact CM_shift_147 (hp := hp) hb (s := s) hm hF
    · replace hF := xg_f c1632 hF
      refine xy_r (xw_aload_n dM_shift_137 rfl) ?_
      refine xy_r (xw_dup_r dM_shift_138) ?_
      refine xy_r (xw_get dM_shift_139 fM_389 (mV_n g1626) rfl) ?_
      refine xy_r (xw_iload_n dM_shift_142 rfl) ?_
      refine xy_r (xw_iadd dM_shift_143) ?_
      refine xy_r (xg_put dM_shift_144 fM_389 (mV_n g1626) (xn_le _) (Nat.le_of_ble_eq_true rfl) (fun _ => rfl) (fun _ => rfl) (mV_e (s' := (s.1, s.2.1, (s.2.2.1.1, s.2.2.1.2.1, s.2.2.1.2.2.1, s.2.2.1.2.2.2.1, s.2.2.1.2.2.2.2.1, (va_up s.2.2.1.2.2.2.2.2.1 l1 (nLr (s.2.2.1.2.2.2.2.2.1 l1) ((s.2.2.1.2.2.2.2.2.1 l1).2.1.2.2.2.2.1 + l2))), s.2.2.1.2.2.2.2.2.2), s.2.2.2)) (mV_pn (q := (nLr (s.2.2.1.2.2.2.2.2.1 l1) ((s.2.2.1.2.2.2.2.2.1 l1).2.1.2.2.2.2.1 + l2))) g1626) rfl)) ?_
      refine xy_r (xw_drop (L' := [some (.ref 2000), some (.ref (xn l1)), none, some (.int l3), some (.int (xb t0))]) ⟨rfl, ⟨rfl, ⟨rfl, ⟨rfl, trivial⟩⟩⟩⟩) ?_
      exact CM_shift_147 (hp := hp) hb (s := (s.1, s.2.1, (s.2.2.1.1, s.2.2.1.2.1, s.2.2.1.2.2.1, s.2.2.1.2.2.2.1, s.2.2.1.2.2.2.2.1, (va_up s.2.2.1.2.2.2.2.2.1 l1 (nLr (s.2.2.1.2.2.2.2.2.1 l1) ((s.2.2.1.2.2.2.2.2.1 l1).2.1.2.2.2.2.1 + l2))), s.2.2.1.2.2.2.2.2.2), s.2.2.2)) hm hF
set_option maxRecDepth 20000 in
theorem CM_shift_115 {w : xw_G} {p : xTH} {d : Nat} (hp : xKH w p d) {h : xw_H} (hb : xMb h)  {l1 : Nat} {l2 : Int32} {l3 : Int32} {s : xMs} {out : xMs} {h0 : xw_H} {m0 n0 : Nat} (hm : m0 ≤ s.2.2.1.2.2.2.2.2.2.1 ∧ n0 ≤ s.2.2.1.2.2.2.2.2.2.2) (hF : FM_shift_115 p l1 l2 l3 s = some out) : xw_Y w mM_shift (d + 1 + 20) (60 * (d + 1) + 600) (xw_R none (mV out h)) h0 m0 n0 s.2.2.1.2.2.2.2.2.2.1 s.2.2.1.2.2.2.2.2.2.2 out.2.2.1.2.2.2.2.2.2.1 out.2.2.1.2.2.2.2.2.2.2 115 [some (.ref 2000), some (.ref (xn l1)), some (.int l2), some (.int l3), none] [] (mV s h) := by
  unfold FM_shift_115 at hF
  refine xy_r (xw_iconst (1) dM_shift_115 (by decide)) ?_
  refine xy_r (xw_goto 120 dM_shift_116 (by decide)) ?_
  exact CM_shift_120 (hp := hp) hb (s := s) hm hF
set_option maxRecDepth 20000 in
theorem CM_shift_83 {w : xw_G} {p : xTH} {d : Nat} (hp : xKH w p d) {h : xw_H} (hb : xMb h)  {l1 : Nat} {l2 : Int32} {l3 : Int32} {s : xMs} {out : xMs} {h0 : xw_H} {m0 n0 : Nat} (hm : m0 ≤ s.2.2.1.2.2.2.2.2.2.1 ∧ n0 ≤ s.2.2.1.2.2.2.2.2.2.2) (hF : FM_shift_83 p l1 l2 l3 s = some out) : xw_Y w mM_shift (d + 1 + 20) (60 * (d + 1) + 600) (xw_R none (mV out h)) h0 m0 n0 s.2.2.1.2.2.2.2.2.2.1 s.2.2.1.2.2.2.2.2.2.2 out.2.2.1.2.2.2.2.2.2.1 out.2.2.1.2.2.2.2.2.2.2 83 [some (.ref 2000), some (.ref (xn l1)), some (.int l2), some (.int l3), none] [] (mV s h) := by
  unfold FM_shift_83 at hF
  refine xy_r (xw_aload_n dM_shift_83 rfl) ?_
  obtain ⟨g1624, hF⟩ := xg_g hF
  refine xy_r (xw_get dM_shift_84 fM_368 (mV_n g1624) rfl) ?_
  refine xy_br (xw_if_lt 115 dM_shift_87 (by decide)) (fun c1625 => ?_) (fun c1625 => ?_)
  · replace hF := xg_t c1625 hF
    exact CM_shift_115 (hp := hp) hb (s := s) hm hF
  · replace hF := xg_f c1625 hF
    refine xy_r (xw_aload_n dM_shift_90 rfl) ?_
    refine xy_r (xw_get dM_shift_91 fM_368 (mV_n g1624) rfl) ?_
    refine xy_r (xw_bipush (80) dM_shift_94 (by decide)) ?_
    refine xy_br (xw_icmp_ge 115 dM_shift_96 (by decide)) (fun c1675 => ?_) (fun c1675 => ?_)
    · replace hF := xg_t c1675 hF
      exact CM_shift_115 (hp := hp) hb (s := s) hm hF
    · replace hF := xg_f c1675 hF
      refine xy_r (xw_aload_n dM_shift_99 rfl) ?_
      refine xy_r (xw_get dM_shift_100 fM_371 (mV_n g1624) rfl) ?_
      refine xy_br (xw_if_lt 115 dM_shift_103 (by decide)) (fun c1676 => ?_) (fun c1676 => ?_)
      · replace hF := xg_t c1676 hF
        exact CM_shift_115 (hp := hp) hb (s := s) hm hF
      · replace hF := xg_f c1676 hF
        refine xy_r (xw_aload_n dM_shift_106 rfl) ?_
        refine xy_r (xw_get dM_shift_107 fM_371 (mV_n g1624) rfl) ?_
        refine xy_r (xw_bipush (26) dM_shift_110 (by decide)) ?_
        refine xy_br (xw_icmp_lt 119 dM_shift_112 (by decide)) (fun c1677 => ?_) (fun c1677 => ?_)
        · replace hF := xg_t c1677 hF
          refine xy_r (xw_iconst (0) dM_shift_119 (by decide)) ?_
          exact CM_shift_120 (hp := hp) hb (s := s) hm hF
        · replace hF := xg_f c1677 hF
          exact CM_shift_115 (hp := hp) hb (s := s) hm hF
set_option maxRecDepth 20000 in
theorem CM_shift_66 {w : xw_G} {p : xTH} {d : Nat} (hp : xKH w p d) {h : xw_H} (hb : xMb h)  {l1 : Nat} {l2 : Int32} {l3 : Int32} {s : xMs} {out : xMs} {h0 : xw_H} {m0 n0 : Nat} (hm : m0 ≤ s.2.2.1.2.2.2.2.2.2.1 ∧ n0 ≤ s.2.2.1.2.2.2.2.2.2.2) (hF : FM_shift_66 p l1 l2 l3 s = some out) : xw_Y w mM_shift (d + 1 + 20) (60 * (d + 1) + 600) (xw_R none (mV out h)) h0 m0 n0 s.2.2.1.2.2.2.2.2.2.1 s.2.2.1.2.2.2.2.2.2.2 out.2.2.1.2.2.2.2.2.2.1 out.2.2.1.2.2.2.2.2.2.2 66 [some (.ref 2000), some (.ref (xn l1)), some (.int l2), some (.int l3), none] [] (mV s h) := by
  unfold FM_shift_66 at hF
  refine xy_r (xw_aload_n dM_shift_66 rfl) ?_
  obtain ⟨g1622, hF⟩ := xg_g hF
  refine xy_r (xw_get dM_shift_67 fM_377 (mV_n g1622) rfl) ?_
  refine xy_br (xw_if_neB 83 dM_shift_70 (by decide)) (fun c1623 => ?_) (fun c1623 => ?_)
  · replace hF := xg_t c1623 hF
    exact CM_shift_83 (hp := hp) hb (s := s) hm hF
  · replace hF := xg_f c1623 hF
    refine xy_r (xw_aload_n dM_shift_73 rfl) ?_
    refine xy_r (xw_dup_r dM_shift_74) ?_
    refine xy_r (xw_get dM_shift_75 fM_371 (mV_n g1622) rfl) ?_
    refine xy_r (xw_iload_n dM_shift_78 rfl) ?_
    refine xy_r (xw_iadd dM_shift_79) ?_
    refine xy_r (xg_put dM_shift_80 fM_371 (mV_n g1622) (xn_le _) (Nat.le_of_ble_eq_true rfl) (fun _ => rfl) (fun _ => rfl) (mV_e (s' := (s.1, s.2.1, (s.2.2.1.1, s.2.2.1.2.1, s.2.2.1.2.2.1, s.2.2.1.2.2.2.1, s.2.2.1.2.2.2.2.1, (va_up s.2.2.1.2.2.2.2.2.1 l1 (nCol (s.2.2.1.2.2.2.2.2.1 l1) ((s.2.2.1.2.2.2.2.2.1 l1).2.1.2.1 + l3))), s.2.2.1.2.2.2.2.2.2), s.2.2.2)) (mV_pn (q := (nCol (s.2.2.1.2.2.2.2.2.1 l1) ((s.2.2.1.2.2.2.2.2.1 l1).2.1.2.1 + l3))) g1622) rfl)) ?_
    exact CM_shift_83 (hp := hp) hb (s := (s.1, s.2.1, (s.2.2.1.1, s.2.2.1.2.1, s.2.2.1.2.2.1, s.2.2.1.2.2.2.1, s.2.2.1.2.2.2.2.1, (va_up s.2.2.1.2.2.2.2.2.1 l1 (nCol (s.2.2.1.2.2.2.2.2.1 l1) ((s.2.2.1.2.2.2.2.2.1 l1).2.1.2.1 + l3))), s.2.2.1.2.2.2.2.2.2), s.2.2.2)) hm hF
set_option maxRecDepth 20000 in
theorem CM_shift_46 {w : xw_G} {p : xTH} {d : Nat} (hp : xKH w p d) {h : xw_H} (hb : xMb h)  {l1 : Nat} {l2 : Int32} {l3 : Int32} {s : xMs} {out : xMs} {h0 : xw_H} {m0 n0 : Nat} (hm : m0 ≤ s.2.2.1.2.2.2.2.2.2.1 ∧ n0 ≤ s.2.2.1.2.2.2.2.2.2.2) (hF : FM_shift_46 p l1 l2 l3 s = some out) : xw_Y w mM_shift (d + 1 + 20) (60 * (d + 1) + 600) (xw_R none (mV out h)) h0 m0 n0 s.2.2.1.2.2.2.2.2.2.1 s.2.2.1.2.2.2.2.2.2.2 out.2.2.1.2.2.2.2.2.2.1 out.2.2.1.2.2.2.2.2.2.2 46 [some (.ref 2000), some (.ref (xn l1)), some (.int l2), some (.int l3), none] [] (mV s h) := by
  unfold FM_shift_46 at hF
  refine xy_r (xw_iconst (0) dM_shift_46 (by decide)) ?_
  refine xy_r (xw_istore dM_shift_47 (Nat.le_of_ble_eq_true rfl)) ?_
  refine xy_r (xw_Ln (L' := [some (.ref 2000), some (.ref (xn l1)), some (.int l2), some (.int l3), some (.int 0)]) rfl) ?_
  refine xy_r (xw_aload_n dM_shift_49 rfl) ?_
  obtain ⟨g1620, hF⟩ := xg_g hF
  refine xy_r (xw_get dM_shift_50 fM_374 (mV_n g1620) rfl) ?_
  refine xy_br (xw_if_neB 66 dM_shift_53 (by decide)) (fun c1621 => ?_) (fun c1621 => ?_)
  · replace hF := xg_t c1621 hF
    refine xy_r (xw_drop (L' := [some (.ref 2000), some (.ref (xn l1)), some (.int l2), some (.int l3), none]) ⟨rfl, ⟨rfl, ⟨rfl, ⟨rfl, trivial⟩⟩⟩⟩) ?_
    exact CM_shift_66 (hp := hp) hb (s := s) hm hF
  · replace hF := xg_f c1621 hF
    refine xy_r (xw_aload_n dM_shift_56 rfl) ?_
    refine xy_r (xw_dup_r dM_shift_57) ?_
    refine xy_r (xw_get dM_shift_58 fM_368 (mV_n g1620) rfl) ?_
    refine xy_r (xw_iload_n dM_shift_61 rfl) ?_
    refine xy_r (xw_iadd dM_shift_62) ?_
    refine xy_r (xg_put dM_shift_63 fM_368 (mV_n g1620) (xn_le _) (Nat.le_of_ble_eq_true rfl) (fun _ => rfl) (fun _ => rfl) (mV_e (s' := (s.1, s.2.1, (s.2.2.1.1, s.2.2.1.2.1, s.2.2.1.2.2.1, s.2.2.1.2.2.2.1, s.2.2.1.2.2.2.2.1, (va_up s.2.2.1.2.2.2.2.2.1 l1 (nRow (s.2.2.1.2.2.2.2.2.1 l1) ((s.2.2.1.2.2.2.2.2.1 l1).2.1.1 + l2))), s.2.2.1.2.2.2.2.2.2), s.2.2.2)) (mV_pn (q := (nRow (s.2.2.1.2.2.2.2.2.1 l1) ((s.2.2.1.2.2.2.2.2.1 l1).2.1.1 + l2))) g1620) rfl)) ?_
    refine xy_r (xw_drop (L' := [some (.ref 2000), some (.ref (xn l1)), some (.int l2), some (.int l3), none]) ⟨rfl, ⟨rfl, ⟨rfl, ⟨rfl, trivial⟩⟩⟩⟩) ?_
    exact CM_shift_66 (hp := hp) hb (s := (s.1, s.2.1, (s.2.2.1.1, s.2.2.1.2.1, s.2.2.1.2.2.1, s.2.2.1.2.2.2.1, s.2.2.1.2.2.2.2.1, (va_up s.2.2.1.2.2.2.2.2.1 l1 (nRow (s.2.2.1.2.2.2.2.2.1 l1) ((s.2.2.1.2.2.2.2.2.1 l1).2.1.1 + l2))), s.2.2.1.2.2.2.2.2.2), s.2.2.2)) hm hF
set_option maxRecDepth 20000 in
theorem CM_shift_6 {w : xw_G} {p : xTH} {d : Nat} (hp : xKH w p d) {h : xw_H} (hb : xMb h)  : ∀ (fu : Nat) {l1 : Nat} {l2 : Int32} {l3 : Int32} {l4 : Option Nat} {s : xMs} {out : xMs} {h0 : xw_H} {m0 n0 : Nat} (hm : m0 ≤ s.2.2.1.2.2.2.2.2.2.1 ∧ n0 ≤ s.2.2.1.2.2.2.2.2.2.2), FM_shift_6 p fu l1 l2 l3 l4 s = some out → xw_Y w mM_shift (d + 1 + 20) (60 * (d + 1) + 600) (xw_R none (mV out h)) h0 m0 n0 s.2.2.1.2.2.2.2.2.2.1 s.2.2.1.2.2.2.2.2.2.2 out.2.2.1.2.2.2.2.2.2.1 out.2.2.1.2.2.2.2.2.2.2 6 [some (.ref 2000), some (.ref (xn l1)), some (.int l2), some (.int l3), some (xw_rf l4)] [] (mV s h) := by
  intro fu
  induction fu with
  | zero =>
    intro l1 l2 l3 l4 s out h0 m0 n0 hm hF
    rw [FM_shift_6] at hF
    cases hF
  | succ fu ih =>
    intro l1 l2 l3 l4 s out h0 m0 n0 hm hF
    rw [FM_shift_6] at hF
    refine xy_r (xg_aload dM_shift_6 rfl) ?_
    rcases xg_m hF with ⟨ei1617, hF⟩ | ⟨i1617, ei1617, hF⟩
    · refine xy_r (xw_Ln (L' := [some (.ref 2000), some (.ref (xn l1)), some (.int l2), some (.int l3), some (.null)]) (by first | (rw [ei1617]; done) | (rw [ei1617]; rfl))) ?_
      refine xy_r (xw_Sn (st' := [.null]) (by first | (rw [ei1617]; done) | (rw [ei1617]; rfl))) ?_
      refine xy_r (xw_ifnull_n 29 dM_shift_8 (by decide)) ?_
      refine xy_r (xw_aload_n dM_shift_29 rfl) ?_
      obtain ⟨g1618, hF⟩ := xg_g hF
      refine xy_r (xw_get dM_shift_30 fM_192 (mV_n g1618) rfl) ?_
      refine xy_r (xw_iconst (4) dM_shift_33 (by decide)) ?_
      refine xy_br (xw_icmp_eq 46 dM_shift_34 (by decide)) (fun c1619 => ?_) (fun c1619 => ?_)
      · replace hF := xg_t c1619 hF
        refine xy_r (xw_drop (L' := [some (.ref 2000), some (.ref (xn l1)), some (.int l2), some (.int l3), none]) ⟨rfl, ⟨rfl, ⟨rfl, ⟨rfl, trivial⟩⟩⟩⟩) ?_
        exact CM_shift_46 (hp := hp) hb (s := s) hm hF
      · replace hF := xg_f c1619 hF
        refine xy_r (xw_aload_n dM_shift_37 rfl) ?_
        refine xy_r (xw_get dM_shift_38 fM_192 (mV_n g1618) rfl) ?_
        refine xy_r (xw_iconst (5) dM_shift_41 (by decide)) ?_
        refine xy_br (xw_icmp_eq 46 dM_shift_42 (by decide)) (fun c1678 => ?_) (fun c1678 => ?_)
        · replace hF := xg_t c1678 hF
          refine xy_r (xw_drop (L' := [some (.ref 2000), some (.ref (xn l1)), some (.int l2), some (.int l3), none]) ⟨rfl, ⟨rfl, ⟨rfl, ⟨rfl, trivial⟩⟩⟩⟩) ?_
          exact CM_shift_46 (hp := hp) hb (s := s) hm hF
        · replace hF := xg_f c1678 hF
          obtain rfl := Option.some.inj hF
          exact xy_end (xw_return dM_shift_45 rfl (Nat.le_refl _) (Nat.le_refl _) ⟨rfl, rfl⟩)
    · refine xy_r (xw_Ln (L' := [some (.ref 2000), some (.ref (xn l1)), some (.int l2), some (.int l3), some (.ref (xn i1617))]) (by first | (rw [ei1617]; done) | (rw [ei1617]; rfl))) ?_
      refine xy_r (xw_Sn (st' := [.ref (xn i1617)]) (by first | (rw [ei1617]; done) | (rw [ei1617]; rfl))) ?_
      refine xy_r (xw_ifnull_r dM_shift_8) ?_
      refine xy_r (xw_aload_n dM_shift_11 rfl) ?_
      refine xy_r (xw_aload dM_shift_12 rfl) ?_
      refine xy_r (xw_iload_n dM_shift_14 rfl) ?_
      refine xy_r (xw_iload_n dM_shift_15 rfl) ?_
      obtain ⟨r1679, er1679, hF⟩ := xg_b hF
      have hm1680 : m0 ≤ r1679.2.2.1.2.2.2.2.2.2.1 ∧ n0 ≤ r1679.2.2.1.2.2.2.2.2.2.2 := xy_le hm (show s.2.2.1.2.2.2.2.2.2.1 ≤ r1679.2.2.1.2.2.2.2.2.2.1 ∧ s.2.2.1.2.2.2.2.2.2.2 ≤ r1679.2.2.1.2.2.2.2.2.2.2 from ((hp  (h := h) hb (s := s) er1679)).1)
      refine xy_V0 (nl := 5) (sm := s.2.2.1.2.2.2.2.2.2.1) (sn := s.2.2.1.2.2.2.2.2.2.2) (tm := r1679.2.2.1.2.2.2.2.2.2.1) (tn := r1679.2.2.1.2.2.2.2.2.2.2) (hp  hb (s := s) er1679) rfl rfl hm (fun _ => rfl) (fun _ => rfl) (fun _ => rfl) (fun _ => dM_shift_16) (fun _ R => kM_463 R) (fun _ => rfl) ⟨by omega, by omega⟩ rfl rfl rfl (fun _ => rfl) (Nat.le_of_ble_eq_true rfl) ?_
      refine xy_r (xw_aload dM_shift_19 rfl) ?_
      obtain ⟨g1682, hF⟩ := xg_g hF
      refine xy_r (xw_get dM_shift_21 fM_212 (mV_n g1682) rfl) ?_
      refine xy_r (xg_astore dM_shift_24 (Nat.le_of_ble_eq_true rfl)) ?_
      refine xy_r (xw_Ln (L' := [some (.ref 2000), some (.ref (xn l1)), some (.int l2), some (.int l3), some (xw_rf (r1679.2.2.1.2.2.2.2.2.1 i1617).2.2.2.2.1)]) rfl) ?_
      refine xy_r (xw_goto 6 dM_shift_26 (by decide)) ?_
      exact ih (s := r1679) hm1680 hF
set_option maxRecDepth 20000 in
theorem CM_shift {w : xw_G} {p : xTH} {d : Nat} (hp : xKH w p d) {h : xw_H} (hb : xMb h) {x0 : Nat} {x1 : Int32} {x2 : Int32} {s : xMs} {out : xMs} (hF : FM_shift p x0 x1 x2 s = some out) : (s.2.2.1.2.2.2.2.2.2.1 ≤ out.2.2.1.2.2.2.2.2.2.1 ∧ s.2.2.1.2.2.2.2.2.2.2 ≤ out.2.2.1.2.2.2.2.2.2.2) ∧ xw_C w (mM_shift { frames := (d + 1 + 20), cells := out.2.2.1.2.2.2.2.2.2.1 - s.2.2.1.2.2.2.2.2.2.1, slots := out.2.2.1.2.2.2.2.2.2.2 - s.2.2.1.2.2.2.2.2.2.2, locals := (60 * (d + 1) + 600) }) (xw_R none (mV out h)) [.ref 2000, .ref (xn x0), .int x1, .int x2] (mV s h) := by
  unfold FM_shift at hF
  refine xy_enter (L := [some (.ref 2000), some (.ref (xn x0)), some (.int x1), some (.int x2), none]) (fun _ => rfl) (fun _ => rfl) (fun _ => (show plainName "FormulaShaperModel" = true by decide +kernel)) (fun _ => (Nat.le_of_ble_eq_true rfl)) (fun _ => rfl) ?_
  have hm : s.2.2.1.2.2.2.2.2.2.1 ≤ s.2.2.1.2.2.2.2.2.2.1 ∧ s.2.2.1.2.2.2.2.2.2.2 ≤ s.2.2.1.2.2.2.2.2.2.2 := ⟨Nat.le_refl _, Nat.le_refl _⟩
  refine xy_r (xw_aload_n dM_shift_0 rfl) ?_
  obtain ⟨g1616, hF⟩ := xg_g hF
  refine xy_r (xw_get dM_shift_1 fM_205 (mV_n g1616) rfl) ?_
  refine xy_r (xg_astore dM_shift_4 (Nat.le_of_ble_eq_true rfl)) ?_
  refine xy_r (xw_Ln (L' := [some (.ref 2000), some (.ref (xn x0)), some (.int x1), some (.int x2), some (xw_rf (s.2.2.1.2.2.2.2.2.1 x0).2.2.1)]) rfl) ?_
  exact CM_shift_6 (hp := hp) hb xFuel (s := s) hm hF
def xUH : Nat → xTH
  | 0 => fun _ _ _ _ => none
  | d + 1 => FM_shift (xUH d)
theorem xVH (w : xw_G) : ∀ d : Nat, xKH w (xUH d) d
  | 0 => fun _ => fun q => (Option.some_ne_none _ q.symm).elim
  | d + 1 => fun hb => fun q => CM_shift (hp := xVH w d) hb q
def FM_H (x0 : Nat) (x1 : Int32) (x2 : Int32) (s : xMs) : Option xMs := (xUH 1100) x0 x1 x2 s
theorem CM_H {w : xw_G} {h : xw_H} (hb : xMb h) {x0 : Nat} {x1 : Int32} {x2 : Int32} {s : xMs} {out : xMs} (hF : FM_H x0 x1 x2 s = some out) : (s.2.2.1.2.2.2.2.2.2.1 ≤ out.2.2.1.2.2.2.2.2.2.1 ∧ s.2.2.1.2.2.2.2.2.2.2 ≤ out.2.2.1.2.2.2.2.2.2.2) ∧ xw_C w (mM_shift { frames := 1120, cells := out.2.2.1.2.2.2.2.2.2.1 - s.2.2.1.2.2.2.2.2.2.1, slots := out.2.2.1.2.2.2.2.2.2.2 - s.2.2.1.2.2.2.2.2.2.2, locals := 66600 }) (xw_R none (mV out h)) [.ref 2000, .ref (xn x0), .int x1, .int x2] (mV s h) := (xVH w 1100) hb hF
/-- what the methods move mean, to a depth -/
abbrev xTV : Type := (Nat → Bool → Int32 → Int32 → Bool → xMs → Option xMs)
def xKV (w : xw_G) (p : xTV) (d : Nat) : Prop := (∀ {h : xw_H}, xMb h → ∀ {x0 : Nat} {x1 : Bool} {x2 : Int32} {x3 : Int32} {x4 : Bool} {s : xMs} {out : xMs}, p x0 x1 x2 x3 x4 s = some out → (s.2.2.1.2.2.2.2.2.2.1 ≤ out.2.2.1.2.2.2.2.2.2.1 ∧ s.2.2.1.2.2.2.2.2.2.2 ≤ out.2.2.1.2.2.2.2.2.2.2) ∧ xw_C w (mM_move { frames := d + 20, cells := out.2.2.1.2.2.2.2.2.2.1 - s.2.2.1.2.2.2.2.2.2.1, slots := out.2.2.1.2.2.2.2.2.2.2 - s.2.2.1.2.2.2.2.2.2.2, locals := 60 * d + 600 }) (xw_R none (mV out h)) [.ref 2000, .ref (xn x0), .int (xb x1), .int x2, .int x3, .int (xb x4)] (mV s h))
theorem xZV {μ : xw_M} {d c n : Nat} (h : μ.2.2.2.2.1.frames + 1 ≤ 21) (h2 : 8 + (μ.2.2.1 + 11) + μ.2.2.2.2.1.locals ≤ 660) : xw_fit { frames := d + 1 + 20, cells := c, slots := n, locals := 60 * (d + 1) + 600 } μ := ⟨by show _ ≤ d + 1 + 20; omega, by show _ ≤ 60 * (d + 1) + 600; omega⟩
def FM_move_237 (p : xTV) (l1 : Nat) (l2 : Bool) (l3 : Int32) (l4 : Int32) (l6 : Int32) (l8 : Int32) (t0 : Int32) (s : xMs) : Option xMs := if l3 ≤ l8 then (if (l3 + l4) ≤ l8 then (if l6 ≤ t0 then ((FM_lost l1 s).bind fun r1699 => some r1699) else (if t0 ≤ (l8 - l4) then (if l2 = true then (if l1 < s.2.2.1.2.2.2.2.1 then (some (s.1, s.2.1, (s.2.2.1.1, s.2.2.1.2.1, s.2.2.1.2.2.1, s.2.2.1.2.2.2.1, s.2.2.1.2.2.2.2.1, (va_up s.2.2.1.2.2.2.2.2.1 l1 (nLc (nCol (s.2.2.1.2.2.2.2.2.1 l1) t0) (l8 - l4))), s.2.2.1.2.2.2.2.2.2), s.2.2.2)) else none) else (if l1 < s.2.2.1.2.2.2.2.1 then (some (s.1, s.2.1, (s.2.2.1.1, s.2.2.1.2.1, s.2.2.1.2.2.1, s.2.2.1.2.2.2.1, s.2.2.1.2.2.2.2.1, (va_up s.2.2.1.2.2.2.2.2.1 l1 (nLr (nRow (s.2.2.1.2.2.2.2.2.1 l1) t0) (l8 - l4))), s.2.2.1.2.2.2.2.2.2), s.2.2.2)) else none)) else ((FM_lost l1 s).bind fun r1706 => some r1706))) else (if l6 ≤ t0 then ((FM_lost l1 s).bind fun r1710 => some r1710) else (if t0 ≤ (l3 - 1) then (if l2 = true then (if l1 < s.2.2.1.2.2.2.2.1 then (some (s.1, s.2.1, (s.2.2.1.1, s.2.2.1.2.1, s.2.2.1.2.2.1, s.2.2.1.2.2.2.1, s.2.2.1.2.2.2.2.1, (va_up s.2.2.1.2.2.2.2.2.1 l1 (nLc (nCol (s.2.2.1.2.2.2.2.2.1 l1) t0) (l3 - 1))), s.2.2.1.2.2.2.2.2.2), s.2.2.2)) else none) else (if l1 < s.2.2.1.2.2.2.2.1 then (some (s.1, s.2.1, (s.2.2.1.1, s.2.2.1.2.1, s.2.2.1.2.2.1, s.2.2.1.2.2.2.1, s.2.2.1.2.2.2.2.1, (va_up s.2.2.1.2.2.2.2.2.1 l1 (nLr (nRow (s.2.2.1.2.2.2.2.2.1 l1) t0) (l3 - 1))), s.2.2.1.2.2.2.2.2.2), s.2.2.2)) else none)) else ((FM_lost l1 s).bind fun r1717 => some r1717)))) else (if l6 ≤ t0 then ((FM_lost l1 s).bind fun r1721 => some r1721) else (if t0 ≤ l8 then (if l2 = true then (if l1 < s.2.2.1.2.2.2.2.1 then (some (s.1, s.2.1, (s.2.2.1.1, s.2.2.1.2.1, s.2.2.1.2.2.1, s.2.2.1.2.2.2.1, s.2.2.1.2.2.2.2.1, (va_up s.2.2.1.2.2.2.2.2.1 l1 (nLc (nCol (s.2.2.1.2.2.2.2.2.1 l1) t0) l8)), s.2.2.1.2.2.2.2.2.2), s.2.2.2)) else none) else (if l1 < s.2.2.1.2.2.2.2.1 then (some (s.1, s.2.1, (s.2.2.1.1, s.2.2.1.2.1, s.2.2.1.2.2.1, s.2.2.1.2.2.2.1, s.2.2.1.2.2.2.2.1, (va_up s.2.2.1.2.2.2.2.2.1 l1 (nLr (nRow (s.2.2.1.2.2.2.2.2.1 l1) t0) l8)), s.2.2.1.2.2.2.2.2.2), s.2.2.2)) else none)) else ((FM_lost l1 s).bind fun r1728 => some r1728)))
def FM_move_178 (p : xTV) (l1 : Nat) (l2 : Bool) (l3 : Int32) (l4 : Int32) (l6 : Int32) (l8 : Int32) (t0 : Int32) (s : xMs) : Option xMs := if l3 ≤ l8 then (if l6 ≤ t0 then ((FM_lost l1 s).bind fun r1734 => some r1734) else (if t0 ≤ (if (l6 - 1) < (l8 + l4) then (l6 - 1) else (l8 + l4)) then (if l2 = true then (if l1 < s.2.2.1.2.2.2.2.1 then (some (s.1, s.2.1, (s.2.2.1.1, s.2.2.1.2.1, s.2.2.1.2.2.1, s.2.2.1.2.2.2.1, s.2.2.1.2.2.2.2.1, (va_up s.2.2.1.2.2.2.2.2.1 l1 (nLc (nCol (s.2.2.1.2.2.2.2.2.1 l1) t0) (if (l6 - 1) < (l8 + l4) then (l6 - 1) else (l8 + l4)))), s.2.2.1.2.2.2.2.2.2), s.2.2.2)) else none) else (if l1 < s.2.2.1.2.2.2.2.1 then (some (s.1, s.2.1, (s.2.2.1.1, s.2.2.1.2.1, s.2.2.1.2.2.1, s.2.2.1.2.2.2.1, s.2.2.1.2.2.2.2.1, (va_up s.2.2.1.2.2.2.2.2.1 l1 (nLr (nRow (s.2.2.1.2.2.2.2.2.1 l1) t0) (if (l6 - 1) < (l8 + l4) then (l6 - 1) else (l8 + l4)))), s.2.2.1.2.2.2.2.2.2), s.2.2.2)) else none)) else ((FM_lost l1 s).bind fun r1741 => some r1741))) else (if l6 ≤ t0 then ((FM_lost l1 s).bind fun r1745 => some r1745) else (if t0 ≤ l8 then (if l2 = true then (if l1 < s.2.2.1.2.2.2.2.1 then (some (s.1, s.2.1, (s.2.2.1.1, s.2.2.1.2.1, s.2.2.1.2.2.1, s.2.2.1.2.2.2.1, s.2.2.1.2.2.2.2.1, (va_up s.2.2.1.2.2.2.2.2.1 l1 (nLc (nCol (s.2.2.1.2.2.2.2.2.1 l1) t0) l8)), s.2.2.1.2.2.2.2.2.2), s.2.2.2)) else none) else (if l1 < s.2.2.1.2.2.2.2.1 then (some (s.1, s.2.1, (s.2.2.1.1, s.2.2.1.2.1, s.2.2.1.2.2.1, s.2.2.1.2.2.2.1, s.2.2.1.2.2.2.2.1, (va_up s.2.2.1.2.2.2.2.2.1 l1 (nLr (nRow (s.2.2.1.2.2.2.2.2.1 l1) t0) l8)), s.2.2.1.2.2.2.2.2.2), s.2.2.2)) else none)) else ((FM_lost l1 s).bind fun r1752 => some r1752)))
def FM_move_155 (p : xTV) (l1 : Nat) (l2 : Bool) (l3 : Int32) (l4 : Int32) (l5 : Bool) (l6 : Int32) (l7 : Int32) (t0 : Int32) (s : xMs) : Option xMs := if l5 = true then (if l3 ≤ l7 then (FM_move_178 p l1 l2 l3 l4 l6 t0 (l7 + l4) s) else (FM_move_178 p l1 l2 l3 l4 l6 t0 l7 s)) else (if l3 ≤ l7 then (if (l3 + l4) ≤ l7 then (FM_move_237 p l1 l2 l3 l4 l6 t0 (l7 - l4) s) else (FM_move_237 p l1 l2 l3 l4 l6 t0 l3 s)) else (FM_move_237 p l1 l2 l3 l4 l6 t0 l7 s))
def FM_move_138 (p : xTV) (l1 : Nat) (l2 : Bool) (l3 : Int32) (l4 : Int32) (l5 : Bool) (l6 : Int32) (t0 : Int32) (s : xMs) : Option xMs := if l2 = true then (if l1 < s.2.2.1.2.2.2.2.1 then (FM_move_155 p l1 l2 l3 l4 l5 l6 t0 (s.2.2.1.2.2.2.2.2.1 l1).2.1.2.2.2.2.2.1 s) else none) else (if l1 < s.2.2.1.2.2.2.2.1 then (FM_move_155 p l1 l2 l3 l4 l5 l6 t0 (s.2.2.1.2.2.2.2.2.1 l1).2.1.2.2.2.2.1 s) else none)
def FM_move_114 (p : xTV) (l1 : Nat) (l2 : Bool) (l3 : Int32) (l4 : Int32) (l5 : Bool) (l6 : Int32) (s : xMs) : Option xMs := if l1 < s.2.2.1.2.2.2.2.1 then (if (s.2.2.1.2.2.2.2.2.1 l1).1.1 = 5 then (if l2 = true then (FM_move_138 p l1 l2 l3 l4 l5 l6 (s.2.2.1.2.2.2.2.2.1 l1).2.1.2.1 s) else (FM_move_138 p l1 l2 l3 l4 l5 l6 (s.2.2.1.2.2.2.2.2.1 l1).2.1.1 s)) else (some s)) else none
def FM_move_70 (p : xTV) (l1 : Nat) (l2 : Bool) (l3 : Int32) (l4 : Int32) (l5 : Bool) (l6 : Int32) (t1 : Int32) (s : xMs) : Option xMs := (FM_moved t1 l3 l4 l5 l6 s).bind fun r1757 => if 0 ≤ r1757 then (if l2 = true then (if l1 < s.2.2.1.2.2.2.2.1 then (FM_move_114 p l1 l2 l3 l4 l5 l6 (s.1, s.2.1, (s.2.2.1.1, s.2.2.1.2.1, s.2.2.1.2.2.1, s.2.2.1.2.2.2.1, s.2.2.1.2.2.2.2.1, (va_up s.2.2.1.2.2.2.2.2.1 l1 (nCol (s.2.2.1.2.2.2.2.2.1 l1) r1757)), s.2.2.1.2.2.2.2.2.2), s.2.2.2)) else none) else (if l1 < s.2.2.1.2.2.2.2.1 then (FM_move_114 p l1 l2 l3 l4 l5 l6 (s.1, s.2.1, (s.2.2.1.1, s.2.2.1.2.1, s.2.2.1.2.2.1, s.2.2.1.2.2.2.1, s.2.2.1.2.2.2.2.1, (va_up s.2.2.1.2.2.2.2.2.1 l1 (nRow (s.2.2.1.2.2.2.2.2.1 l1) r1757)), s.2.2.1.2.2.2.2.2.2), s.2.2.2)) else none)) else ((FM_lost l1 s).bind fun r1762 => FM_move_114 p l1 l2 l3 l4 l5 l6 r1762)
def FM_move_44 (p : xTV) (l1 : Nat) (l2 : Bool) (l3 : Int32) (l4 : Int32) (l5 : Bool) (t0 : Int32) (s : xMs) : Option xMs := if l1 < s.2.2.1.2.2.2.2.1 then (if (s.2.2.1.2.2.2.2.2.1 l1).1.1 = 4 then (if l2 = true then (FM_move_70 p l1 l2 l3 l4 l5 t0 (s.2.2.1.2.2.2.2.2.1 l1).2.1.2.1 s) else (FM_move_70 p l1 l2 l3 l4 l5 t0 (s.2.2.1.2.2.2.2.2.1 l1).2.1.1 s)) else (FM_move_114 p l1 l2 l3 l4 l5 t0 s)) else none
def FM_move_6 (p : xTV) : Nat → Nat → Bool → Int32 → Int32 → Bool → Option Nat → xMs → Option xMs
  | 0, _, _, _, _, _, _, _ => none
  | fu + 1, l1, l2, l3, l4, l5, l6, s => xm l6 (if l2 = true then (FM_move_44 p l1 l2 l3 l4 l5 26 s) else (FM_move_44 p l1 l2 l3 l4 l5 80 s)) (fun i1684 => (p i1684 l2 l3 l4 l5 s).bind fun r1765 => if i1684 < r1765.2.2.1.2.2.2.2.1 then (FM_move_6 p fu l1 l2 l3 l4 l5 (r1765.2.2.1.2.2.2.2.2.1 i1684).2.2.2.2.1 r1765) else none)
/-- FormulaShaperModel.move -/
def FM_move (p : xTV) (x0 : Nat) (x1 : Bool) (x2 : Int32) (x3 : Int32) (x4 : Bool) (s : xMs) : Option xMs := if x0 < s.2.2.1.2.2.2.2.1 then (FM_move_6 p xFuel x0 x1 x2 x3 x4 (s.2.2.1.2.2.2.2.2.1 x0).2.2.1 s) else none
set_option maxRecDepth 20000 in
theorem CM_move_237 {w : xw_G} {p : xTV} {d : Nat} (hp : xKV w p d) {h : xw_H} (hb : xMb h)  {l1 : Nat} {l2 : Bool} {l3 : Int32} {l4 : Int32} {l6 : Int32} {l8 : Int32} {t0 : Int32} {s : xMs} {out : xMs} {h0 : xw_H} {m0 n0 : Nat} (hm : m0 ≤ s.2.2.1.2.2.2.2.2.2.1 ∧ n0 ≤ s.2.2.1.2.2.2.2.2.2.2) (hF : FM_move_237 p l1 l2 l3 l4 l6 l8 t0 s = some out) : xw_Y w mM_move (d + 1 + 20) (60 * (d + 1) + 600) (xw_R none (mV out h)) h0 m0 n0 s.2.2.1.2.2.2.2.2.2.1 s.2.2.1.2.2.2.2.2.2.2 out.2.2.1.2.2.2.2.2.2.1 out.2.2.1.2.2.2.2.2.2.2 237 [some (.ref 2000), some (.ref (xn l1)), some (.int (xb l2)), some (.int l3), some (.int l4), none, some (.int l6), none, some (.int l8), none, none] [.int t0] (mV s h) := by
  unfold FM_move_237 at hF
  refine xy_r (xw_istore dM_move_237 (Nat.le_of_ble_eq_true rfl)) ?_
  refine xy_r (xw_Ln (L' := [some (.ref 2000), some (.ref (xn l1)), some (.int (xb l2)), some (.int l3), some (.int l4), none, some (.int l6), none, some (.int l8), some (.int t0), none]) rfl) ?_
  refine xy_r (xw_iload dM_move_239 rfl) ?_
  refine xy_r (xw_iload_n dM_move_241 rfl) ?_
  refine xy_br (xw_icmp_ge 250 dM_move_242 (by decide)) (fun c1696 => ?_) (fun c1696 => ?_)
  · replace hF := xg_t c1696 hF
    refine xy_r (xw_iload dM_move_250 rfl) ?_
    refine xy_r (xw_iload_n dM_move_252 rfl) ?_
    refine xy_r (xw_iload dM_move_253 rfl) ?_
    refine xy_r (xw_iadd dM_move_255) ?_
    refine xy_br (xw_icmp_ge 265 dM_move_256 (by decide)) (fun c1697 => ?_) (fun c1697 => ?_)
    · replace hF := xg_t c1697 hF
      refine xy_r (xw_iload dM_move_265 rfl) ?_
      refine xy_r (xw_iload dM_move_267 rfl) ?_
      refine xy_r (xw_isub dM_move_269) ?_
      refine xy_r (xw_istore dM_move_270 (Nat.le_of_ble_eq_true rfl)) ?_
      refine xy_r (xw_Ln (L' := [some (.ref 2000), some (.ref (xn l1)), some (.int (xb l2)), some (.int l3), some (.int l4), none, some (.int l6), none, some (.int l8), some (.int t0), some (.int (l8 - l4))]) rfl) ?_
      refine xy_r (xw_iload dM_move_272 rfl) ?_
      refine xy_r (xw_iload dM_move_274 rfl) ?_
      refine xy_br (xw_icmp_ge 286 dM_move_276 (by decide)) (fun c1698 => ?_) (fun c1698 => ?_)
      · replace hF := xg_t c1698 hF
        refine xy_r (xw_aload_n dM_move_286 rfl) ?_
        refine xy_r (xw_aload_n dM_move_287 rfl) ?_
        obtain ⟨r1699, er1699, hF⟩ := xg_b hF
        have hm1700 : m0 ≤ r1699.2.2.1.2.2.2.2.2.2.1 ∧ n0 ≤ r1699.2.2.1.2.2.2.2.2.2.2 := xy_le hm (show s.2.2.1.2.2.2.2.2.2.1 ≤ r1699.2.2.1.2.2.2.2.2.2.1 ∧ s.2.2.1.2.2.2.2.2.2.2 ≤ r1699.2.2.1.2.2.2.2.2.2.2 from (CM_lost (w := w) (h := h) hb (s := s) er1699).1)
        refine xy_V0 (nl := 2) (sm := s.2.2.1.2.2.2.2.2.2.1) (sn := s.2.2.1.2.2.2.2.2.2.2) (tm := r1699.2.2.1.2.2.2.2.2.2.1) (tn := r1699.2.2.1.2.2.2.2.2.2.2) (CM_lost hb (s := s) er1699) rfl rfl hm (fun _ => rfl) (fun _ => rfl) (fun _ => rfl) (fun _ => dM_move_288) (fun _ R => kM_470 R) (fun _ => rfl) ⟨by omega, by omega⟩ rfl rfl rfl (fun _ => rfl) (Nat.le_of_ble_eq_true rfl) ?_
        obtain rfl := Option.some.inj hF
        exact xy_end (xw_return dM_move_291 rfl (Nat.le_refl _) (Nat.le_refl _) ⟨rfl, rfl⟩)
      · replace hF := xg_f c1698 hF
        refine xy_r (xw_iload dM_move_279 rfl) ?_
        refine xy_r (xw_iload dM_move_281 rfl) ?_
        refine xy_br (xw_icmp_le 292 dM_move_283 (by decide)) (fun c1702 => ?_) (fun c1702 => ?_)
        · replace hF := xg_t c1702 hF
          refine xy_r (xw_iload_n dM_move_292 rfl) ?_
          refine xy_brn (xw_if_eqB 311 dM_move_293 (by decide)) (fun c1703 => ?_) (fun c1703 => ?_)
          · replace hF := xg_f c1703 hF
            refine xy_r (xw_aload_n dM_move_311 rfl) ?_
            refine xy_r (xw_iload dM_move_312 rfl) ?_
            obtain ⟨g1704, hF⟩ := xg_g hF
            refine xy_r (xg_put dM_move_314 fM_368 (mV_n g1704) (xn_le _) (Nat.le_of_ble_eq_true rfl) (fun _ => rfl) (fun _ => rfl) (mV_e (s' := (s.1, s.2.1, (s.2.2.1.1, s.2.2.1.2.1, s.2.2.1.2.2.1, s.2.2.1.2.2.2.1, s.2.2.1.2.2.2.2.1, (va_up s.2.2.1.2.2.2.2.2.1 l1 (nRow (s.2.2.1.2.2.2.2.2.1 l1) t0)), s.2.2.1.2.2.2.2.2.2), s.2.2.2)) (mV_pn (q := (nRow (s.2.2.1.2.2.2.2.2.1 l1) t0)) g1704) rfl)) ?_
            refine xy_r (xw_aload_n dM_move_317 rfl) ?_
            refine xy_r (xw_iload dM_move_318 rfl) ?_
            refine xy_r (xg_put dM_move_320 fM_389 (mV_nu (va_up_self _ _ _) g1704) (xn_le _) (Nat.le_of_ble_eq_true rfl) (fun _ => rfl) (fun _ => rfl) (mV_e (s' := (s.1, s.2.1, (s.2.2.1.1, s.2.2.1.2.1, s.2.2.1.2.2.1, s.2.2.1.2.2.2.1, s.2.2.1.2.2.2.2.1, (va_up s.2.2.1.2.2.2.2.2.1 l1 (nLr (nRow (s.2.2.1.2.2.2.2.2.1 l1) t0) (l8 - l4))), s.2.2.1.2.2.2.2.2.2), s.2.2.2)) (mV_pu (q := (nLr (nRow (s.2.2.1.2.2.2.2.2.1 l1) t0) (l8 - l4))) g1704 (va_up_up _ _ _ _)) rfl)) ?_
            obtain rfl := Option.some.inj hF
            exact xy_end (xw_return dM_move_323 rfl (Nat.le_refl _) (Nat.le_refl _) ⟨rfl, rfl⟩)
          · replace hF := xg_t c1703 hF
            refine xy_r (xw_aload_n dM_move_296 rfl) ?_
            refine xy_r (xw_iload dM_move_297 rfl) ?_
            obtain ⟨g1705, hF⟩ := xg_g hF
            refine xy_r (xg_put dM_move_299 fM_371 (mV_n g1705) (xn_le _) (Nat.le_of_ble_eq_true rfl) (fun _ => rfl) (fun _ => rfl) (mV_e (s' := (s.1, s.2.1, (s.2.2.1.1, s.2.2.1.2.1, s.2.2.1.2.2.1, s.2.2.1.2.2.2.1, s.2.2.1.2.2.2.2.1, (va_up s.2.2.1.2.2.2.2.2.1 l1 (nCol (s.2.2.1.2.2.2.2.2.1 l1) t0)), s.2.2.1.2.2.2.2.2.2), s.2.2.2)) (mV_pn (q := (nCol (s.2.2.1.2.2.2.2.2.1 l1) t0)) g1705) rfl)) ?_
            refine xy_r (xw_aload_n dM_move_302 rfl) ?_
            refine xy_r (xw_iload dM_move_303 rfl) ?_
            refine xy_r (xg_put dM_move_305 fM_398 (mV_nu (va_up_self _ _ _) g1705) (xn_le _) (Nat.le_of_ble_eq_true rfl) (fun _ => rfl) (fun _ => rfl) (mV_e (s' := (s.1, s.2.1, (s.2.2.1.1, s.2.2.1.2.1, s.2.2.1.2.2.1, s.2.2.1.2.2.2.1, s.2.2.1.2.2.2.2.1, (va_up s.2.2.1.2.2.2.2.2.1 l1 (nLc (nCol (s.2.2.1.2.2.2.2.2.1 l1) t0) (l8 - l4))), s.2.2.1.2.2.2.2.2.2), s.2.2.2)) (mV_pu (q := (nLc (nCol (s.2.2.1.2.2.2.2.2.1 l1) t0) (l8 - l4))) g1705 (va_up_up _ _ _ _)) rfl)) ?_
            refine xy_r (xw_goto 323 dM_move_308 (by decide)) ?_
            obtain rfl := Option.some.inj hF
            exact xy_end (xw_return dM_move_323 rfl (Nat.le_refl _) (Nat.le_refl _) ⟨rfl, rfl⟩)
        · replace hF := xg_f c1702 hF
          refine xy_r (xw_aload_n dM_move_286 rfl) ?_
          refine xy_r (xw_aload_n dM_move_287 rfl) ?_
          obtain ⟨r1706, er1706, hF⟩ := xg_b hF
          have hm1707 : m0 ≤ r1706.2.2.1.2.2.2.2.2.2.1 ∧ n0 ≤ r1706.2.2.1.2.2.2.2.2.2.2 := xy_le hm (show s.2.2.1.2.2.2.2.2.2.1 ≤ r1706.2.2.1.2.2.2.2.2.2.1 ∧ s.2.2.1.2.2.2.2.2.2.2 ≤ r1706.2.2.1.2.2.2.2.2.2.2 from (CM_lost (w := w) (h := h) hb (s := s) er1706).1)
          refine xy_V0 (nl := 2) (sm := s.2.2.1.2.2.2.2.2.2.1) (sn := s.2.2.1.2.2.2.2.2.2.2) (tm := r1706.2.2.1.2.2.2.2.2.2.1) (tn := r1706.2.2.1.2.2.2.2.2.2.2) (CM_lost hb (s := s) er1706) rfl rfl hm (fun _ => rfl) (fun _ => rfl) (fun _ => rfl) (fun _ => dM_move_288) (fun _ R => kM_470 R) (fun _ => rfl) ⟨by omega, by omega⟩ rfl rfl rfl (fun _ => rfl) (Nat.le_of_ble_eq_true rfl) ?_
          obtain rfl := Option.some.inj hF
          exact xy_end (xw_return dM_move_291 rfl (Nat.le_refl _) (Nat.le_refl _) ⟨rfl, rfl⟩)
    · replace hF := xg_f c1697 hF
      refine xy_r (xw_iload_n dM_move_259 rfl) ?_
      refine xy_r (xw_iconst (1) dM_move_260 (by decide)) ?_
      refine xy_r (xw_isub dM_move_261) ?_
      refine xy_r (xw_goto 270 dM_move_262 (by decide)) ?_
      refine xy_r (xw_istore dM_move_270 (Nat.le_of_ble_eq_true rfl)) ?_
      refine xy_r (xw_Ln (L' := [some (.ref 2000), some (.ref (xn l1)), some (.int (xb l2)), some (.int l3), some (.int l4), none, some (.int l6), none, some (.int l8), some (.int t0), some (.int (l3 - 1))]) rfl) ?_
      refine xy_r (xw_iload dM_move_272 rfl) ?_
      refine xy_r (xw_iload dM_move_274 rfl) ?_
      refine xy_br (xw_icmp_ge 286 dM_move_276 (by decide)) (fun c1709 => ?_) (fun c1709 => ?_)
      · replace hF := xg_t c1709 hF
        refine xy_r (xw_aload_n dM_move_286 rfl) ?_
        refine xy_r (xw_aload_n dM_move_287 rfl) ?_
        obtain ⟨r1710, er1710, hF⟩ := xg_b hF
        have hm1711 : m0 ≤ r1710.2.2.1.2.2.2.2.2.2.1 ∧ n0 ≤ r1710.2.2.1.2.2.2.2.2.2.2 := xy_le hm (show s.2.2.1.2.2.2.2.2.2.1 ≤ r1710.2.2.1.2.2.2.2.2.2.1 ∧ s.2.2.1.2.2.2.2.2.2.2 ≤ r1710.2.2.1.2.2.2.2.2.2.2 from (CM_lost (w := w) (h := h) hb (s := s) er1710).1)
        refine xy_V0 (nl := 2) (sm := s.2.2.1.2.2.2.2.2.2.1) (sn := s.2.2.1.2.2.2.2.2.2.2) (tm := r1710.2.2.1.2.2.2.2.2.2.1) (tn := r1710.2.2.1.2.2.2.2.2.2.2) (CM_lost hb (s := s) er1710) rfl rfl hm (fun _ => rfl) (fun _ => rfl) (fun _ => rfl) (fun _ => dM_move_288) (fun _ R => kM_470 R) (fun _ => rfl) ⟨by omega, by omega⟩ rfl rfl rfl (fun _ => rfl) (Nat.le_of_ble_eq_true rfl) ?_
        obtain rfl := Option.some.inj hF
        exact xy_end (xw_return dM_move_291 rfl (Nat.le_refl _) (Nat.le_refl _) ⟨rfl, rfl⟩)
      · replace hF := xg_f c1709 hF
        refine xy_r (xw_iload dM_move_279 rfl) ?_
        refine xy_r (xw_iload dM_move_281 rfl) ?_
        refine xy_br (xw_icmp_le 292 dM_move_283 (by decide)) (fun c1713 => ?_) (fun c1713 => ?_)
        · replace hF := xg_t c1713 hF
          refine xy_r (xw_iload_n dM_move_292 rfl) ?_
          refine xy_brn (xw_if_eqB 311 dM_move_293 (by decide)) (fun c1714 => ?_) (fun c1714 => ?_)
          · replace hF := xg_f c1714 hF
            refine xy_r (xw_aload_n dM_move_311 rfl) ?_
            refine xy_r (xw_iload dM_move_312 rfl) ?_
            obtain ⟨g1715, hF⟩ := xg_g hF
            refine xy_r (xg_put dM_move_314 fM_368 (mV_n g1715) (xn_le _) (Nat.le_of_ble_eq_true rfl) (fun _ => rfl) (fun _ => rfl) (mV_e (s' := (s.1, s.2.1, (s.2.2.1.1, s.2.2.1.2.1, s.2.2.1.2.2.1, s.2.2.1.2.2.2.1, s.2.2.1.2.2.2.2.1, (va_up s.2.2.1.2.2.2.2.2.1 l1 (nRow (s.2.2.1.2.2.2.2.2.1 l1) t0)), s.2.2.1.2.2.2.2.2.2), s.2.2.2)) (mV_pn (q := (nRow (s.2.2.1.2.2.2.2.2.1 l1) t0)) g1715) rfl)) ?_
            refine xy_r (xw_aload_n dM_move_317 rfl) ?_
            refine xy_r (xw_iload dM_move_318 rfl) ?_
            refine xy_r (xg_put dM_move_320 fM_389 (mV_nu (va_up_self _ _ _) g1715) (xn_le _) (Nat.le_of_ble_eq_true rfl) (fun _ => rfl) (fun _ => rfl) (mV_e (s' := (s.1, s.2.1, (s.2.2.1.1, s.2.2.1.2.1, s.2.2.1.2.2.1, s.2.2.1.2.2.2.1, s.2.2.1.2.2.2.2.1, (va_up s.2.2.1.2.2.2.2.2.1 l1 (nLr (nRow (s.2.2.1.2.2.2.2.2.1 l1) t0) (l3 - 1))), s.2.2.1.2.2.2.2.2.2), s.2.2.2)) (mV_pu (q := (nLr (nRow (s.2.2.1.2.2.2.2.2.1 l1) t0) (l3 - 1))) g1715 (va_up_up _ _ _ _)) rfl)) ?_
            obtain rfl := Option.some.inj hF
            exact xy_end (xw_return dM_move_323 rfl (Nat.le_refl _) (Nat.le_refl _) ⟨rfl, rfl⟩)
          · replace hF := xg_t c1714 hF
            refine xy_r (xw_aload_n dM_move_296 rfl) ?_
            refine xy_r (xw_iload dM_move_297 rfl) ?_
            obtain ⟨g1716, hF⟩ := xg_g hF
            refine xy_r (xg_put dM_move_299 fM_371 (mV_n g1716) (xn_le _) (Nat.le_of_ble_eq_true rfl) (fun _ => rfl) (fun _ => rfl) (mV_e (s' := (s.1, s.2.1, (s.2.2.1.1, s.2.2.1.2.1, s.2.2.1.2.2.1, s.2.2.1.2.2.2.1, s.2.2.1.2.2.2.2.1, (va_up s.2.2.1.2.2.2.2.2.1 l1 (nCol (s.2.2.1.2.2.2.2.2.1 l1) t0)), s.2.2.1.2.2.2.2.2.2), s.2.2.2)) (mV_pn (q := (nCol (s.2.2.1.2.2.2.2.2.1 l1) t0)) g1716) rfl)) ?_
            refine xy_r (xw_aload_n dM_move_302 rfl) ?_
            refine xy_r (xw_iload dM_move_303 rfl) ?_
            refine xy_r (xg_put dM_move_305 fM_398 (mV_nu (va_up_self _ _ _) g1716) (xn_le _) (Nat.le_of_ble_eq_true rfl) (fun _ => rfl) (fun _ => rfl) (mV_e (s' := (s.1, s.2.1, (s.2.2.1.1, s.2.2.1.2.1, s.2.2.1.2.2.1, s.2.2.1.2.2.2.1, s.2.2.1.2.2.2.2.1, (va_up s.2.2.1.2.2.2.2.2.1 l1 (nLc (nCol (s.2.2.1.2.2.2.2.2.1 l1) t0) (l3 - 1))), s.2.2.1.2.2.2.2.2.2), s.2.2.2)) (mV_pu (q := (nLc (nCol (s.2.2.1.2.2.2.2.2.1 l1) t0) (l3 - 1))) g1716 (va_up_up _ _ _ _)) rfl)) ?_
            refine xy_r (xw_goto 323 dM_move_308 (by decide)) ?_
            obtain rfl := Option.some.inj hF
            exact xy_end (xw_return dM_move_323 rfl (Nat.le_refl _) (Nat.le_refl _) ⟨rfl, rfl⟩)
        · replace hF := xg_f c1713 hF
          refine xy_r (xw_aload_n dM_move_286 rfl) ?_
          refine xy_r (xw_aload_n dM_move_287 rfl) ?_
          obtain ⟨r1717, er1717, hF⟩ := xg_b hF
          have hm1718 : m0 ≤ r1717.2.2.1.2.2.2.2.2.2.1 ∧ n0 ≤ r1717.2.2.1.2.2.2.2.2.2.2 := xy_le hm (show s.2.2.1.2.2.2.2.2.2.1 ≤ r1717.2.2.1.2.2.2.2.2.2.1 ∧ s.2.2.1.2.2.2.2.2.2.2 ≤ r1717.2.2.1.2.2.2.2.2.2.2 from (CM_lost (w := w) (h := h) hb (s := s) er1717).1)
          refine xy_V0 (nl := 2) (sm := s.2.2.1.2.2.2.2.2.2.1) (sn := s.2.2.1.2.2.2.2.2.2.2) (tm := r1717.2.2.1.2.2.2.2.2.2.1) (tn := r1717.2.2.1.2.2.2.2.2.2.2) (CM_lost hb (s := s) er1717) rfl rfl hm (fun _ => rfl) (fun _ => rfl) (fun _ => rfl) (fun _ => dM_move_288) (fun _ R => kM_470 R) (fun _ => rfl) ⟨by omega, by omega⟩ rfl rfl rfl (fun _ => rfl) (Nat.le_of_ble_eq_true rfl) ?_
          obtain rfl := Option.some.inj hF
          exact xy_end (xw_return dM_move_291 rfl (Nat.le_refl _) (Nat.le_refl _) ⟨rfl, rfl⟩)
  · replace hF := xg_f c1696 hF
    refine xy_r (xw_iload dM_move_245 rfl) ?_
    refine xy_r (xw_goto 270 dM_move_247 (by decide)) ?_
    refine xy_r (xw_istore dM_move_270 (Nat.le_of_ble_eq_true rfl)) ?_
    refine xy_r (xw_Ln (L' := [some (.ref 2000), some (.ref (xn l1)), some (.int (xb l2)), some (.int l3), some (.int l4), none, some (.int l6), none, some (.int l8), some (.int t0), some (.int l8)]) rfl) ?_
    refine xy_r (xw_iload dM_move_272 rfl) ?_
    refine xy_r (xw_iload dM_move_274 rfl) ?_
    refine xy_br (xw_icmp_ge 286 dM_move_276 (by decide)) (fun c1720 => ?_) (fun c1720 => ?_)
    · replace hF := xg_t c1720 hF
      refine xy_r (xw_aload_n dM_move_286 rfl) ?_
      refine xy_r (xw_aload_n dM_move_287 rfl) ?_
      obtain ⟨r1721, er1721, hF⟩ := xg_b hF
      have hm1722 : m0 ≤ r1721.2.2.1.2.2.2.2.2.2.1 ∧ n0 ≤ r1721.2.2.1.2.2.2.2.2.2.2 := xy_le hm (show s.2.2.1.2.2.2.2.2.2.1 ≤ r1721.2.2.1.2.2.2.2.2.2.1 ∧ s.2.2.1.2.2.2.2.2.2.2 ≤ r1721.2.2.1.2.2.2.2.2.2.2 from (CM_lost (w := w) (h := h) hb (s := s) er1721).1)
      refine xy_V0 (nl := 2) (sm := s.2.2.1.2.2.2.2.2.2.1) (sn := s.2.2.1.2.2.2.2.2.2.2) (tm := r1721.2.2.1.2.2.2.2.2.2.1) (tn := r1721.2.2.1.2.2.2.2.2.2.2) (CM_lost hb (s := s) er1721) rfl rfl hm (fun _ => rfl) (fun _ => rfl) (fun _ => rfl) (fun _ => dM_move_288) (fun _ R => kM_470 R) (fun _ => rfl) ⟨by omega, by omega⟩ rfl rfl rfl (fun _ => rfl) (Nat.le_of_ble_eq_true rfl) ?_
      obtain rfl := Option.some.inj hF
      exact xy_end (xw_return dM_move_291 rfl (Nat.le_refl _) (Nat.le_refl _) ⟨rfl, rfl⟩)
    · replace hF := xg_f c1720 hF
      refine xy_r (xw_iload dM_move_279 rfl) ?_
      refine xy_r (xw_iload dM_move_281 rfl) ?_
      refine xy_br (xw_icmp_le 292 dM_move_283 (by decide)) (fun c1724 => ?_) (fun c1724 => ?_)
      · replace hF := xg_t c1724 hF
        refine xy_r (xw_iload_n dM_move_292 rfl) ?_
        refine xy_brn (xw_if_eqB 311 dM_move_293 (by decide)) (fun c1725 => ?_) (fun c1725 => ?_)
        · replace hF := xg_f c1725 hF
          refine xy_r (xw_aload_n dM_move_311 rfl) ?_
          refine xy_r (xw_iload dM_move_312 rfl) ?_
          obtain ⟨g1726, hF⟩ := xg_g hF
          refine xy_r (xg_put dM_move_314 fM_368 (mV_n g1726) (xn_le _) (Nat.le_of_ble_eq_true rfl) (fun _ => rfl) (fun _ => rfl) (mV_e (s' := (s.1, s.2.1, (s.2.2.1.1, s.2.2.1.2.1, s.2.2.1.2.2.1, s.2.2.1.2.2.2.1, s.2.2.1.2.2.2.2.1, (va_up s.2.2.1.2.2.2.2.2.1 l1 (nRow (s.2.2.1.2.2.2.2.2.1 l1) t0)), s.2.2.1.2.2.2.2.2.2), s.2.2.2)) (mV_pn (q := (nRow (s.2.2.1.2.2.2.2.2.1 l1) t0)) g1726) rfl)) ?_
          refine xy_r (xw_aload_n dM_move_317 rfl) ?_
          refine xy_r (xw_iload dM_move_318 rfl) ?_
          refine xy_r (xg_put dM_move_320 fM_389 (mV_nu (va_up_self _ _ _) g1726) (xn_le _) (Nat.le_of_ble_eq_true rfl) (fun _ => rfl) (fun _ => rfl) (mV_e (s' := (s.1, s.2.1, (s.2.2.1.1, s.2.2.1.2.1, s.2.2.1.2.2.1, s.2.2.1.2.2.2.1, s.2.2.1.2.2.2.2.1, (va_up s.2.2.1.2.2.2.2.2.1 l1 (nLr (nRow (s.2.2.1.2.2.2.2.2.1 l1) t0) l8)), s.2.2.1.2.2.2.2.2.2), s.2.2.2)) (mV_pu (q := (nLr (nRow (s.2.2.1.2.2.2.2.2.1 l1) t0) l8)) g1726 (va_up_up _ _ _ _)) rfl)) ?_
          obtain rfl := Option.some.inj hF
          exact xy_end (xw_return dM_move_323 rfl (Nat.le_refl _) (Nat.le_refl _) ⟨rfl, rfl⟩)
        · replace hF := xg_t c1725 hF
          refine xy_r (xw_aload_n dM_move_296 rfl) ?_
          refine xy_r (xw_iload dM_move_297 rfl) ?_
          obtain ⟨g1727, hF⟩ := xg_g hF
          refine xy_r (xg_put dM_move_299 fM_371 (mV_n g1727) (xn_le _) (Nat.le_of_ble_eq_true rfl) (fun _ => rfl) (fun _ => rfl) (mV_e (s' := (s.1, s.2.1, (s.2.2.1.1, s.2.2.1.2.1, s.2.2.1.2.2.1, s.2.2.1.2.2.2.1, s.2.2.1.2.2.2.2.1, (va_up s.2.2.1.2.2.2.2.2.1 l1 (nCol (s.2.2.1.2.2.2.2.2.1 l1) t0)), s.2.2.1.2.2.2.2.2.2), s.2.2.2)) (mV_pn (q := (nCol (s.2.2.1.2.2.2.2.2.1 l1) t0)) g1727) rfl)) ?_
          refine xy_r (xw_aload_n dM_move_302 rfl) ?_
          refine xy_r (xw_iload dM_move_303 rfl) ?_
          refine xy_r (xg_put dM_move_305 fM_398 (mV_nu (va_up_self _ _ _) g1727) (xn_le _) (Nat.le_of_ble_eq_true rfl) (fun _ => rfl) (fun _ => rfl) (mV_e (s' := (s.1, s.2.1, (s.2.2.1.1, s.2.2.1.2.1, s.2.2.1.2.2.1, s.2.2.1.2.2.2.1, s.2.2.1.2.2.2.2.1, (va_up s.2.2.1.2.2.2.2.2.1 l1 (nLc (nCol (s.2.2.1.2.2.2.2.2.1 l1) t0) l8)), s.2.2.1.2.2.2.2.2.2), s.2.2.2)) (mV_pu (q := (nLc (nCol (s.2.2.1.2.2.2.2.2.1 l1) t0) l8)) g1727 (va_up_up _ _ _ _)) rfl)) ?_
          refine xy_r (xw_goto 323 dM_move_308 (by decide)) ?_
          obtain rfl := Option.some.inj hF
          exact xy_end (xw_return dM_move_323 rfl (Nat.le_refl _) (Nat.le_refl _) ⟨rfl, rfl⟩)
      · replace hF := xg_f c1724 hF
        refine xy_r (xw_aload_n dM_move_286 rfl) ?_
        refine xy_r (xw_aload_n dM_move_287 rfl) ?_
        obtain ⟨r1728, er1728, hF⟩ := xg_b hF
        have hm1729 : m0 ≤ r1728.2.2.1.2.2.2.2.2.2.1 ∧ n0 ≤ r1728.2.2.1.2.2.2.2.2.2.2 := xy_le hm (show s.2.2.1.2.2.2.2.2.2.1 ≤ r1728.2.2.1.2.2.2.2.2.2.1 ∧ s.2.2.1.2.2.2.2.2.2.2 ≤ r1728.2.2.1.2.2.2.2.2.2.2 from (CM_lost (w := w) (h := h) hb (s := s) er1728).1)
        refine xy_V0 (nl := 2) (sm := s.2.2.1.2.2.2.2.2.2.1) (sn := s.2.2.1.2.2.2.2.2.2.2) (tm := r1728.2.2.1.2.2.2.2.2.2.1) (tn := r1728.2.2.1.2.2.2.2.2.2.2) (CM_lost hb (s := s) er1728) rfl rfl hm (fun _ => rfl) (fun _ => rfl) (fun _ => rfl) (fun _ => dM_move_288) (fun _ R => kM_470 R) (fun _ => rfl) ⟨by omega, by omega⟩ rfl rfl rfl (fun _ => rfl) (Nat.le_of_ble_eq_true rfl) ?_
        obtain rfl := Option.some.inj hF
        exact xy_end (xw_return dM_move_291 rfl (Nat.le_refl _) (Nat.le_refl _) ⟨rfl, rfl⟩)
set_option maxRecDepth 20000 in
theorem CM_move_178 {w : xw_G} {p : xTV} {d : Nat} (hp : xKV w p d) {h : xw_H} (hb : xMb h)  {l1 : Nat} {l2 : Bool} {l3 : Int32} {l4 : Int32} {l6 : Int32} {l8 : Int32} {t0 : Int32} {s : xMs} {out : xMs} {h0 : xw_H} {m0 n0 : Nat} (hm : m0 ≤ s.2.2.1.2.2.2.2.2.2.1 ∧ n0 ≤ s.2.2.1.2.2.2.2.2.2.2) (hF : FM_move_178 p l1 l2 l3 l4 l6 l8 t0 s = some out) : xw_Y w mM_move (d + 1 + 20) (60 * (d + 1) + 600) (xw_R none (mV out h)) h0 m0 n0 s.2.2.1.2.2.2.2.2.2.1 s.2.2.1.2.2.2.2.2.2.2 out.2.2.1.2.2.2.2.2.2.1 out.2.2.1.2.2.2.2.2.2.2 178 [some (.ref 2000), some (.ref (xn l1)), some (.int (xb l2)), some (.int l3), some (.int l4), none, some (.int l6), none, some (.int l8), none, none] [.int t0] (mV s h) := by
  unfold FM_move_178 at hF
  refine xy_r (xw_istore dM_move_178 (Nat.le_of_ble_eq_true rfl)) ?_
  refine xy_r (xw_Ln (L' := [some (.ref 2000), some (.ref (xn l1)), some (.int (xb l2)), some (.int l3), some (.int l4), none, some (.int l6), none, some (.int l8), some (.int t0), none]) rfl) ?_
  refine xy_r (xw_iload dM_move_180 rfl) ?_
  refine xy_r (xw_iload_n dM_move_182 rfl) ?_
  refine xy_br (xw_icmp_ge 191 dM_move_183 (by decide)) (fun c1732 => ?_) (fun c1732 => ?_)
  · replace hF := xg_t c1732 hF
    refine xy_r (xw_iload dM_move_191 rfl) ?_
    refine xy_r (xw_iload dM_move_193 rfl) ?_
    refine xy_r (xw_iadd dM_move_195) ?_
    refine xy_r (xw_iload dM_move_196 rfl) ?_
    refine xy_r (xw_iconst (1) dM_move_198 (by decide)) ?_
    refine xy_r (xw_isub dM_move_199) ?_
    refine xy_q (fun hq => xw_mmin dM_move_200 tw_1268 (Nat.le_of_ble_eq_true rfl) (Nat.le_of_ble_eq_true rfl) (Nat.sub_le_sub_right hq.1 _) (Nat.sub_le_sub_right hq.2 _)) ?_
    refine xy_r (xw_istore dM_move_203 (Nat.le_of_ble_eq_true rfl)) ?_
    refine xy_r (xw_Ln (L' := [some (.ref 2000), some (.ref (xn l1)), some (.int (xb l2)), some (.int l3), some (.int l4), none, some (.int l6), none, some (.int l8), some (.int t0), some (.int (if (l6 - 1) < (l8 + l4) then (l6 - 1) else (l8 + l4)))]) rfl) ?_
    refine xy_r (xw_goto 272 dM_move_205 (by decide)) ?_
    refine xy_r (xw_iload dM_move_272 rfl) ?_
    refine xy_r (xw_iload dM_move_274 rfl) ?_
    refine xy_br (xw_icmp_ge 286 dM_move_276 (by decide)) (fun c1733 => ?_) (fun c1733 => ?_)
    · replace hF := xg_t c1733 hF
      refine xy_r (xw_aload_n dM_move_286 rfl) ?_
      refine xy_r (xw_aload_n dM_move_287 rfl) ?_
      obtain ⟨r1734, er1734, hF⟩ := xg_b hF
      have hm1735 : m0 ≤ r1734.2.2.1.2.2.2.2.2.2.1 ∧ n0 ≤ r1734.2.2.1.2.2.2.2.2.2.2 := xy_le hm (show s.2.2.1.2.2.2.2.2.2.1 ≤ r1734.2.2.1.2.2.2.2.2.2.1 ∧ s.2.2.1.2.2.2.2.2.2.2 ≤ r1734.2.2.1.2.2.2.2.2.2.2 from (CM_lost (w := w) (h := h) hb (s := s) er1734).1)
      refine xy_V0 (nl := 2) (sm := s.2.2.1.2.2.2.2.2.2.1) (sn := s.2.2.1.2.2.2.2.2.2.2) (tm := r1734.2.2.1.2.2.2.2.2.2.1) (tn := r1734.2.2.1.2.2.2.2.2.2.2) (CM_lost hb (s := s) er1734) rfl rfl hm (fun _ => rfl) (fun _ => rfl) (fun _ => rfl) (fun _ => dM_move_288) (fun _ R => kM_470 R) (fun _ => rfl) ⟨by omega, by omega⟩ rfl rfl rfl (fun _ => rfl) (Nat.le_of_ble_eq_true rfl) ?_
      obtain rfl := Option.some.inj hF
      exact xy_end (xw_return dM_move_291 rfl (Nat.le_refl _) (Nat.le_refl _) ⟨rfl, rfl⟩)
    · replace hF := xg_f c1733 hF
      refine xy_r (xw_iload dM_move_279 rfl) ?_
      refine xy_r (xw_iload dM_move_281 rfl) ?_
      refine xy_br (xw_icmp_le 292 dM_move_283 (by decide)) (fun c1737 => ?_) (fun c1737 => ?_)
      · replace hF := xg_t c1737 hF
        refine xy_r (xw_iload_n dM_move_292 rfl) ?_
        refine xy_brn (xw_if_eqB 311 dM_move_293 (by decide)) (fun c1738 => ?_) (fun c1738 => ?_)
        · replace hF := xg_f c1738 hF
          refine xy_r (xw_aload_n dM_move_311 rfl) ?_
          refine xy_r (xw_iload dM_move_312 rfl) ?_
          obtain ⟨g1739, hF⟩ := xg_g hF
          refine xy_r (xg_put dM_move_314 fM_368 (mV_n g1739) (xn_le _) (Nat.le_of_ble_eq_true rfl) (fun _ => rfl) (fun _ => rfl) (mV_e (s' := (s.1, s.2.1, (s.2.2.1.1, s.2.2.1.2.1, s.2.2.1.2.2.1, s.2.2.1.2.2.2.1, s.2.2.1.2.2.2.2.1, (va_up s.2.2.1.2.2.2.2.2.1 l1 (nRow (s.2.2.1.2.2.2.2.2.1 l1) t0)), s.2.2.1.2.2.2.2.2.2), s.2.2.2)) (mV_pn (q := (nRow (s.2.2.1.2.2.2.2.2.1 l1) t0)) g1739) rfl)) ?_
          refine xy_r (xw_aload_n dM_move_317 rfl) ?_
          refine xy_r (xw_iload dM_move_318 rfl) ?_
          refine xy_r (xg_put dM_move_320 fM_389 (mV_nu (va_up_self _ _ _) g1739) (xn_le _) (Nat.le_of_ble_eq_true rfl) (fun _ => rfl) (fun _ => rfl) (mV_e (s' := (s.1, s.2.1, (s.2.2.1.1, s.2.2.1.2.1, s.2.2.1.2.2.1, s.2.2.1.2.2.2.1, s.2.2.1.2.2.2.2.1, (va_up s.2.2.1.2.2.2.2.2.1 l1 (nLr (nRow (s.2.2.1.2.2.2.2.2.1 l1) t0) (if (l6 - 1) < (l8 + l4) then (l6 - 1) else (l8 + l4)))), s.2.2.1.2.2.2.2.2.2), s.2.2.2)) (mV_pu (q := (nLr (nRow (s.2.2.1.2.2.2.2.2.1 l1) t0) (if (l6 - 1) < (l8 + l4) then (l6 - 1) else (l8 + l4)))) g1739 (va_up_up _ _ _ _)) rfl)) ?_
          obtain rfl := Option.some.inj hF
          exact xy_end (xw_return dM_move_323 rfl (Nat.le_refl _) (Nat.le_refl _) ⟨rfl, rfl⟩)
        · replace hF := xg_t c1738 hF
          refine xy_r (xw_aload_n dM_move_296 rfl) ?_
          refine xy_r (xw_iload dM_move_297 rfl) ?_
          obtain ⟨g1740, hF⟩ := xg_g hF
          refine xy_r (xg_put dM_move_299 fM_371 (mV_n g1740) (xn_le _) (Nat.le_of_ble_eq_true rfl) (fun _ => rfl) (fun _ => rfl) (mV_e (s' := (s.1, s.2.1, (s.2.2.1.1, s.2.2.1.2.1, s.2.2.1.2.2.1, s.2.2.1.2.2.2.1, s.2.2.1.2.2.2.2.1, (va_up s.2.2.1.2.2.2.2.2.1 l1 (nCol (s.2.2.1.2.2.2.2.2.1 l1) t0)), s.2.2.1.2.2.2.2.2.2), s.2.2.2)) (mV_pn (q := (nCol (s.2.2.1.2.2.2.2.2.1 l1) t0)) g1740) rfl)) ?_
          refine xy_r (xw_aload_n dM_move_302 rfl) ?_
          refine xy_r (xw_iload dM_move_303 rfl) ?_
          refine xy_r (xg_put dM_move_305 fM_398 (mV_nu (va_up_self _ _ _) g1740) (xn_le _) (Nat.le_of_ble_eq_true rfl) (fun _ => rfl) (fun _ => rfl) (mV_e (s' := (s.1, s.2.1, (s.2.2.1.1, s.2.2.1.2.1, s.2.2.1.2.2.1, s.2.2.1.2.2.2.1, s.2.2.1.2.2.2.2.1, (va_up s.2.2.1.2.2.2.2.2.1 l1 (nLc (nCol (s.2.2.1.2.2.2.2.2.1 l1) t0) (if (l6 - 1) < (l8 + l4) then (l6 - 1) else (l8 + l4)))), s.2.2.1.2.2.2.2.2.2), s.2.2.2)) (mV_pu (q := (nLc (nCol (s.2.2.1.2.2.2.2.2.1 l1) t0) (if (l6 - 1) < (l8 + l4) then (l6 - 1) else (l8 + l4)))) g1740 (va_up_up _ _ _ _)) rfl)) ?_
          refine xy_r (xw_goto 323 dM_move_308 (by decide)) ?_
          obtain rfl := Option.some.inj hF
          exact xy_end (xw_return dM_move_323 rfl (Nat.le_refl _) (Nat.le_refl _) ⟨rfl, rfl⟩)
      · replace hF := xg_f c1737 hF
        refine xy_r (xw_aload_n dM_move_286 rfl) ?_
        refine xy_r (xw_aload_n dM_move_287 rfl) ?_
        obtain ⟨r1741, er1741, hF⟩ := xg_b hF
        have hm1742 : m0 ≤ r1741.2.2.1.2.2.2.2.2.2.1 ∧ n0 ≤ r1741.2.2.1.2.2.2.2.2.2.2 := xy_le hm (show s.2.2.1.2.2.2.2.2.2.1 ≤ r1741.2.2.1.2.2.2.2.2.2.1 ∧ s.2.2.1.2.2.2.2.2.2.2 ≤ r1741.2.2.1.2.2.2.2.2.2.2 from (CM_lost (w := w) (h := h) hb (s := s) er1741).1)
        refine xy_V0 (nl := 2) (sm := s.2.2.1.2.2.2.2.2.2.1) (sn := s.2.2.1.2.2.2.2.2.2.2) (tm := r1741.2.2.1.2.2.2.2.2.2.1) (tn := r1741.2.2.1.2.2.2.2.2.2.2) (CM_lost hb (s := s) er1741) rfl rfl hm (fun _ => rfl) (fun _ => rfl) (fun _ => rfl) (fun _ => dM_move_288) (fun _ R => kM_470 R) (fun _ => rfl) ⟨by omega, by omega⟩ rfl rfl rfl (fun _ => rfl) (Nat.le_of_ble_eq_true rfl) ?_
        obtain rfl := Option.some.inj hF
        exact xy_end (xw_return dM_move_291 rfl (Nat.le_refl _) (Nat.le_refl _) ⟨rfl, rfl⟩)
  · replace hF := xg_f c1732 hF
    refine xy_r (xw_iload dM_move_186 rfl) ?_
    refine xy_r (xw_goto 203 dM_move_188 (by decide)) ?_
    refine xy_r (xw_istore dM_move_203 (Nat.le_of_ble_eq_true rfl)) ?_
    refine xy_r (xw_Ln (L' := [some (.ref 2000), some (.ref (xn l1)), some (.int (xb l2)), some (.int l3), some (.int l4), none, some (.int l6), none, some (.int l8), some (.int t0), some (.int l8)]) rfl) ?_
    refine xy_r (xw_goto 272 dM_move_205 (by decide)) ?_
    refine xy_r (xw_iload dM_move_272 rfl) ?_
    refine xy_r (xw_iload dM_move_274 rfl) ?_
    refine xy_br (xw_icmp_ge 286 dM_move_276 (by decide)) (fun c1744 => ?_) (fun c1744 => ?_)
    · replace hF := xg_t c1744 hF
      refine xy_r (xw_aload_n dM_move_286 rfl) ?_
      refine xy_r (xw_aload_n dM_move_287 rfl) ?_
      obtain ⟨r1745, er1745, hF⟩ := xg_b hF
      have hm1746 : m0 ≤ r1745.2.2.1.2.2.2.2.2.2.1 ∧ n0 ≤ r1745.2.2.1.2.2.2.2.2.2.2 := xy_le hm (show s.2.2.1.2.2.2.2.2.2.1 ≤ r1745.2.2.1.2.2.2.2.2.2.1 ∧ s.2.2.1.2.2.2.2.2.2.2 ≤ r1745.2.2.1.2.2.2.2.2.2.2 from (CM_lost (w := w) (h := h) hb (s := s) er1745).1)
      refine xy_V0 (nl := 2) (sm := s.2.2.1.2.2.2.2.2.2.1) (sn := s.2.2.1.2.2.2.2.2.2.2) (tm := r1745.2.2.1.2.2.2.2.2.2.1) (tn := r1745.2.2.1.2.2.2.2.2.2.2) (CM_lost hb (s := s) er1745) rfl rfl hm (fun _ => rfl) (fun _ => rfl) (fun _ => rfl) (fun _ => dM_move_288) (fun _ R => kM_470 R) (fun _ => rfl) ⟨by omega, by omega⟩ rfl rfl rfl (fun _ => rfl) (Nat.le_of_ble_eq_true rfl) ?_
      obtain rfl := Option.some.inj hF
      exact xy_end (xw_return dM_move_291 rfl (Nat.le_refl _) (Nat.le_refl _) ⟨rfl, rfl⟩)
    · replace hF := xg_f c1744 hF
      refine xy_r (xw_iload dM_move_279 rfl) ?_
      refine xy_r (xw_iload dM_move_281 rfl) ?_
      refine xy_br (xw_icmp_le 292 dM_move_283 (by decide)) (fun c1748 => ?_) (fun c1748 => ?_)
      · replace hF := xg_t c1748 hF
        refine xy_r (xw_iload_n dM_move_292 rfl) ?_
        refine xy_brn (xw_if_eqB 311 dM_move_293 (by decide)) (fun c1749 => ?_) (fun c1749 => ?_)
        · replace hF := xg_f c1749 hF
          refine xy_r (xw_aload_n dM_move_311 rfl) ?_
          refine xy_r (xw_iload dM_move_312 rfl) ?_
          obtain ⟨g1750, hF⟩ := xg_g hF
          refine xy_r (xg_put dM_move_314 fM_368 (mV_n g1750) (xn_le _) (Nat.le_of_ble_eq_true rfl) (fun _ => rfl) (fun _ => rfl) (mV_e (s' := (s.1, s.2.1, (s.2.2.1.1, s.2.2.1.2.1, s.2.2.1.2.2.1, s.2.2.1.2.2.2.1, s.2.2.1.2.2.2.2.1, (va_up s.2.2.1.2.2.2.2.2.1 l1 (nRow (s.2.2.1.2.2.2.2.2.1 l1) t0)), s.2.2.1.2.2.2.2.2.2), s.2.2.2)) (mV_pn (q := (nRow (s.2.2.1.2.2.2.2.2.1 l1) t0)) g1750) rfl)) ?_
          refine xy_r (xw_aload_n dM_move_317 rfl) ?_
          refine xy_r (xw_iload dM_move_318 rfl) ?_
          refine xy_r (xg_put dM_move_320 fM_389 (mV_nu (va_up_self _ _ _) g1750) (xn_le _) (Nat.le_of_ble_eq_true rfl) (fun _ => rfl) (fun _ => rfl) (mV_e (s' := (s.1, s.2.1, (s.2.2.1.1, s.2.2.1.2.1, s.2.2.1.2.2.1, s.2.2.1.2.2.2.1, s.2.2.1.2.2.2.2.1, (va_up s.2.2.1.2.2.2.2.2.1 l1 (nLr (nRow (s.2.2.1.2.2.2.2.2.1 l1) t0) l8)), s.2.2.1.2.2.2.2.2.2), s.2.2.2)) (mV_pu (q := (nLr (nRow (s.2.2.1.2.2.2.2.2.1 l1) t0) l8)) g1750 (va_up_up _ _ _ _)) rfl)) ?_
          obtain rfl := Option.some.inj hF
          exact xy_end (xw_return dM_move_323 rfl (Nat.le_refl _) (Nat.le_refl _) ⟨rfl, rfl⟩)
        · replace hF := xg_t c1749 hF
          refine xy_r (xw_aload_n dM_move_296 rfl) ?_
          refine xy_r (xw_iload dM_move_297 rfl) ?_
          obtain ⟨g1751, hF⟩ := xg_g hF
          refine xy_r (xg_put dM_move_299 fM_371 (mV_n g1751) (xn_le _) (Nat.le_of_ble_eq_true rfl) (fun _ => rfl) (fun _ => rfl) (mV_e (s' := (s.1, s.2.1, (s.2.2.1.1, s.2.2.1.2.1, s.2.2.1.2.2.1, s.2.2.1.2.2.2.1, s.2.2.1.2.2.2.2.1, (va_up s.2.2.1.2.2.2.2.2.1 l1 (nCol (s.2.2.1.2.2.2.2.2.1 l1) t0)), s.2.2.1.2.2.2.2.2.2), s.2.2.2)) (mV_pn (q := (nCol (s.2.2.1.2.2.2.2.2.1 l1) t0)) g1751) rfl)) ?_
          refine xy_r (xw_aload_n dM_move_302 rfl) ?_
          refine xy_r (xw_iload dM_move_303 rfl) ?_
          refine xy_r (xg_put dM_move_305 fM_398 (mV_nu (va_up_self _ _ _) g1751) (xn_le _) (Nat.le_of_ble_eq_true rfl) (fun _ => rfl) (fun _ => rfl) (mV_e (s' := (s.1, s.2.1, (s.2.2.1.1, s.2.2.1.2.1, s.2.2.1.2.2.1, s.2.2.1.2.2.2.1, s.2.2.1.2.2.2.2.1, (va_up s.2.2.1.2.2.2.2.2.1 l1 (nLc (nCol (s.2.2.1.2.2.2.2.2.1 l1) t0) l8)), s.2.2.1.2.2.2.2.2.2), s.2.2.2)) (mV_pu (q := (nLc (nCol (s.2.2.1.2.2.2.2.2.1 l1) t0) l8)) g1751 (va_up_up _ _ _ _)) rfl)) ?_
          refine xy_r (xw_goto 323 dM_move_308 (by decide)) ?_
          obtain rfl := Option.some.inj hF
          exact xy_end (xw_return dM_move_323 rfl (Nat.le_refl _) (Nat.le_refl _) ⟨rfl, rfl⟩)
      · replace hF := xg_f c1748 hF
        refine xy_r (xw_aload_n dM_move_286 rfl) ?_
        refine xy_r (xw_aload_n dM_move_287 rfl) ?_
        obtain ⟨r1752, er1752, hF⟩ := xg_b hF
        have hm1753 : m0 ≤ r1752.2.2.1.2.2.2.2.2.2.1 ∧ n0 ≤ r1752.2.2.1.2.2.2.2.2.2.2 := xy_le hm (show s.2.2.1.2.2.2.2.2.2.1 ≤ r1752.2.2.1.2.2.2.2.2.2.1 ∧ s.2.2.1.2.2.2.2.2.2.2 ≤ r1752.2.2.1.2.2.2.2.2.2.2 from (CM_lost (w := w) (h := h) hb (s := s) er1752).1)
        refine xy_V0 (nl := 2) (sm := s.2.2.1.2.2.2.2.2.2.1) (sn := s.2.2.1.2.2.2.2.2.2.2) (tm := r1752.2.2.1.2.2.2.2.2.2.1) (tn := r1752.2.2.1.2.2.2.2.2.2.2) (CM_lost hb (s := s) er1752) rfl rfl hm (fun _ => rfl) (fun _ => rfl) (fun _ => rfl) (fun _ => dM_move_288) (fun _ R => kM_470 R) (fun _ => rfl) ⟨by omega, by omega⟩ rfl rfl rfl (fun _ => rfl) (Nat.le_of_ble_eq_true rfl) ?_
        obtain rfl := Option.some.inj hF
        exact xy_end (xw_return dM_move_291 rfl (Nat.le_refl _) (Nat.le_refl _) ⟨rfl, rfl⟩)
set_option maxRecDepth 20000 in
theorem CM_move_155 {w : xw_G} {p : xTV} {d : Nat} (hp : xKV w p d) {h : xw_H} (hb : xMb h)  {l1 : Nat} {l2 : Bool} {l3 : Int32} {l4 : Int32} {l5 : Bool} {l6 : Int32} {l7 : Int32} {t0 : Int32} {s : xMs} {out : xMs} {h0 : xw_H} {m0 n0 : Nat} (hm : m0 ≤ s.2.2.1.2.2.2.2.2.2.1 ∧ n0 ≤ s.2.2.1.2.2.2.2.2.2.2) (hF : FM_move_155 p l1 l2 l3 l4 l5 l6 l7 t0 s = some out) : xw_Y w mM_move (d + 1 + 20) (60 * (d + 1) + 600) (xw_R none (mV out h)) h0 m0 n0 s.2.2.1.2.2.2.2.2.2.1 s.2.2.1.2.2.2.2.2.2.2 out.2.2.1.2.2.2.2.2.2.1 out.2.2.1.2.2.2.2.2.2.2 155 [some (.ref 2000), some (.ref (xn l1)), some (.int (xb l2)), some (.int l3), some (.int l4), some (.int (xb l5)), some (.int l6), some (.int l7), none, none, none] [.int t0] (mV s h) := by
  unfold FM_move_155 at hF
  refine xy_r (xw_istore dM_move_155 (Nat.le_of_ble_eq_true rfl)) ?_
  refine xy_r (xw_Ln (L' := [some (.ref 2000), some (.ref (xn l1)), some (.int (xb l2)), some (.int l3), some (.int l4), some (.int (xb l5)), some (.int l6), some (.int l7), some (.int t0), none, none]) rfl) ?_
  refine xy_r (xw_iload dM_move_157 rfl) ?_
  refine xy_brn (xw_if_eqB 208 dM_move_159 (by decide)) (fun c1693 => ?_) (fun c1693 => ?_)
  · replace hF := xg_f c1693 hF
    refine xy_r (xw_iload dM_move_208 rfl) ?_
    refine xy_r (xw_iload_n dM_move_210 rfl) ?_
    refine xy_br (xw_icmp_ge 219 dM_move_211 (by decide)) (fun c1694 => ?_) (fun c1694 => ?_)
    · replace hF := xg_t c1694 hF
      refine xy_r (xw_iload dM_move_219 rfl) ?_
      refine xy_r (xw_iload_n dM_move_221 rfl) ?_
      refine xy_r (xw_iload dM_move_222 rfl) ?_
      refine xy_r (xw_iadd dM_move_224) ?_
      refine xy_br (xw_icmp_ge 232 dM_move_225 (by decide)) (fun c1695 => ?_) (fun c1695 => ?_)
      · replace hF := xg_t c1695 hF
        refine xy_r (xw_iload dM_move_232 rfl) ?_
        refine xy_r (xw_iload dM_move_234 rfl) ?_
        refine xy_r (xw_isub dM_move_236) ?_
        refine xy_r (xw_drop (L' := [some (.ref 2000), some (.ref (xn l1)), some (.int (xb l2)), some (.int l3), some (.int l4), none, some (.int l6), none, some (.int t0), none, none]) ⟨rfl, ⟨rfl, ⟨rfl, ⟨rfl, ⟨rfl, ⟨rfl, ⟨rfl, trivial⟩⟩⟩⟩⟩⟩⟩) ?_
        exact CM_move_237 (hp := hp) hb (s := s) hm hF
      · replace hF := xg_f c1695 hF
        refine xy_r (xw_iload_n dM_move_228 rfl) ?_
        refine xy_r (xw_goto 237 dM_move_229 (by decide)) ?_
        refine xy_r (xw_drop (L' := [some (.ref 2000), some (.ref (xn l1)), some (.int (xb l2)), some (.int l3), some (.int l4), none, some (.int l6), none, some (.int t0), none, none]) ⟨rfl, ⟨rfl, ⟨rfl, ⟨rfl, ⟨rfl, ⟨rfl, ⟨rfl, trivial⟩⟩⟩⟩⟩⟩⟩) ?_
        exact CM_move_237 (hp := hp) hb (s := s) hm hF
    · replace hF := xg_f c1694 hF
      refine xy_r (xw_iload dM_move_214 rfl) ?_
      refine xy_r (xw_goto 237 dM_move_216 (by decide)) ?_
      refine xy_r (xw_drop (L' := [some (.ref 2000), some (.ref (xn l1)), some (.int (xb l2)), some (.int l3), some (.int l4), none, some (.int l6), none, some (.int t0), none, none]) ⟨rfl, ⟨rfl, ⟨rfl, ⟨rfl, ⟨rfl, ⟨rfl, ⟨rfl, trivial⟩⟩⟩⟩⟩⟩⟩) ?_
      exact CM_move_237 (hp := hp) hb (s := s) hm hF
  · replace hF := xg_t c1693 hF
    refine xy_r (xw_iload dM_move_162 rfl) ?_
    refine xy_r (xw_iload_n dM_move_164 rfl) ?_
    refine xy_br (xw_icmp_ge 173 dM_move_165 (by decide)) (fun c1731 => ?_) (fun c1731 => ?_)
    · replace hF := xg_t c1731 hF
      refine xy_r (xw_iload dM_move_173 rfl) ?_
      refine xy_r (xw_iload dM_move_175 rfl) ?_
      refine xy_r (xw_iadd dM_move_177) ?_
      refine xy_r (xw_drop (L' := [some (.ref 2000), some (.ref (xn l1)), some (.int (xb l2)), some (.int l3), some (.int l4), none, some (.int l6), none, some (.int t0), none, none]) ⟨rfl, ⟨rfl, ⟨rfl, ⟨rfl, ⟨rfl, ⟨rfl, ⟨rfl, trivial⟩⟩⟩⟩⟩⟩⟩) ?_
      exact CM_move_178 (hp := hp) hb (s := s) hm hF
    · replace hF := xg_f c1731 hF
      refine xy_r (xw_iload dM_move_168 rfl) ?_
      refine xy_r (xw_goto 178 dM_move_170 (by decide)) ?_
      refine xy_r (xw_drop (L' := [some (.ref 2000), some (.ref (xn l1)), some (.int (xb l2)), some (.int l3), some (.int l4), none, some (.int l6), none, some (.int t0), none, none]) ⟨rfl, ⟨rfl, ⟨rfl, ⟨rfl, ⟨rfl, ⟨rfl, ⟨rfl, trivial⟩⟩⟩⟩⟩⟩⟩) ?_
      exact CM_move_178 (hp := hp) hb (s := s) hm hF
set_option maxRecDepth 20000 in
theorem CM_move_138 {w : xw_G} {p : xTV} {d : Nat} (hp : xKV w p d) {h : xw_H} (hb : xMb h)  {l1 : Nat} {l2 : Bool} {l3 : Int32} {l4 : Int32} {l5 : Bool} {l6 : Int32} {t0 : Int32} {s : xMs} {out : xMs} {h0 : xw_H} {m0 n0 : Nat} (hm : m0 ≤ s.2.2.1.2.2.2.2.2.2.1 ∧ n0 ≤ s.2.2.1.2.2.2.2.2.2.2) (hF : FM_move_138 p l1 l2 l3 l4 l5 l6 t0 s = some out) : xw_Y w mM_move (d + 1 + 20) (60 * (d + 1) + 600) (xw_R none (mV out h)) h0 m0 n0 s.2.2.1.2.2.2.2.2.2.1 s.2.2.1.2.2.2.2.2.2.2 out.2.2.1.2.2.2.2.2.2.1 out.2.2.1.2.2.2.2.2.2.2 138 [some (.ref 2000), some (.ref (xn l1)), some (.int (xb l2)), some (.int l3), some (.int l4), some (.int (xb l5)), some (.int l6), none, none, none, none] [.int t0] (mV s h) := by
  unfold FM_move_138 at hF
  refine xy_r (xw_istore dM_move_138 (Nat.le_of_ble_eq_true rfl)) ?_
  refine xy_r (xw_Ln (L' := [some (.ref 2000), some (.ref (xn l1)), some (.int (xb l2)), some (.int l3), some (.int l4), some (.int (xb l5)), some (.int l6), some (.int t0), none, none, none]) rfl) ?_
  refine xy_r (xw_iload_n dM_move_140 rfl) ?_
  refine xy_brn (xw_if_eqB 151 dM_move_141 (by decide)) (fun c1691 => ?_) (fun c1691 => ?_)
  · replace hF := xg_f c1691 hF
    refine xy_r (xw_aload_n dM_move_151 rfl) ?_
    obtain ⟨g1692, hF⟩ := xg_g hF
    refine xy_r (xw_get dM_move_152 fM_389 (mV_n g1692) rfl) ?_
    exact CM_move_155 (hp := hp) hb (s := s) hm hF
  · replace hF := xg_t c1691 hF
    refine xy_r (xw_aload_n dM_move_144 rfl) ?_
    obtain ⟨g1755, hF⟩ := xg_g hF
    refine xy_r (xw_get dM_move_145 fM_398 (mV_n g1755) rfl) ?_
    refine xy_r (xw_goto 155 dM_move_148 (by decide)) ?_
    exact CM_move_155 (hp := hp) hb (s := s) hm hF
set_option maxRecDepth 20000 in
theorem CM_move_114 {w : xw_G} {p : xTV} {d : Nat} (hp : xKV w p d) {h : xw_H} (hb : xMb h)  {l1 : Nat} {l2 : Bool} {l3 : Int32} {l4 : Int32} {l5 : Bool} {l6 : Int32} {s : xMs} {out : xMs} {h0 : xw_H} {m0 n0 : Nat} (hm : m0 ≤ s.2.2.1.2.2.2.2.2.2.1 ∧ n0 ≤ s.2.2.1.2.2.2.2.2.2.2) (hF : FM_move_114 p l1 l2 l3 l4 l5 l6 s = some out) : xw_Y w mM_move (d + 1 + 20) (60 * (d + 1) + 600) (xw_R none (mV out h)) h0 m0 n0 s.2.2.1.2.2.2.2.2.2.1 s.2.2.1.2.2.2.2.2.2.2 out.2.2.1.2.2.2.2.2.2.1 out.2.2.1.2.2.2.2.2.2.2 114 [some (.ref 2000), some (.ref (xn l1)), some (.int (xb l2)), some (.int l3), some (.int l4), some (.int (xb l5)), some (.int l6), none, none, none, none] [] (mV s h) := by
  unfold FM_move_114 at hF
  refine xy_r (xw_aload_n dM_move_114 rfl) ?_
  obtain ⟨g1688, hF⟩ := xg_g hF
  refine xy_r (xw_get dM_move_115 fM_192 (mV_n g1688) rfl) ?_
  refine xy_r (xw_iconst (5) dM_move_118 (by decide)) ?_
  refine xy_br (xw_icmp_eq 123 dM_move_119 (by decide)) (fun c1689 => ?_) (fun c1689 => ?_)
  · replace hF := xg_t c1689 hF
    refine xy_r (xw_iload_n dM_move_123 rfl) ?_
    refine xy_brn (xw_if_eqB 134 dM_move_124 (by decide)) (fun c1690 => ?_) (fun c1690 => ?_)
    · replace hF := xg_f c1690 hF
      refine xy_r (xw_aload_n dM_move_134 rfl) ?_
      refine xy_r (xw_get dM_move_135 fM_368 (mV_n g1688) rfl) ?_
      exact CM_move_138 (hp := hp) hb (s := s) hm hF
    · replace hF := xg_t c1690 hF
      refine xy_r (xw_aload_n dM_move_127 rfl) ?_
      refine xy_r (xw_get dM_move_128 fM_371 (mV_n g1688) rfl) ?_
      refine xy_r (xw_goto 138 dM_move_131 (by decide)) ?_
      exact CM_move_138 (hp := hp) hb (s := s) hm hF
  · replace hF := xg_f c1689 hF
    obtain rfl := Option.some.inj hF
    exact xy_end (xw_return dM_move_122 rfl (Nat.le_refl _) (Nat.le_refl _) ⟨rfl, rfl⟩)
set_option maxRecDepth 20000 in
theorem CM_move_70 {w : xw_G} {p : xTV} {d : Nat} (hp : xKV w p d) {h : xw_H} (hb : xMb h)  {l1 : Nat} {l2 : Bool} {l3 : Int32} {l4 : Int32} {l5 : Bool} {l6 : Int32} {t1 : Int32} {s : xMs} {out : xMs} {h0 : xw_H} {m0 n0 : Nat} (hm : m0 ≤ s.2.2.1.2.2.2.2.2.2.1 ∧ n0 ≤ s.2.2.1.2.2.2.2.2.2.2) (hF : FM_move_70 p l1 l2 l3 l4 l5 l6 t1 s = some out) : xw_Y w mM_move (d + 1 + 20) (60 * (d + 1) + 600) (xw_R none (mV out h)) h0 m0 n0 s.2.2.1.2.2.2.2.2.2.1 s.2.2.1.2.2.2.2.2.2.2 out.2.2.1.2.2.2.2.2.2.1 out.2.2.1.2.2.2.2.2.2.2 70 [some (.ref 2000), some (.ref (xn l1)), some (.int (xb l2)), some (.int l3), some (.int l4), some (.int (xb l5)), some (.int l6), none, none, none, none] [.int t1, .ref 2000] (mV s h) := by
  unfold FM_move_70 at hF
  refine xy_r (xw_iload_n dM_move_70 rfl) ?_
  refine xy_r (xw_iload dM_move_71 rfl) ?_
  refine xy_r (xw_iload dM_move_73 rfl) ?_
  refine xy_r (xw_iload dM_move_75 rfl) ?_
  obtain ⟨r1757, er1757, hF⟩ := xg_b hF
  refine xy_q (fun hq => xg_V1 (k1 := _) (n1 := _) (CM_moved er1757) rfl rfl rfl dM_move_77 (kM_477 _) (xZV (Nat.le_of_ble_eq_true rfl) (Nat.le_of_ble_eq_true rfl)) rfl rfl rfl rfl (Nat.le_of_ble_eq_true rfl) (Nat.le_refl _) (Nat.le_refl _) (Nat.sub_le_sub_right hq.1 _) (Nat.sub_le_sub_right hq.2 _)) ?_
  refine xy_r (xw_istore dM_move_80 (Nat.le_of_ble_eq_true rfl)) ?_
  refine xy_r (xw_Ln (L' := [some (.ref 2000), some (.ref (xn l1)), some (.int (xb l2)), some (.int l3), some (.int l4), some (.int (xb l5)), some (.int l6), some (.int r1757), none, none, none]) rfl) ?_
  refine xy_r (xw_iload dM_move_82 rfl) ?_
  refine xy_br (xw_if_ge 95 dM_move_84 (by decide)) (fun c1758 => ?_) (fun c1758 => ?_)
  · replace hF := xg_t c1758 hF
    refine xy_r (xw_iload_n dM_move_95 rfl) ?_
    refine xy_brn (xw_if_eqB 108 dM_move_96 (by decide)) (fun c1759 => ?_) (fun c1759 => ?_)
    · replace hF := xg_f c1759 hF
      refine xy_r (xw_aload_n dM_move_108 rfl) ?_
      refine xy_r (xw_iload dM_move_109 rfl) ?_
      obtain ⟨g1760, hF⟩ := xg_g hF
      refine xy_r (xg_put dM_move_111 fM_368 (mV_n g1760) (xn_le _) (Nat.le_of_ble_eq_true rfl) (fun _ => rfl) (fun _ => rfl) (mV_e (s' := (s.1, s.2.1, (s.2.2.1.1, s.2.2.1.2.1, s.2.2.1.2.2.1, s.2.2.1.2.2.2.1, s.2.2.1.2.2.2.2.1, (va_up s.2.2.1.2.2.2.2.2.1 l1 (nRow (s.2.2.1.2.2.2.2.2.1 l1) r1757)), s.2.2.1.2.2.2.2.2.2), s.2.2.2)) (mV_pn (q := (nRow (s.2.2.1.2.2.2.2.2.1 l1) r1757)) g1760) rfl)) ?_
      refine xy_r (xw_drop (L' := [some (.ref 2000), some (.ref (xn l1)), some (.int (xb l2)), some (.int l3), some (.int l4), some (.int (xb l5)), some (.int l6), none, none, none, none]) ⟨rfl, ⟨rfl, ⟨rfl, ⟨rfl, ⟨rfl, ⟨rfl, ⟨rfl, trivial⟩⟩⟩⟩⟩⟩⟩) ?_
      exact CM_move_114 (hp := hp) hb (s := (s.1, s.2.1, (s.2.2.1.1, s.2.2.1.2.1, s.2.2.1.2.2.1, s.2.2.1.2.2.2.1, s.2.2.1.2.2.2.2.1, (va_up s.2.2.1.2.2.2.2.2.1 l1 (nRow (s.2.2.1.2.2.2.2.2.1 l1) r1757)), s.2.2.1.2.2.2.2.2.2), s.2.2.2)) hm hF
    · replace hF := xg_t c1759 hF
      refine xy_r (xw_aload_n dM_move_99 rfl) ?_
      refine xy_r (xw_iload dM_move_100 rfl) ?_
      obtain ⟨g1761, hF⟩ := xg_g hF
      refine xy_r (xg_put dM_move_102 fM_371 (mV_n g1761) (xn_le _) (Nat.le_of_ble_eq_true rfl) (fun _ => rfl) (fun _ => rfl) (mV_e (s' := (s.1, s.2.1, (s.2.2.1.1, s.2.2.1.2.1, s.2.2.1.2.2.1, s.2.2.1.2.2.2.1, s.2.2.1.2.2.2.2.1, (va_up s.2.2.1.2.2.2.2.2.1 l1 (nCol (s.2.2.1.2.2.2.2.2.1 l1) r1757)), s.2.2.1.2.2.2.2.2.2), s.2.2.2)) (mV_pn (q := (nCol (s.2.2.1.2.2.2.2.2.1 l1) r1757)) g1761) rfl)) ?_
      refine xy_r (xw_goto 114 dM_move_105 (by decide)) ?_
      refine xy_r (xw_drop (L' := [some (.ref 2000), some (.ref (xn l1)), some (.int (xb l2)), some (.int l3), some (.int l4), some (.int (xb l5)), some (.int l6), none, none, none, none]) ⟨rfl, ⟨rfl, ⟨rfl, ⟨rfl, ⟨rfl, ⟨rfl, ⟨rfl, trivial⟩⟩⟩⟩⟩⟩⟩) ?_
      exact CM_move_114 (hp := hp) hb (s := (s.1, s.2.1, (s.2.2.1.1, s.2.2.1.2.1, s.2.2.1.2.2.1, s.2.2.1.2.2.2.1, s.2.2.1.2.2.2.2.1, (va_up s.2.2.1.2.2.2.2.2.1 l1 (nCol (s.2.2.1.2.2.2.2.2.1 l1) r1757)), s.2.2.1.2.2.2.2.2.2), s.2.2.2)) hm hF
  · replace hF := xg_f c1758 hF
    refine xy_r (xw_aload_n dM_move_87 rfl) ?_
    refine xy_r (xw_aload_n dM_move_88 rfl) ?_
    obtain ⟨r1762, er1762, hF⟩ := xg_b hF
    have hm1763 : m0 ≤ r1762.2.2.1.2.2.2.2.2.2.1 ∧ n0 ≤ r1762.2.2.1.2.2.2.2.2.2.2 := xy_le hm (show s.2.2.1.2.2.2.2.2.2.1 ≤ r1762.2.2.1.2.2.2.2.2.2.1 ∧ s.2.2.1.2.2.2.2.2.2.2 ≤ r1762.2.2.1.2.2.2.2.2.2.2 from (CM_lost (w := w) (h := h) hb (s := s) er1762).1)
    refine xy_V0 (nl := 2) (sm := s.2.2.1.2.2.2.2.2.2.1) (sn := s.2.2.1.2.2.2.2.2.2.2) (tm := r1762.2.2.1.2.2.2.2.2.2.1) (tn := r1762.2.2.1.2.2.2.2.2.2.2) (CM_lost hb (s := s) er1762) rfl rfl hm (fun _ => rfl) (fun _ => rfl) (fun _ => rfl) (fun _ => dM_move_89) (fun _ R => kM_470 R) (fun _ => rfl) ⟨by omega, by omega⟩ rfl rfl rfl (fun _ => rfl) (Nat.le_of_ble_eq_true rfl) ?_
    refine xy_r (xw_goto 114 dM_move_92 (by decide)) ?_
    refine xy_r (xw_drop (L' := [some (.ref 2000), some (.ref (xn l1)), some (.int (xb l2)), some (.int l3), some (.int l4), some (.int (xb l5)), some (.int l6), none, none, none, none]) ⟨rfl, ⟨rfl, ⟨rfl, ⟨rfl, ⟨rfl, ⟨rfl, ⟨rfl, trivial⟩⟩⟩⟩⟩⟩⟩) ?_
    exact CM_move_114 (hp := hp) hb (s := r1762) hm1763 hF
set_option maxRecDepth 20000 in
theorem CM_move_44 {w : xw_G} {p : xTV} {d : Nat} (hp : xKV w p d) {h : xw_H} (hb : xMb h)  {l1 : Nat} {l2 : Bool} {l3 : Int32} {l4 : Int32} {l5 : Bool} {t0 : Int32} {s : xMs} {out : xMs} {h0 : xw_H} {m0 n0 : Nat} (hm : m0 ≤ s.2.2.1.2.2.2.2.2.2.1 ∧ n0 ≤ s.2.2.1.2.2.2.2.2.2.2) (hF : FM_move_44 p l1 l2 l3 l4 l5 t0 s = some out) : xw_Y w mM_move (d + 1 + 20) (60 * (d + 1) + 600) (xw_R none (mV out h)) h0 m0 n0 s.2.2.1.2.2.2.2.2.2.1 s.2.2.1.2.2.2.2.2.2.2 out.2.2.1.2.2.2.2.2.2.1 out.2.2.1.2.2.2.2.2.2.2 44 [some (.ref 2000), some (.ref (xn l1)), some (.int (xb l2)), some (.int l3), some (.int l4), some (.int (xb l5)), none, none, none, none, none] [.int t0] (mV s h) := by
  unfold FM_move_44 at hF
  refine xy_r (xw_istore dM_move_44 (Nat.le_of_ble_eq_true rfl)) ?_
  refine xy_r (xw_Ln (L' := [some (.ref 2000), some (.ref (xn l1)), some (.int (xb l2)), some (.int l3), some (.int l4), some (.int (xb l5)), some (.int t0), none, none, none, none]) rfl) ?_
  refine xy_r (xw_aload_n dM_move_46 rfl) ?_
  obtain ⟨g1686, hF⟩ := xg_g hF
  refine xy_r (xw_get dM_move_47 fM_192 (mV_n g1686) rfl) ?_
  refine xy_r (xw_iconst (4) dM_move_50 (by decide)) ?_
  refine xy_brn (xw_icmp_ne 114 dM_move_51 (by decide)) (fun c1687 => ?_) (fun c1687 => ?_)
  · replace hF := xg_f c1687 hF
    exact CM_move_114 (hp := hp) hb (s := s) hm hF
  · replace hF := xg_t c1687 hF
    refine xy_r (xw_aload_n dM_move_54 rfl) ?_
    refine xy_r (xw_iload_n dM_move_55 rfl) ?_
    refine xy_brn (xw_if_eqB 66 dM_move_56 (by decide)) (fun c1756 => ?_) (fun c1756 => ?_)
    · replace hF := xg_f c1756 hF
      refine xy_r (xw_aload_n dM_move_66 rfl) ?_
      refine xy_r (xw_get dM_move_67 fM_368 (mV_n g1686) rfl) ?_
      exact CM_move_70 (hp := hp) hb (s := s) hm hF
    · replace hF := xg_t c1756 hF
      refine xy_r (xw_aload_n dM_move_59 rfl) ?_
      refine xy_r (xw_get dM_move_60 fM_371 (mV_n g1686) rfl) ?_
      refine xy_r (xw_goto 70 dM_move_63 (by decide)) ?_
      exact CM_move_70 (hp := hp) hb (s := s) hm hF
set_option maxRecDepth 20000 in
theorem CM_move_6 {w : xw_G} {p : xTV} {d : Nat} (hp : xKV w p d) {h : xw_H} (hb : xMb h)  : ∀ (fu : Nat) {l1 : Nat} {l2 : Bool} {l3 : Int32} {l4 : Int32} {l5 : Bool} {l6 : Option Nat} {s : xMs} {out : xMs} {h0 : xw_H} {m0 n0 : Nat} (hm : m0 ≤ s.2.2.1.2.2.2.2.2.2.1 ∧ n0 ≤ s.2.2.1.2.2.2.2.2.2.2), FM_move_6 p fu l1 l2 l3 l4 l5 l6 s = some out → xw_Y w mM_move (d + 1 + 20) (60 * (d + 1) + 600) (xw_R none (mV out h)) h0 m0 n0 s.2.2.1.2.2.2.2.2.2.1 s.2.2.1.2.2.2.2.2.2.2 out.2.2.1.2.2.2.2.2.2.1 out.2.2.1.2.2.2.2.2.2.2 6 [some (.ref 2000), some (.ref (xn l1)), some (.int (xb l2)), some (.int l3), some (.int l4), some (.int (xb l5)), some (xw_rf l6), none, none, none, none] [] (mV s h) := by
  intro fu
  induction fu with
  | zero =>
    intro l1 l2 l3 l4 l5 l6 s out h0 m0 n0 hm hF
    rw [FM_move_6] at hF
    cases hF
  | succ fu ih =>
    intro l1 l2 l3 l4 l5 l6 s out h0 m0 n0 hm hF
    rw [FM_move_6] at hF
    refine xy_r (xg_aload dM_move_6 rfl) ?_
    rcases xg_m hF with ⟨ei1684, hF⟩ | ⟨i1684, ei1684, hF⟩
    · refine xy_r (xw_Ln (L' := [some (.ref 2000), some (.ref (xn l1)), some (.int (xb l2)), some (.int l3), some (.int l4), some (.int (xb l5)), some (.null), none, none, none, none]) (by first | (rw [ei1684]; done) | (rw [ei1684]; rfl))) ?_
      refine xy_r (xw_Sn (st' := [.null]) (by first | (rw [ei1684]; done) | (rw [ei1684]; rfl))) ?_
      refine xy_r (xw_ifnull_n 33 dM_move_8 (by decide)) ?_
      refine xy_r (xw_iload_n dM_move_33 rfl) ?_
      refine xy_brn (xw_if_eqB 42 dM_move_34 (by decide)) (fun c1685 => ?_) (fun c1685 => ?_)
      · replace hF := xg_f c1685 hF
        refine xy_r (xw_bipush (80) dM_move_42 (by decide)) ?_
        refine xy_r (xw_drop (L' := [some (.ref 2000), some (.ref (xn l1)), some (.int (xb l2)), some (.int l3), some (.int l4), some (.int (xb l5)), none, none, none, none, none]) ⟨rfl, ⟨rfl, ⟨rfl, ⟨rfl, ⟨rfl, ⟨rfl, trivial⟩⟩⟩⟩⟩⟩) ?_
        exact CM_move_44 (hp := hp) hb (s := s) hm hF
      · replace hF := xg_t c1685 hF
        refine xy_r (xw_bipush (26) dM_move_37 (by decide)) ?_
        refine xy_r (xw_goto 44 dM_move_39 (by decide)) ?_
        refine xy_r (xw_drop (L' := [some (.ref 2000), some (.ref (xn l1)), some (.int (xb l2)), some (.int l3), some (.int l4), some (.int (xb l5)), none, none, none, none, none]) ⟨rfl, ⟨rfl, ⟨rfl, ⟨rfl, ⟨rfl, ⟨rfl, trivial⟩⟩⟩⟩⟩⟩) ?_
        exact CM_move_44 (hp := hp) hb (s := s) hm hF
    · refine xy_r (xw_Ln (L' := [some (.ref 2000), some (.ref (xn l1)), some (.int (xb l2)), some (.int l3), some (.int l4), some (.int (xb l5)), some (.ref (xn i1684)), none, none, none, none]) (by first | (rw [ei1684]; done) | (rw [ei1684]; rfl))) ?_
      refine xy_r (xw_Sn (st' := [.ref (xn i1684)]) (by first | (rw [ei1684]; done) | (rw [ei1684]; rfl))) ?_
      refine xy_r (xw_ifnull_r dM_move_8) ?_
      refine xy_r (xw_aload_n dM_move_11 rfl) ?_
      refine xy_r (xw_aload dM_move_12 rfl) ?_
      refine xy_r (xw_iload_n dM_move_14 rfl) ?_
      refine xy_r (xw_iload_n dM_move_15 rfl) ?_
      refine xy_r (xw_iload dM_move_16 rfl) ?_
      refine xy_r (xw_iload dM_move_18 rfl) ?_
      obtain ⟨r1765, er1765, hF⟩ := xg_b hF
      have hm1766 : m0 ≤ r1765.2.2.1.2.2.2.2.2.2.1 ∧ n0 ≤ r1765.2.2.1.2.2.2.2.2.2.2 := xy_le hm (show s.2.2.1.2.2.2.2.2.2.1 ≤ r1765.2.2.1.2.2.2.2.2.2.1 ∧ s.2.2.1.2.2.2.2.2.2.2 ≤ r1765.2.2.1.2.2.2.2.2.2.2 from ((hp  (h := h) hb (s := s) er1765)).1)
      refine xy_V0 (nl := 11) (sm := s.2.2.1.2.2.2.2.2.2.1) (sn := s.2.2.1.2.2.2.2.2.2.2) (tm := r1765.2.2.1.2.2.2.2.2.2.1) (tn := r1765.2.2.1.2.2.2.2.2.2.2) (hp  hb (s := s) er1765) rfl rfl hm (fun _ => rfl) (fun _ => rfl) (fun _ => rfl) (fun _ => dM_move_20) (fun _ R => kM_473 R) (fun _ => rfl) ⟨by omega, by omega⟩ rfl rfl rfl (fun _ => rfl) (Nat.le_of_ble_eq_true rfl) ?_
      refine xy_r (xw_aload dM_move_23 rfl) ?_
      obtain ⟨g1768, hF⟩ := xg_g hF
      refine xy_r (xw_get dM_move_25 fM_212 (mV_n g1768) rfl) ?_
      refine xy_r (xg_astore dM_move_28 (Nat.le_of_ble_eq_true rfl)) ?_
      refine xy_r (xw_Ln (L' := [some (.ref 2000), some (.ref (xn l1)), some (.int (xb l2)), some (.int l3), some (.int l4), some (.int (xb l5)), some (xw_rf (r1765.2.2.1.2.2.2.2.2.1 i1684).2.2.2.2.1), none, none, none, none]) rfl) ?_
      refine xy_r (xw_goto 6 dM_move_30 (by decide)) ?_
      exact ih (s := r1765) hm1766 hF
set_option maxRecDepth 20000 in
theorem CM_move {w : xw_G} {p : xTV} {d : Nat} (hp : xKV w p d) {h : xw_H} (hb : xMb h) {x0 : Nat} {x1 : Bool} {x2 : Int32} {x3 : Int32} {x4 : Bool} {s : xMs} {out : xMs} (hF : FM_move p x0 x1 x2 x3 x4 s = some out) : (s.2.2.1.2.2.2.2.2.2.1 ≤ out.2.2.1.2.2.2.2.2.2.1 ∧ s.2.2.1.2.2.2.2.2.2.2 ≤ out.2.2.1.2.2.2.2.2.2.2) ∧ xw_C w (mM_move { frames := (d + 1 + 20), cells := out.2.2.1.2.2.2.2.2.2.1 - s.2.2.1.2.2.2.2.2.2.1, slots := out.2.2.1.2.2.2.2.2.2.2 - s.2.2.1.2.2.2.2.2.2.2, locals := (60 * (d + 1) + 600) }) (xw_R none (mV out h)) [.ref 2000, .ref (xn x0), .int (xb x1), .int x2, .int x3, .int (xb x4)] (mV s h) := by
  unfold FM_move at hF
  refine xy_enter (L := [some (.ref 2000), some (.ref (xn x0)), some (.int (xb x1)), some (.int x2), some (.int x3), some (.int (xb x4)), none, none, none, none, none]) (fun _ => rfl) (fun _ => rfl) (fun _ => (show plainName "FormulaShaperModel" = true by decide +kernel)) (fun _ => (Nat.le_of_ble_eq_true rfl)) (fun _ => rfl) ?_
  have hm : s.2.2.1.2.2.2.2.2.2.1 ≤ s.2.2.1.2.2.2.2.2.2.1 ∧ s.2.2.1.2.2.2.2.2.2.2 ≤ s.2.2.1.2.2.2.2.2.2.2 := ⟨Nat.le_refl _, Nat.le_refl _⟩
  refine xy_r (xw_aload_n dM_move_0 rfl) ?_
  obtain ⟨g1683, hF⟩ := xg_g hF
  refine xy_r (xw_get dM_move_1 fM_205 (mV_n g1683) rfl) ?_
  refine xy_r (xg_astore dM_move_4 (Nat.le_of_ble_eq_true rfl)) ?_
  refine xy_r (xw_Ln (L' := [some (.ref 2000), some (.ref (xn x0)), some (.int (xb x1)), some (.int x2), some (.int x3), some (.int (xb x4)), some (xw_rf (s.2.2.1.2.2.2.2.2.1 x0).2.2.1), none, none, none, none]) rfl) ?_
  exact CM_move_6 (hp := hp) hb xFuel (s := s) hm hF
def xUV : Nat → xTV
  | 0 => fun _ _ _ _ _ _ => none
  | d + 1 => FM_move (xUV d)
theorem xVV (w : xw_G) : ∀ d : Nat, xKV w (xUV d) d
  | 0 => fun _ => fun q => (Option.some_ne_none _ q.symm).elim
  | d + 1 => fun hb => fun q => CM_move (hp := xVV w d) hb q
def FM_V (x0 : Nat) (x1 : Bool) (x2 : Int32) (x3 : Int32) (x4 : Bool) (s : xMs) : Option xMs := (xUV 1100) x0 x1 x2 x3 x4 s
theorem CM_V {w : xw_G} {h : xw_H} (hb : xMb h) {x0 : Nat} {x1 : Bool} {x2 : Int32} {x3 : Int32} {x4 : Bool} {s : xMs} {out : xMs} (hF : FM_V x0 x1 x2 x3 x4 s = some out) : (s.2.2.1.2.2.2.2.2.2.1 ≤ out.2.2.1.2.2.2.2.2.2.1 ∧ s.2.2.1.2.2.2.2.2.2.2 ≤ out.2.2.1.2.2.2.2.2.2.2) ∧ xw_C w (mM_move { frames := 1120, cells := out.2.2.1.2.2.2.2.2.2.1 - s.2.2.1.2.2.2.2.2.2.1, slots := out.2.2.1.2.2.2.2.2.2.2 - s.2.2.1.2.2.2.2.2.2.2, locals := 66600 }) (xw_R none (mV out h)) [.ref 2000, .ref (xn x0), .int (xb x1), .int x2, .int x3, .int (xb x4)] (mV s h) := (xVV w 1100) hb hF
/-- what the methods gather mean, to a depth -/
abbrev xTG : Type := (Nat → xMs → Option xMs)
def xKG (w : xw_G) (p : xTG) (d : Nat) : Prop := (∀ {h : xw_H}, xMb h → ∀ {x0 : Nat} {s : xMs} {out : xMs}, p x0 s = some out → (s.2.2.1.2.2.2.2.2.2.1 ≤ out.2.2.1.2.2.2.2.2.2.1 ∧ s.2.2.1.2.2.2.2.2.2.2 ≤ out.2.2.1.2.2.2.2.2.2.2) ∧ xw_C w (mM_gather { frames := d + 20, cells := out.2.2.1.2.2.2.2.2.2.1 - s.2.2.1.2.2.2.2.2.2.1, slots := out.2.2.1.2.2.2.2.2.2.2 - s.2.2.1.2.2.2.2.2.2.2, locals := 60 * d + 600 }) (xw_R none (mV out h)) [.ref 2000, .ref (xn x0)] (mV s h))
theorem xZG {μ : xw_M} {d c n : Nat} (h : μ.2.2.2.2.1.frames + 1 ≤ 21) (h2 : 8 + (μ.2.2.1 + 11) + μ.2.2.2.2.1.locals ≤ 660) : xw_fit { frames := d + 1 + 20, cells := c, slots := n, locals := 60 * (d + 1) + 600 } μ := ⟨by show _ ≤ d + 1 + 20; omega, by show _ ≤ 60 * (d + 1) + 600; omega⟩
def FM_gather_127 (p : xTG) : Nat → Option Nat → xMs → Option xMs
  | 0, _, _ => none
  | fu + 1, l2, s => xm l2 (some s) (fun i1778 => (p i1778 s).bind fun r1779 => if i1778 < r1779.2.2.1.2.2.2.2.1 then (FM_gather_127 p fu (r1779.2.2.1.2.2.2.2.2.1 i1778).2.2.2.2.1 r1779) else none)
def FM_gather_16 (p : xTG) (l1 : Nat) (s : xMs) : Option xMs := if l1 < s.2.2.1.2.2.2.2.1 then (if 0 ≤ (4 * s.1.2.2.2.2.2) ∧ (4 * s.1.2.2.2.2.2) < nI 4096 then (if 0 ≤ ((4 * s.1.2.2.2.2.2) + 1) ∧ ((4 * s.1.2.2.2.2.2) + 1) < nI 4096 then (if (s.2.2.1.2.2.2.2.2.1 l1).1.1 = 5 then (if 0 ≤ ((4 * s.1.2.2.2.2.2) + 2) ∧ ((4 * s.1.2.2.2.2.2) + 2) < nI 4096 then (if (s.2.2.1.2.2.2.2.2.1 l1).1.1 = 5 then (if 0 ≤ ((4 * s.1.2.2.2.2.2) + 3) ∧ ((4 * s.1.2.2.2.2.2) + 3) < nI 4096 then (FM_gather_127 p xFuel (s.2.2.1.2.2.2.2.2.1 l1).2.2.1 ((s.1.1, s.1.2.1, s.1.2.2.1, s.1.2.2.2.1, s.1.2.2.2.2.1, (s.1.2.2.2.2.2 + 1)), s.2.1, s.2.2.1, s.2.2.2.1, (s.2.2.2.2.1, s.2.2.2.2.2.1, s.2.2.2.2.2.2.1, (upd (upd (upd (upd s.2.2.2.2.2.2.2.1 ((4 * s.1.2.2.2.2.2)).toNatClampNeg (s.2.2.1.2.2.2.2.2.1 l1).2.1.1) (((4 * s.1.2.2.2.2.2) + 1)).toNatClampNeg (s.2.2.1.2.2.2.2.2.1 l1).2.1.2.1) (((4 * s.1.2.2.2.2.2) + 2)).toNatClampNeg (s.2.2.1.2.2.2.2.2.1 l1).2.1.2.2.2.2.1) (((4 * s.1.2.2.2.2.2) + 3)).toNatClampNeg (s.2.2.1.2.2.2.2.2.1 l1).2.1.2.2.2.2.2.1), s.2.2.2.2.2.2.2.2))) else none) else (if 0 ≤ ((4 * s.1.2.2.2.2.2) + 3) ∧ ((4 * s.1.2.2.2.2.2) + 3) < nI 4096 then (FM_gather_127 p xFuel (s.2.2.1.2.2.2.2.2.1 l1).2.2.1 ((s.1.1, s.1.2.1, s.1.2.2.1, s.1.2.2.2.1, s.1.2.2.2.2.1, (s.1.2.2.2.2.2 + 1)), s.2.1, s.2.2.1, s.2.2.2.1, (s.2.2.2.2.1, s.2.2.2.2.2.1, s.2.2.2.2.2.2.1, (upd (upd (upd (upd s.2.2.2.2.2.2.2.1 ((4 * s.1.2.2.2.2.2)).toNatClampNeg (s.2.2.1.2.2.2.2.2.1 l1).2.1.1) (((4 * s.1.2.2.2.2.2) + 1)).toNatClampNeg (s.2.2.1.2.2.2.2.2.1 l1).2.1.2.1) (((4 * s.1.2.2.2.2.2) + 2)).toNatClampNeg (s.2.2.1.2.2.2.2.2.1 l1).2.1.2.2.2.2.1) (((4 * s.1.2.2.2.2.2) + 3)).toNatClampNeg (s.2.2.1.2.2.2.2.2.1 l1).2.1.2.1), s.2.2.2.2.2.2.2.2))) else none)) else none) else (if 0 ≤ ((4 * s.1.2.2.2.2.2) + 2) ∧ ((4 * s.1.2.2.2.2.2) + 2) < nI 4096 then (if (s.2.2.1.2.2.2.2.2.1 l1).1.1 = 5 then (if 0 ≤ ((4 * s.1.2.2.2.2.2) + 3) ∧ ((4 * s.1.2.2.2.2.2) + 3) < nI 4096 then (FM_gather_127 p xFuel (s.2.2.1.2.2.2.2.2.1 l1).2.2.1 ((s.1.1, s.1.2.1, s.1.2.2.1, s.1.2.2.2.1, s.1.2.2.2.2.1, (s.1.2.2.2.2.2 + 1)), s.2.1, s.2.2.1, s.2.2.2.1, (s.2.2.2.2.1, s.2.2.2.2.2.1, s.2.2.2.2.2.2.1, (upd (upd (upd (upd s.2.2.2.2.2.2.2.1 ((4 * s.1.2.2.2.2.2)).toNatClampNeg (s.2.2.1.2.2.2.2.2.1 l1).2.1.1) (((4 * s.1.2.2.2.2.2) + 1)).toNatClampNeg (s.2.2.1.2.2.2.2.2.1 l1).2.1.2.1) (((4 * s.1.2.2.2.2.2) + 2)).toNatClampNeg (s.2.2.1.2.2.2.2.2.1 l1).2.1.1) (((4 * s.1.2.2.2.2.2) + 3)).toNatClampNeg (s.2.2.1.2.2.2.2.2.1 l1).2.1.2.2.2.2.2.1), s.2.2.2.2.2.2.2.2))) else none) else (if 0 ≤ ((4 * s.1.2.2.2.2.2) + 3) ∧ ((4 * s.1.2.2.2.2.2) + 3) < nI 4096 then (FM_gather_127 p xFuel (s.2.2.1.2.2.2.2.2.1 l1).2.2.1 ((s.1.1, s.1.2.1, s.1.2.2.1, s.1.2.2.2.1, s.1.2.2.2.2.1, (s.1.2.2.2.2.2 + 1)), s.2.1, s.2.2.1, s.2.2.2.1, (s.2.2.2.2.1, s.2.2.2.2.2.1, s.2.2.2.2.2.2.1, (upd (upd (upd (upd s.2.2.2.2.2.2.2.1 ((4 * s.1.2.2.2.2.2)).toNatClampNeg (s.2.2.1.2.2.2.2.2.1 l1).2.1.1) (((4 * s.1.2.2.2.2.2) + 1)).toNatClampNeg (s.2.2.1.2.2.2.2.2.1 l1).2.1.2.1) (((4 * s.1.2.2.2.2.2) + 2)).toNatClampNeg (s.2.2.1.2.2.2.2.2.1 l1).2.1.1) (((4 * s.1.2.2.2.2.2) + 3)).toNatClampNeg (s.2.2.1.2.2.2.2.2.1 l1).2.1.2.1), s.2.2.2.2.2.2.2.2))) else none)) else none)) else none) else none) else none
/-- FormulaShaperModel.gather -/
def FM_gather (p : xTG) (x0 : Nat) (s : xMs) : Option xMs := if x0 < s.2.2.1.2.2.2.2.1 then (if (s.2.2.1.2.2.2.2.2.1 x0).1.1 = 4 then (FM_gather_16 p x0 s) else (if (s.2.2.1.2.2.2.2.2.1 x0).1.1 = 5 then (FM_gather_16 p x0 s) else (FM_gather_127 p xFuel (s.2.2.1.2.2.2.2.2.1 x0).2.2.1 s))) else none
set_option maxRecDepth 20000 in
theorem CM_gather_127 {w : xw_G} {p : xTG} {d : Nat} (hp : xKG w p d) {h : xw_H} (hb : xMb h)  : ∀ (fu : Nat) {l2 : Option Nat} {s : xMs} {out : xMs} {h0 : xw_H} {m0 n0 : Nat} (hm : m0 ≤ s.2.2.1.2.2.2.2.2.2.1 ∧ n0 ≤ s.2.2.1.2.2.2.2.2.2.2), FM_gather_127 p fu l2 s = some out → xw_Y w mM_gather (d + 1 + 20) (60 * (d + 1) + 600) (xw_R none (mV out h)) h0 m0 n0 s.2.2.1.2.2.2.2.2.2.1 s.2.2.1.2.2.2.2.2.2.2 out.2.2.1.2.2.2.2.2.2.1 out.2.2.1.2.2.2.2.2.2.2 127 [some (.ref 2000), none, some (xw_rf l2)] [] (mV s h) := by
  intro fu
  induction fu with
  | zero =>
    intro l2 s out h0 m0 n0 hm hF
    rw [FM_gather_127] at hF
    cases hF
  | succ fu ih =>
    intro l2 s out h0 m0 n0 hm hF
    rw [FM_gather_127] at hF
    refine xy_r (xg_aload_n dM_gather_127 rfl) ?_
    rcases xg_m hF with ⟨ei1778, hF⟩ | ⟨i1778, ei1778, hF⟩
    · refine xy_r (xw_Ln (L' := [some (.ref 2000), none, some (.null)]) (by first | (rw [ei1778]; done) | (rw [ei1778]; rfl))) ?_
      refine xy_r (xw_Sn (st' := [.null]) (by first | (rw [ei1778]; done) | (rw [ei1778]; rfl))) ?_
      refine xy_r (xw_ifnull_n 144 dM_gather_128 (by decide)) ?_
      obtain rfl := Option.some.inj hF
      exact xy_end (xw_return dM_gather_144 rfl (Nat.le_refl _) (Nat.le_refl _) ⟨rfl, rfl⟩)
    · refine xy_r (xw_Ln (L' := [some (.ref 2000), none, some (.ref (xn i1778))]) (by first | (rw [ei1778]; done) | (rw [ei1778]; rfl))) ?_
      refine xy_r (xw_Sn (st' := [.ref (xn i1778)]) (by first | (rw [ei1778]; done) | (rw [ei1778]; rfl))) ?_
      refine xy_r (xw_ifnull_r dM_gather_128) ?_
      refine xy_r (xw_aload_n dM_gather_131 rfl) ?_
      refine xy_r (xw_aload_n dM_gather_132 rfl) ?_
      obtain ⟨r1779, er1779, hF⟩ := xg_b hF
      have hm1780 : m0 ≤ r1779.2.2.1.2.2.2.2.2.2.1 ∧ n0 ≤ r1779.2.2.1.2.2.2.2.2.2.2 := xy_le hm (show s.2.2.1.2.2.2.2.2.2.1 ≤ r1779.2.2.1.2.2.2.2.2.2.1 ∧ s.2.2.1.2.2.2.2.2.2.2 ≤ r1779.2.2.1.2.2.2.2.2.2.2 from ((hp  (h := h) hb (s := s) er1779)).1)
      refine xy_V0 (nl := 3) (sm := s.2.2.1.2.2.2.2.2.2.1) (sn := s.2.2.1.2.2.2.2.2.2.2) (tm := r1779.2.2.1.2.2.2.2.2.2.1) (tn := r1779.2.2.1.2.2.2.2.2.2.2) (hp  hb (s := s) er1779) rfl rfl hm (fun _ => rfl) (fun _ => rfl) (fun _ => rfl) (fun _ => dM_gather_133) (fun _ R => kM_484 R) (fun _ => rfl) ⟨by omega, by omega⟩ rfl rfl rfl (fun _ => rfl) (Nat.le_of_ble_eq_true rfl) ?_
      refine xy_r (xw_aload_n dM_gather_136 rfl) ?_
      obtain ⟨g1782, hF⟩ := xg_g hF
      refine xy_r (xw_get dM_gather_137 fM_212 (mV_n g1782) rfl) ?_
      refine xy_r (xg_astore_n dM_gather_140 (Nat.le_of_ble_eq_true rfl)) ?_
      refine xy_r (xw_Ln (L' := [some (.ref 2000), none, some (xw_rf (r1779.2.2.1.2.2.2.2.2.1 i1778).2.2.2.2.1)]) rfl) ?_
      refine xy_r (xw_goto 127 dM_gather_141 (by decide)) ?_
      exact ih (s := r1779) hm1780 hF
set_option maxRecDepth 20000 in
theorem CM_gather_16 {w : xw_G} {p : xTG} {d : Nat} (hp : xKG w p d) {h : xw_H} (hb : xMb h)  {l1 : Nat} {s : xMs} {out : xMs} {h0 : xw_H} {m0 n0 : Nat} (hm : m0 ≤ s.2.2.1.2.2.2.2.2.2.1 ∧ n0 ≤ s.2.2.1.2.2.2.2.2.2.2) (hF : FM_gather_16 p l1 s = some out) : xw_Y w mM_gather (d + 1 + 20) (60 * (d + 1) + 600) (xw_R none (mV out h)) h0 m0 n0 s.2.2.1.2.2.2.2.2.2.1 s.2.2.1.2.2.2.2.2.2.2 out.2.2.1.2.2.2.2.2.2.1 out.2.2.1.2.2.2.2.2.2.2 16 [some (.ref 2000), some (.ref (xn l1)), none] [] (mV s h) := by
  unfold FM_gather_16 at hF
  refine xy_r (xw_aload_n dM_gather_16 rfl) ?_
  refine xy_r (xw_get dM_gather_17 fM_167 rfl rfl) ?_
  refine xy_r (xw_iconst (4) dM_gather_20 (by decide)) ?_
  refine xy_r (xw_aload_n dM_gather_21 rfl) ?_
  refine xy_r (xw_get dM_gather_22 fM_481 rfl rfl) ?_
  refine xy_r (xw_imul dM_gather_25) ?_
  refine xy_r (xw_aload_n dM_gather_26 rfl) ?_
  obtain ⟨g1771, hF⟩ := xg_g hF
  refine xy_r (xw_get dM_gather_27 fM_368 (mV_n g1771) rfl) ?_
  obtain ⟨g1772, hF⟩ := xg_g hF
  refine xy_r (xg_iastore g1772 dM_gather_30 rfl (by decide) (by decide) (mV_e (s' := (s.1, s.2.1, s.2.2.1, s.2.2.2.1, (s.2.2.2.2.1, s.2.2.2.2.2.1, s.2.2.2.2.2.2.1, (upd s.2.2.2.2.2.2.2.1 ((4 * s.1.2.2.2.2.2)).toNatClampNeg (s.2.2.1.2.2.2.2.2.1 l1).2.1.1), s.2.2.2.2.2.2.2.2))) mV_corners rfl)) ?_
  refine xy_r (xw_aload_n dM_gather_31 rfl) ?_
  refine xy_r (xw_get dM_gather_32 fM_167 rfl rfl) ?_
  refine xy_r (xw_iconst (4) dM_gather_35 (by decide)) ?_
  refine xy_r (xw_aload_n dM_gather_36 rfl) ?_
  refine xy_r (xw_get dM_gather_37 fM_481 rfl rfl) ?_
  refine xy_r (xw_imul dM_gather_40) ?_
  refine xy_r (xw_iconst (1) dM_gather_41 (by decide)) ?_
  refine xy_r (xw_iadd dM_gather_42) ?_
  refine xy_r (xw_aload_n dM_gather_43 rfl) ?_
  refine xy_r (xw_get dM_gather_44 fM_371 (mV_n g1771) rfl) ?_
  obtain ⟨g1773, hF⟩ := xg_g hF
  refine xy_r (xg_iastore g1773 dM_gather_47 rfl (by decide) (by decide) (mV_e (s' := (s.1, s.2.1, s.2.2.1, s.2.2.2.1, (s.2.2.2.2.1, s.2.2.2.2.2.1, s.2.2.2.2.2.2.1, (upd (upd s.2.2.2.2.2.2.2.1 ((4 * s.1.2.2.2.2.2)).toNatClampNeg (s.2.2.1.2.2.2.2.2.1 l1).2.1.1) (((4 * s.1.2.2.2.2.2) + 1)).toNatClampNeg (s.2.2.1.2.2.2.2.2.1 l1).2.1.2.1), s.2.2.2.2.2.2.2.2))) mV_corners rfl)) ?_
  refine xy_r (xw_aload_n dM_gather_48 rfl) ?_
  refine xy_r (xw_get dM_gather_49 fM_167 rfl rfl) ?_
  refine xy_r (xw_iconst (4) dM_gather_52 (by decide)) ?_
  refine xy_r (xw_aload_n dM_gather_53 rfl) ?_
  refine xy_r (xw_get dM_gather_54 fM_481 rfl rfl) ?_
  refine xy_r (xw_imul dM_gather_57) ?_
  refine xy_r (xw_iconst (2) dM_gather_58 (by decide)) ?_
  refine xy_r (xw_iadd dM_gather_59) ?_
  refine xy_r (xw_aload_n dM_gather_60 rfl) ?_
  refine xy_r (xw_get dM_gather_61 fM_192 (mV_n g1771) rfl) ?_
  refine xy_r (xw_iconst (5) dM_gather_64 (by decide)) ?_
  refine xy_brn (xw_icmp_ne 75 dM_gather_65 (by decide)) (fun c1774 => ?_) (fun c1774 => ?_)
  · replace hF := xg_f c1774 hF
    refine xy_r (xw_aload_n dM_gather_75 rfl) ?_
    refine xy_r (xw_get dM_gather_76 fM_368 (mV_n g1771) rfl) ?_
    obtain ⟨g1775, hF⟩ := xg_g hF
    refine xy_r (xg_iastore g1775 dM_gather_79 rfl (by decide) (by decide) (mV_e (s' := (s.1, s.2.1, s.2.2.1, s.2.2.2.1, (s.2.2.2.2.1, s.2.2.2.2.2.1, s.2.2.2.2.2.2.1, (upd (upd (upd s.2.2.2.2.2.2.2.1 ((4 * s.1.2.2.2.2.2)).toNatClampNeg (s.2.2.1.2.2.2.2.2.1 l1).2.1.1) (((4 * s.1.2.2.2.2.2) + 1)).toNatClampNeg (s.2.2.1.2.2.2.2.2.1 l1).2.1.2.1) (((4 * s.1.2.2.2.2.2) + 2)).toNatClampNeg (s.2.2.1.2.2.2.2.2.1 l1).2.1.1), s.2.2.2.2.2.2.2.2))) mV_corners rfl)) ?_
    refine xy_r (xw_aload_n dM_gather_80 rfl) ?_
    refine xy_r (xw_get dM_gather_81 fM_167 rfl rfl) ?_
    refine xy_r (xw_iconst (4) dM_gather_84 (by decide)) ?_
    refine xy_r (xw_aload_n dM_gather_85 rfl) ?_
    refine xy_r (xw_get dM_gather_86 fM_481 rfl rfl) ?_
    refine xy_r (xw_imul dM_gather_89) ?_
    refine xy_r (xw_iconst (3) dM_gather_90 (by decide)) ?_
    refine xy_r (xw_iadd dM_gather_91) ?_
    refine xy_r (xw_aload_n dM_gather_92 rfl) ?_
    refine xy_r (xw_get dM_gather_93 fM_192 (mV_n g1771) rfl) ?_
    refine xy_r (xw_iconst (5) dM_gather_96 (by decide)) ?_
    refine xy_brn (xw_icmp_ne 107 dM_gather_97 (by decide)) (fun c1776 => ?_) (fun c1776 => ?_)
    · replace hF := xg_f c1776 hF
      refine xy_r (xw_aload_n dM_gather_107 rfl) ?_
      refine xy_r (xw_get dM_gather_108 fM_371 (mV_n g1771) rfl) ?_
      obtain ⟨g1777, hF⟩ := xg_g hF
      refine xy_r (xg_iastore g1777 dM_gather_111 rfl (by decide) (by decide) (mV_e (s' := (s.1, s.2.1, s.2.2.1, s.2.2.2.1, (s.2.2.2.2.1, s.2.2.2.2.2.1, s.2.2.2.2.2.2.1, (upd (upd (upd (upd s.2.2.2.2.2.2.2.1 ((4 * s.1.2.2.2.2.2)).toNatClampNeg (s.2.2.1.2.2.2.2.2.1 l1).2.1.1) (((4 * s.1.2.2.2.2.2) + 1)).toNatClampNeg (s.2.2.1.2.2.2.2.2.1 l1).2.1.2.1) (((4 * s.1.2.2.2.2.2) + 2)).toNatClampNeg (s.2.2.1.2.2.2.2.2.1 l1).2.1.1) (((4 * s.1.2.2.2.2.2) + 3)).toNatClampNeg (s.2.2.1.2.2.2.2.2.1 l1).2.1.2.1), s.2.2.2.2.2.2.2.2))) mV_corners rfl)) ?_
      refine xy_r (xw_aload_n dM_gather_112 rfl) ?_
      refine xy_r (xw_dup_r dM_gather_113) ?_
      refine xy_r (xw_get dM_gather_114 fM_481 rfl rfl) ?_
      refine xy_r (xw_iconst (1) dM_gather_117 (by decide)) ?_
      refine xy_r (xw_iadd dM_gather_118) ?_
      refine xy_r (xg_put dM_gather_119 fM_481 rfl (by decide) (Nat.le_of_ble_eq_true rfl) (fun _ => rfl) (fun _ => rfl) (mV_o (s' := ((s.1.1, s.1.2.1, s.1.2.2.1, s.1.2.2.2.1, s.1.2.2.2.2.1, (s.1.2.2.2.2.2 + 1)), s.2.1, s.2.2.1, s.2.2.2.1, (s.2.2.2.2.1, s.2.2.2.2.2.1, s.2.2.2.2.2.2.1, (upd (upd (upd (upd s.2.2.2.2.2.2.2.1 ((4 * s.1.2.2.2.2.2)).toNatClampNeg (s.2.2.1.2.2.2.2.2.1 l1).2.1.1) (((4 * s.1.2.2.2.2.2) + 1)).toNatClampNeg (s.2.2.1.2.2.2.2.2.1 l1).2.1.2.1) (((4 * s.1.2.2.2.2.2) + 2)).toNatClampNeg (s.2.2.1.2.2.2.2.2.1 l1).2.1.1) (((4 * s.1.2.2.2.2.2) + 3)).toNatClampNeg (s.2.2.1.2.2.2.2.2.1 l1).2.1.2.1), s.2.2.2.2.2.2.2.2))) rfl)) ?_
      refine xy_r (xw_aload_n dM_gather_122 rfl) ?_
      refine xy_r (xw_get dM_gather_123 fM_205 (mV_n g1771) rfl) ?_
      refine xy_r (xg_astore_n dM_gather_126 (Nat.le_of_ble_eq_true rfl)) ?_
      refine xy_r (xw_Ln (L' := [some (.ref 2000), some (.ref (xn l1)), some (xw_rf (s.2.2.1.2.2.2.2.2.1 l1).2.2.1)]) rfl) ?_
      refine xy_r (xw_drop (L' := [some (.ref 2000), none, some (xw_rf (s.2.2.1.2.2.2.2.2.1 l1).2.2.1)]) ⟨rfl, ⟨rfl, trivial⟩⟩) ?_
      exact CM_gather_127 (hp := hp) hb xFuel (s := ((s.1.1, s.1.2.1, s.1.2.2.1, s.1.2.2.2.1, s.1.2.2.2.2.1, (s.1.2.2.2.2.2 + 1)), s.2.1, s.2.2.1, s.2.2.2.1, (s.2.2.2.2.1, s.2.2.2.2.2.1, s.2.2.2.2.2.2.1, (upd (upd (upd (upd s.2.2.2.2.2.2.2.1 ((4 * s.1.2.2.2.2.2)).toNatClampNeg (s.2.2.1.2.2.2.2.2.1 l1).2.1.1) (((4 * s.1.2.2.2.2.2) + 1)).toNatClampNeg (s.2.2.1.2.2.2.2.2.1 l1).2.1.2.1) (((4 * s.1.2.2.2.2.2) + 2)).toNatClampNeg (s.2.2.1.2.2.2.2.2.1 l1).2.1.1) (((4 * s.1.2.2.2.2.2) + 3)).toNatClampNeg (s.2.2.1.2.2.2.2.2.1 l1).2.1.2.1), s.2.2.2.2.2.2.2.2))) hm hF
    · replace hF := xg_t c1776 hF
      refine xy_r (xw_aload_n dM_gather_100 rfl) ?_
      refine xy_r (xw_get dM_gather_101 fM_398 (mV_n g1771) rfl) ?_
      refine xy_r (xw_goto 111 dM_gather_104 (by decide)) ?_
      obtain ⟨g1783, hF⟩ := xg_g hF
      refine xy_r (xg_iastore g1783 dM_gather_111 rfl (by decide) (by decide) (mV_e (s' := (s.1, s.2.1, s.2.2.1, s.2.2.2.1, (s.2.2.2.2.1, s.2.2.2.2.2.1, s.2.2.2.2.2.2.1, (upd (upd (upd (upd s.2.2.2.2.2.2.2.1 ((4 * s.1.2.2.2.2.2)).toNatClampNeg (s.2.2.1.2.2.2.2.2.1 l1).2.1.1) (((4 * s.1.2.2.2.2.2) + 1)).toNatClampNeg (s.2.2.1.2.2.2.2.2.1 l1).2.1.2.1) (((4 * s.1.2.2.2.2.2) + 2)).toNatClampNeg (s.2.2.1.2.2.2.2.2.1 l1).2.1.1) (((4 * s.1.2.2.2.2.2) + 3)).toNatClampNeg (s.2.2.1.2.2.2.2.2.1 l1).2.1.2.2.2.2.2.1), s.2.2.2.2.2.2.2.2))) mV_corners rfl)) ?_
      refine xy_r (xw_aload_n dM_gather_112 rfl) ?_
      refine xy_r (xw_dup_r dM_gather_113) ?_
      refine xy_r (xw_get dM_gather_114 fM_481 rfl rfl) ?_
      refine xy_r (xw_iconst (1) dM_gather_117 (by decide)) ?_
      refine xy_r (xw_iadd dM_gather_118) ?_
      refine xy_r (xg_put dM_gather_119 fM_481 rfl (by decide) (Nat.le_of_ble_eq_true rfl) (fun _ => rfl) (fun _ => rfl) (mV_o (s' := ((s.1.1, s.1.2.1, s.1.2.2.1, s.1.2.2.2.1, s.1.2.2.2.2.1, (s.1.2.2.2.2.2 + 1)), s.2.1, s.2.2.1, s.2.2.2.1, (s.2.2.2.2.1, s.2.2.2.2.2.1, s.2.2.2.2.2.2.1, (upd (upd (upd (upd s.2.2.2.2.2.2.2.1 ((4 * s.1.2.2.2.2.2)).toNatClampNeg (s.2.2.1.2.2.2.2.2.1 l1).2.1.1) (((4 * s.1.2.2.2.2.2) + 1)).toNatClampNeg (s.2.2.1.2.2.2.2.2.1 l1).2.1.2.1) (((4 * s.1.2.2.2.2.2) + 2)).toNatClampNeg (s.2.2.1.2.2.2.2.2.1 l1).2.1.1) (((4 * s.1.2.2.2.2.2) + 3)).toNatClampNeg (s.2.2.1.2.2.2.2.2.1 l1).2.1.2.2.2.2.2.1), s.2.2.2.2.2.2.2.2))) rfl)) ?_
      refine xy_r (xw_aload_n dM_gather_122 rfl) ?_
      refine xy_r (xw_get dM_gather_123 fM_205 (mV_n g1771) rfl) ?_
      refine xy_r (xg_astore_n dM_gather_126 (Nat.le_of_ble_eq_true rfl)) ?_
      refine xy_r (xw_Ln (L' := [some (.ref 2000), some (.ref (xn l1)), some (xw_rf (s.2.2.1.2.2.2.2.2.1 l1).2.2.1)]) rfl) ?_
      refine xy_r (xw_drop (L' := [some (.ref 2000), none, some (xw_rf (s.2.2.1.2.2.2.2.2.1 l1).2.2.1)]) ⟨rfl, ⟨rfl, trivial⟩⟩) ?_
      exact CM_gather_127 (hp := hp) hb xFuel (s := ((s.1.1, s.1.2.1, s.1.2.2.1, s.1.2.2.2.1, s.1.2.2.2.2.1, (s.1.2.2.2.2.2 + 1)), s.2.1, s.2.2.1, s.2.2.2.1, (s.2.2.2.2.1, s.2.2.2.2.2.1, s.2.2.2.2.2.2.1, (upd (upd (upd (upd s.2.2.2.2.2.2.2.1 ((4 * s.1.2.2.2.2.2)).toNatClampNeg (s.2.2.1.2.2.2.2.2.1 l1).2.1.1) (((4 * s.1.2.2.2.2.2) + 1)).toNatClampNeg (s.2.2.1.2.2.2.2.2.1 l1).2.1.2.1) (((4 * s.1.2.2.2.2.2) + 2)).toNatClampNeg (s.2.2.1.2.2.2.2.2.1 l1).2.1.1) (((4 * s.1.2.2.2.2.2) + 3)).toNatClampNeg (s.2.2.1.2.2.2.2.2.1 l1).2.1.2.2.2.2.2.1), s.2.2.2.2.2.2.2.2))) hm hF
  · replace hF := xg_t c1774 hF
    refine xy_r (xw_aload_n dM_gather_68 rfl) ?_
    refine xy_r (xw_get dM_gather_69 fM_389 (mV_n g1771) rfl) ?_
    refine xy_r (xw_goto 79 dM_gather_72 (by decide)) ?_
    obtain ⟨g1784, hF⟩ := xg_g hF
    refine xy_r (xg_iastore g1784 dM_gather_79 rfl (by decide) (by decide) (mV_e (s' := (s.1, s.2.1, s.2.2.1, s.2.2.2.1, (s.2.2.2.2.1, s.2.2.2.2.2.1, s.2.2.2.2.2.2.1, (upd (upd (upd s.2.2.2.2.2.2.2.1 ((4 * s.1.2.2.2.2.2)).toNatClampNeg (s.2.2.1.2.2.2.2.2.1 l1).2.1.1) (((4 * s.1.2.2.2.2.2) + 1)).toNatClampNeg (s.2.2.1.2.2.2.2.2.1 l1).2.1.2.1) (((4 * s.1.2.2.2.2.2) + 2)).toNatClampNeg (s.2.2.1.2.2.2.2.2.1 l1).2.1.2.2.2.2.1), s.2.2.2.2.2.2.2.2))) mV_corners rfl)) ?_
    refine xy_r (xw_aload_n dM_gather_80 rfl) ?_
    refine xy_r (xw_get dM_gather_81 fM_167 rfl rfl) ?_
    refine xy_r (xw_iconst (4) dM_gather_84 (by decide)) ?_
    refine xy_r (xw_aload_n dM_gather_85 rfl) ?_
    refine xy_r (xw_get dM_gather_86 fM_481 rfl rfl) ?_
    refine xy_r (xw_imul dM_gather_89) ?_
    refine xy_r (xw_iconst (3) dM_gather_90 (by decide)) ?_
    refine xy_r (xw_iadd dM_gather_91) ?_
    refine xy_r (xw_aload_n dM_gather_92 rfl) ?_
    refine xy_r (xw_get dM_gather_93 fM_192 (mV_n g1771) rfl) ?_
    refine xy_r (xw_iconst (5) dM_gather_96 (by decide)) ?_
    refine xy_brn (xw_icmp_ne 107 dM_gather_97 (by decide)) (fun c1785 => ?_) (fun c1785 => ?_)
    · replace hF := xg_f c1785 hF
      refine xy_r (xw_aload_n dM_gather_107 rfl) ?_
      refine xy_r (xw_get dM_gather_108 fM_371 (mV_n g1771) rfl) ?_
      obtain ⟨g1786, hF⟩ := xg_g hF
      refine xy_r (xg_iastore g1786 dM_gather_111 rfl (by decide) (by decide) (mV_e (s' := (s.1, s.2.1, s.2.2.1, s.2.2.2.1, (s.2.2.2.2.1, s.2.2.2.2.2.1, s.2.2.2.2.2.2.1, (upd (upd (upd (upd s.2.2.2.2.2.2.2.1 ((4 * s.1.2.2.2.2.2)).toNatClampNeg (s.2.2.1.2.2.2.2.2.1 l1).2.1.1) (((4 * s.1.2.2.2.2.2) + 1)).toNatClampNeg (s.2.2.1.2.2.2.2.2.1 l1).2.1.2.1) (((4 * s.1.2.2.2.2.2) + 2)).toNatClampNeg (s.2.2.1.2.2.2.2.2.1 l1).2.1.2.2.2.2.1) (((4 * s.1.2.2.2.2.2) + 3)).toNatClampNeg (s.2.2.1.2.2.2.2.2.1 l1).2.1.2.1), s.2.2.2.2.2.2.2.2))) mV_corners rfl)) ?_
      refine xy_r (xw_aload_n dM_gather_112 rfl) ?_
      refine xy_r (xw_dup_r dM_gather_113) ?_
      refine xy_r (xw_get dM_gather_114 fM_481 rfl rfl) ?_
      refine xy_r (xw_iconst (1) dM_gather_117 (by decide)) ?_
      refine xy_r (xw_iadd dM_gather_118) ?_
      refine xy_r (xg_put dM_gather_119 fM_481 rfl (by decide) (Nat.le_of_ble_eq_true rfl) (fun _ => rfl) (fun _ => rfl) (mV_o (s' := ((s.1.1, s.1.2.1, s.1.2.2.1, s.1.2.2.2.1, s.1.2.2.2.2.1, (s.1.2.2.2.2.2 + 1)), s.2.1, s.2.2.1, s.2.2.2.1, (s.2.2.2.2.1, s.2.2.2.2.2.1, s.2.2.2.2.2.2.1, (upd (upd (upd (upd s.2.2.2.2.2.2.2.1 ((4 * s.1.2.2.2.2.2)).toNatClampNeg (s.2.2.1.2.2.2.2.2.1 l1).2.1.1) (((4 * s.1.2.2.2.2.2) + 1)).toNatClampNeg (s.2.2.1.2.2.2.2.2.1 l1).2.1.2.1) (((4 * s.1.2.2.2.2.2) + 2)).toNatClampNeg (s.2.2.1.2.2.2.2.2.1 l1).2.1.2.2.2.2.1) (((4 * s.1.2.2.2.2.2) + 3)).toNatClampNeg (s.2.2.1.2.2.2.2.2.1 l1).2.1.2.1), s.2.2.2.2.2.2.2.2))) rfl)) ?_
      refine xy_r (xw_aload_n dM_gather_122 rfl) ?_
      refine xy_r (xw_get dM_gather_123 fM_205 (mV_n g1771) rfl) ?_
      refine xy_r (xg_astore_n dM_gather_126 (Nat.le_of_ble_eq_true rfl)) ?_
      refine xy_r (xw_Ln (L' := [some (.ref 2000), some (.ref (xn l1)), some (xw_rf (s.2.2.1.2.2.2.2.2.1 l1).2.2.1)]) rfl) ?_
      refine xy_r (xw_drop (L' := [some (.ref 2000), none, some (xw_rf (s.2.2.1.2.2.2.2.2.1 l1).2.2.1)]) ⟨rfl, ⟨rfl, trivial⟩⟩) ?_
      exact CM_gather_127 (hp := hp) hb xFuel (s := ((s.1.1, s.1.2.1, s.1.2.2.1, s.1.2.2.2.1, s.1.2.2.2.2.1, (s.1.2.2.2.2.2 + 1)), s.2.1, s.2.2.1, s.2.2.2.1, (s.2.2.2.2.1, s.2.2.2.2.2.1, s.2.2.2.2.2.2.1, (upd (upd (upd (upd s.2.2.2.2.2.2.2.1 ((4 * s.1.2.2.2.2.2)).toNatClampNeg (s.2.2.1.2.2.2.2.2.1 l1).2.1.1) (((4 * s.1.2.2.2.2.2) + 1)).toNatClampNeg (s.2.2.1.2.2.2.2.2.1 l1).2.1.2.1) (((4 * s.1.2.2.2.2.2) + 2)).toNatClampNeg (s.2.2.1.2.2.2.2.2.1 l1).2.1.2.2.2.2.1) (((4 * s.1.2.2.2.2.2) + 3)).toNatClampNeg (s.2.2.1.2.2.2.2.2.1 l1).2.1.2.1), s.2.2.2.2.2.2.2.2))) hm hF
    · replace hF := xg_t c1785 hF
      refine xy_r (xw_aload_n dM_gather_100 rfl) ?_
      refine xy_r (xw_get dM_gather_101 fM_398 (mV_n g1771) rfl) ?_
      refine xy_r (xw_goto 111 dM_gather_104 (by decide)) ?_
      obtain ⟨g1787, hF⟩ := xg_g hF
      refine xy_r (xg_iastore g1787 dM_gather_111 rfl (by decide) (by decide) (mV_e (s' := (s.1, s.2.1, s.2.2.1, s.2.2.2.1, (s.2.2.2.2.1, s.2.2.2.2.2.1, s.2.2.2.2.2.2.1, (upd (upd (upd (upd s.2.2.2.2.2.2.2.1 ((4 * s.1.2.2.2.2.2)).toNatClampNeg (s.2.2.1.2.2.2.2.2.1 l1).2.1.1) (((4 * s.1.2.2.2.2.2) + 1)).toNatClampNeg (s.2.2.1.2.2.2.2.2.1 l1).2.1.2.1) (((4 * s.1.2.2.2.2.2) + 2)).toNatClampNeg (s.2.2.1.2.2.2.2.2.1 l1).2.1.2.2.2.2.1) (((4 * s.1.2.2.2.2.2) + 3)).toNatClampNeg (s.2.2.1.2.2.2.2.2.1 l1).2.1.2.2.2.2.2.1), s.2.2.2.2.2.2.2.2))) mV_corners rfl)) ?_
      refine xy_r (xw_aload_n dM_gather_112 rfl) ?_
      refine xy_r (xw_dup_r dM_gather_113) ?_
      refine xy_r (xw_get dM_gather_114 fM_481 rfl rfl) ?_
      refine xy_r (xw_iconst (1) dM_gather_117 (by decide)) ?_
      refine xy_r (xw_iadd dM_gather_118) ?_
      refine xy_r (xg_put dM_gather_119 fM_481 rfl (by decide) (Nat.le_of_ble_eq_true rfl) (fun _ => rfl) (fun _ => rfl) (mV_o (s' := ((s.1.1, s.1.2.1, s.1.2.2.1, s.1.2.2.2.1, s.1.2.2.2.2.1, (s.1.2.2.2.2.2 + 1)), s.2.1, s.2.2.1, s.2.2.2.1, (s.2.2.2.2.1, s.2.2.2.2.2.1, s.2.2.2.2.2.2.1, (upd (upd (upd (upd s.2.2.2.2.2.2.2.1 ((4 * s.1.2.2.2.2.2)).toNatClampNeg (s.2.2.1.2.2.2.2.2.1 l1).2.1.1) (((4 * s.1.2.2.2.2.2) + 1)).toNatClampNeg (s.2.2.1.2.2.2.2.2.1 l1).2.1.2.1) (((4 * s.1.2.2.2.2.2) + 2)).toNatClampNeg (s.2.2.1.2.2.2.2.2.1 l1).2.1.2.2.2.2.1) (((4 * s.1.2.2.2.2.2) + 3)).toNatClampNeg (s.2.2.1.2.2.2.2.2.1 l1).2.1.2.2.2.2.2.1), s.2.2.2.2.2.2.2.2))) rfl)) ?_
      refine xy_r (xw_aload_n dM_gather_122 rfl) ?_
      refine xy_r (xw_get dM_gather_123 fM_205 (mV_n g1771) rfl) ?_
      refine xy_r (xg_astore_n dM_gather_126 (Nat.le_of_ble_eq_true rfl)) ?_
      refine xy_r (xw_Ln (L' := [some (.ref 2000), some (.ref (xn l1)), some (xw_rf (s.2.2.1.2.2.2.2.2.1 l1).2.2.1)]) rfl) ?_
      refine xy_r (xw_drop (L' := [some (.ref 2000), none, some (xw_rf (s.2.2.1.2.2.2.2.2.1 l1).2.2.1)]) ⟨rfl, ⟨rfl, trivial⟩⟩) ?_
      exact CM_gather_127 (hp := hp) hb xFuel (s := ((s.1.1, s.1.2.1, s.1.2.2.1, s.1.2.2.2.1, s.1.2.2.2.2.1, (s.1.2.2.2.2.2 + 1)), s.2.1, s.2.2.1, s.2.2.2.1, (s.2.2.2.2.1, s.2.2.2.2.2.1, s.2.2.2.2.2.2.1, (upd (upd (upd (upd s.2.2.2.2.2.2.2.1 ((4 * s.1.2.2.2.2.2)).toNatClampNeg (s.2.2.1.2.2.2.2.2.1 l1).2.1.1) (((4 * s.1.2.2.2.2.2) + 1)).toNatClampNeg (s.2.2.1.2.2.2.2.2.1 l1).2.1.2.1) (((4 * s.1.2.2.2.2.2) + 2)).toNatClampNeg (s.2.2.1.2.2.2.2.2.1 l1).2.1.2.2.2.2.1) (((4 * s.1.2.2.2.2.2) + 3)).toNatClampNeg (s.2.2.1.2.2.2.2.2.1 l1).2.1.2.2.2.2.2.1), s.2.2.2.2.2.2.2.2))) hm hF
set_option maxRecDepth 20000 in
theorem CM_gather {w : xw_G} {p : xTG} {d : Nat} (hp : xKG w p d) {h : xw_H} (hb : xMb h) {x0 : Nat} {s : xMs} {out : xMs} (hF : FM_gather p x0 s = some out) : (s.2.2.1.2.2.2.2.2.2.1 ≤ out.2.2.1.2.2.2.2.2.2.1 ∧ s.2.2.1.2.2.2.2.2.2.2 ≤ out.2.2.1.2.2.2.2.2.2.2) ∧ xw_C w (mM_gather { frames := (d + 1 + 20), cells := out.2.2.1.2.2.2.2.2.2.1 - s.2.2.1.2.2.2.2.2.2.1, slots := out.2.2.1.2.2.2.2.2.2.2 - s.2.2.1.2.2.2.2.2.2.2, locals := (60 * (d + 1) + 600) }) (xw_R none (mV out h)) [.ref 2000, .ref (xn x0)] (mV s h) := by
  unfold FM_gather at hF
  refine xy_enter (L := [some (.ref 2000), some (.ref (xn x0)), none]) (fun _ => rfl) (fun _ => rfl) (fun _ => (show plainName "FormulaShaperModel" = true by decide +kernel)) (fun _ => (Nat.le_of_ble_eq_true rfl)) (fun _ => rfl) ?_
  have hm : s.2.2.1.2.2.2.2.2.2.1 ≤ s.2.2.1.2.2.2.2.2.2.1 ∧ s.2.2.1.2.2.2.2.2.2.2 ≤ s.2.2.1.2.2.2.2.2.2.2 := ⟨Nat.le_refl _, Nat.le_refl _⟩
  refine xy_r (xw_aload_n dM_gather_0 rfl) ?_
  obtain ⟨g1769, hF⟩ := xg_g hF
  refine xy_r (xw_get dM_gather_1 fM_192 (mV_n g1769) rfl) ?_
  refine xy_r (xw_iconst (4) dM_gather_4 (by decide)) ?_
  refine xy_br (xw_icmp_eq 16 dM_gather_5 (by decide)) (fun c1770 => ?_) (fun c1770 => ?_)
  · replace hF := xg_t c1770 hF
    exact CM_gather_16 (hp := hp) hb (s := s) hm hF
  · replace hF := xg_f c1770 hF
    refine xy_r (xw_aload_n dM_gather_8 rfl) ?_
    refine xy_r (xw_get dM_gather_9 fM_192 (mV_n g1769) rfl) ?_
    refine xy_r (xw_iconst (5) dM_gather_12 (by decide)) ?_
    refine xy_brn (xw_icmp_ne 122 dM_gather_13 (by decide)) (fun c1788 => ?_) (fun c1788 => ?_)
    · replace hF := xg_f c1788 hF
      refine xy_r (xw_aload_n dM_gather_122 rfl) ?_
      refine xy_r (xw_get dM_gather_123 fM_205 (mV_n g1769) rfl) ?_
      refine xy_r (xg_astore_n dM_gather_126 (Nat.le_of_ble_eq_true rfl)) ?_
      refine xy_r (xw_Ln (L' := [some (.ref 2000), some (.ref (xn x0)), some (xw_rf (s.2.2.1.2.2.2.2.2.1 x0).2.2.1)]) rfl) ?_
      refine xy_r (xw_drop (L' := [some (.ref 2000), none, some (xw_rf (s.2.2.1.2.2.2.2.2.1 x0).2.2.1)]) ⟨rfl, ⟨rfl, trivial⟩⟩) ?_
      exact CM_gather_127 (hp := hp) hb xFuel (s := s) hm hF
    · replace hF := xg_t c1788 hF
      exact CM_gather_16 (hp := hp) hb (s := s) hm hF
def xUG : Nat → xTG
  | 0 => fun _ _ => none
  | d + 1 => FM_gather (xUG d)
theorem xVG (w : xw_G) : ∀ d : Nat, xKG w (xUG d) d
  | 0 => fun _ => fun q => (Option.some_ne_none _ q.symm).elim
  | d + 1 => fun hb => fun q => CM_gather (hp := xVG w d) hb q
def FM_G (x0 : Nat) (s : xMs) : Option xMs := (xUG 1100) x0 s
theorem CM_G {w : xw_G} {h : xw_H} (hb : xMb h) {x0 : Nat} {s : xMs} {out : xMs} (hF : FM_G x0 s = some out) : (s.2.2.1.2.2.2.2.2.2.1 ≤ out.2.2.1.2.2.2.2.2.2.1 ∧ s.2.2.1.2.2.2.2.2.2.2 ≤ out.2.2.1.2.2.2.2.2.2.2) ∧ xw_C w (mM_gather { frames := 1120, cells := out.2.2.1.2.2.2.2.2.2.1 - s.2.2.1.2.2.2.2.2.2.1, slots := out.2.2.1.2.2.2.2.2.2.2 - s.2.2.1.2.2.2.2.2.2.2, locals := 66600 }) (xw_R none (mV out h)) [.ref 2000, .ref (xn x0)] (mV s h) := (xVG w 1100) hb hF
