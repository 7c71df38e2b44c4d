/-- FormulaShaper.feed -/
def FS_feed  (x0 : Int32) (x1 : Int32) (x2 : Int32) (x3 : Int32) (x4 : Int32) (s : xSs) : Option (xo Int32 xSs) := (FB_size s.1).bind fun r459 => if (r459 + 20) ≤ 2000 then ((FB_addInt x0 s.1).bind fun r461 => (FB_addInt x1 r461).bind fun r462 => (FB_addInt x2 r462).bind fun r463 => (FB_addInt x3 r463).bind fun r464 => (FB_addInt x4 r464).bind fun r465 => (FB_size r465).bind fun r466 => some (.inl (r466, (r465, s.2.1, s.2.2.1, s.2.2.2.1, s.2.2.2.2.1, s.2.2.2.2.2.1, s.2.2.2.2.2.2)))) else (some (.inr ("java/lang/IndexOutOfBoundsException", s)))
set_option maxRecDepth 20000 in
theorem CS_feed {w : xw_G} {h : xw_H}   {x0 : Int32} {x1 : Int32} {x2 : Int32} {x3 : Int32} {x4 : Int32} {s : xSs} {out : (xo Int32 xSs)} (hF : FS_feed  x0 x1 x2 x3 x4 s = some out) : xw_C w (mS_feed { frames := 6, cells := 1, slots := 6, locals := 100 }) (xo_P (fun x => some (.int x)) (fun s => vS s h) out) [.ref 1000, .int x0, .int x1, .int x2, .int x3, .int x4] (vS s h) := by
  unfold FS_feed at hF
  refine xw_enter rfl (show plainName "FormulaShaper" = true by decide +kernel) (Nat.le_of_ble_eq_true rfl) ?_
  refine xw_aload_n dS_feed_0 rfl ?_
  refine xw_get dS_feed_1 fS_10 rfl rfl ?_
  obtain ⟨r459, er459, hF⟩ := xg_b hF
  refine xg_V1 (k1 := 0) (n1 := 0) (CB_size (a := 1001) (by decide) er459) (vS_B (s := s) (h := h)) (vS_B (s := s) (h := h)).symm rfl dS_feed_4 (kS_44 _) ⟨Nat.le_of_ble_eq_true rfl, Nat.le_of_ble_eq_true rfl⟩ rfl rfl rfl rfl (Nat.le_of_ble_eq_true rfl) (Nat.le_of_ble_eq_true rfl) (Nat.le_of_ble_eq_true rfl) (Nat.le_of_ble_eq_true rfl) (Nat.le_of_ble_eq_true rfl) ?_
  refine xw_bipush (20) dS_feed_7 (by decide) ?_
  refine xw_iadd dS_feed_9 ?_
  refine xw_sipush (2000) dS_feed_10 (by decide) ?_
  refine xw_icmp_le 24 dS_feed_13 (by decide) (fun c460 => ?_) (fun c460 => ?_)
  · replace hF := xg_t c460 hF
    refine xw_aload_n dS_feed_24 rfl ?_
    refine xw_get dS_feed_25 fS_10 rfl rfl ?_
    refine xw_iload_n dS_feed_28 rfl ?_
    obtain ⟨r461, er461, hF⟩ := xg_b hF
    refine xg_V0 (k1 := 0) (n1 := 0) (CB_addInt (a := 1001) (by decide) er461) (vS_B (s := s) (h := h)) (vS_B (s := (r461, s.2.1, s.2.2.1, s.2.2.2.1, s.2.2.2.2.1, s.2.2.2.2.2.1, s.2.2.2.2.2.2)) (h := h)).symm rfl dS_feed_29 (kS_51 _) ⟨Nat.le_of_ble_eq_true rfl, Nat.le_of_ble_eq_true rfl⟩ rfl rfl rfl rfl (Nat.le_of_ble_eq_true rfl) (Nat.le_of_ble_eq_true rfl) (Nat.le_of_ble_eq_true rfl) (Nat.le_of_ble_eq_true rfl) (Nat.le_of_ble_eq_true rfl) ?_
    refine xw_aload_n dS_feed_32 rfl ?_
    refine xw_get dS_feed_33 fS_10 rfl rfl ?_
    refine xw_iload_n dS_feed_36 rfl ?_
    obtain ⟨r462, er462, hF⟩ := xg_b hF
    refine xg_V0 (k1 := 0) (n1 := 0) (CB_addInt (a := 1001) (by decide) er462) (vS_B (s := (r461, s.2.1, s.2.2.1, s.2.2.2.1, s.2.2.2.2.1, s.2.2.2.2.2.1, s.2.2.2.2.2.2)) (h := h)) (vS_B (s := (r462, s.2.1, s.2.2.1, s.2.2.2.1, s.2.2.2.2.1, s.2.2.2.2.2.1, s.2.2.2.2.2.2)) (h := h)).symm rfl dS_feed_37 (kS_51 _) ⟨Nat.le_of_ble_eq_true rfl, Nat.le_of_ble_eq_true rfl⟩ rfl rfl rfl rfl (Nat.le_of_ble_eq_true rfl) (Nat.le_of_ble_eq_true rfl) (Nat.le_of_ble_eq_true rfl) (Nat.le_of_ble_eq_true rfl) (Nat.le_of_ble_eq_true rfl) ?_
    refine xw_aload_n dS_feed_40 rfl ?_
    refine xw_get dS_feed_41 fS_10 rfl rfl ?_
    refine xw_iload_n dS_feed_44 rfl ?_
    obtain ⟨r463, er463, hF⟩ := xg_b hF
    refine xg_V0 (k1 := 0) (n1 := 0) (CB_addInt (a := 1001) (by decide) er463) (vS_B (s := (r462, s.2.1, s.2.2.1, s.2.2.2.1, s.2.2.2.2.1, s.2.2.2.2.2.1, s.2.2.2.2.2.2)) (h := h)) (vS_B (s := (r463, s.2.1, s.2.2.1, s.2.2.2.1, s.2.2.2.2.1, s.2.2.2.2.2.1, s.2.2.2.2.2.2)) (h := h)).symm rfl dS_feed_45 (kS_51 _) ⟨Nat.le_of_ble_eq_true rfl, Nat.le_of_ble_eq_true rfl⟩ rfl rfl rfl rfl (Nat.le_of_ble_eq_true rfl) (Nat.le_of_ble_eq_true rfl) (Nat.le_of_ble_eq_true rfl) (Nat.le_of_ble_eq_true rfl) (Nat.le_of_ble_eq_true rfl) ?_
    refine xw_aload_n dS_feed_48 rfl ?_
    refine xw_get dS_feed_49 fS_10 rfl rfl ?_
    refine xw_iload dS_feed_52 rfl ?_
    obtain ⟨r464, er464, hF⟩ := xg_b hF
    refine xg_V0 (k1 := 0) (n1 := 0) (CB_addInt (a := 1001) (by decide) er464) (vS_B (s := (r463, s.2.1, s.2.2.1, s.2.2.2.1, s.2.2.2.2.1, s.2.2.2.2.2.1, s.2.2.2.2.2.2)) (h := h)) (vS_B (s := (r464, s.2.1, s.2.2.1, s.2.2.2.1, s.2.2.2.2.1, s.2.2.2.2.2.1, s.2.2.2.2.2.2)) (h := h)).symm rfl dS_feed_54 (kS_51 _) ⟨Nat.le_of_ble_eq_true rfl, Nat.le_of_ble_eq_true rfl⟩ rfl rfl rfl rfl (Nat.le_of_ble_eq_true rfl) (Nat.le_of_ble_eq_true rfl) (Nat.le_of_ble_eq_true rfl) (Nat.le_of_ble_eq_true rfl) (Nat.le_of_ble_eq_true rfl) ?_
    refine xw_aload_n dS_feed_57 rfl ?_
    refine xw_get dS_feed_58 fS_10 rfl rfl ?_
    refine xw_iload dS_feed_61 rfl ?_
    obtain ⟨r465, er465, hF⟩ := xg_b hF
    refine xg_V0 (k1 := 0) (n1 := 0) (CB_addInt (a := 1001) (by decide) er465) (vS_B (s := (r464, s.2.1, s.2.2.1, s.2.2.2.1, s.2.2.2.2.1, s.2.2.2.2.2.1, s.2.2.2.2.2.2)) (h := h)) (vS_B (s := (r465, s.2.1, s.2.2.1, s.2.2.2.1, s.2.2.2.2.1, s.2.2.2.2.2.1, s.2.2.2.2.2.2)) (h := h)).symm rfl dS_feed_63 (kS_51 _) ⟨Nat.le_of_ble_eq_true rfl, Nat.le_of_ble_eq_true rfl⟩ rfl rfl rfl rfl (Nat.le_of_ble_eq_true rfl) (Nat.le_of_ble_eq_true rfl) (Nat.le_of_ble_eq_true rfl) (Nat.le_of_ble_eq_true rfl) (Nat.le_of_ble_eq_true rfl) ?_
    refine xw_aload_n dS_feed_66 rfl ?_
    refine xw_get dS_feed_67 fS_10 rfl rfl ?_
    obtain ⟨r466, er466, hF⟩ := xg_b hF
    refine xg_V1 (k1 := 0) (n1 := 0) (CB_size (a := 1001) (by decide) er466) (vS_B (s := (r465, s.2.1, s.2.2.1, s.2.2.2.1, s.2.2.2.2.1, s.2.2.2.2.2.1, s.2.2.2.2.2.2)) (h := h)) (vS_B (s := (r465, s.2.1, s.2.2.1, s.2.2.2.1, s.2.2.2.2.1, s.2.2.2.2.2.1, s.2.2.2.2.2.2)) (h := h)).symm rfl dS_feed_70 (kS_44 _) ⟨Nat.le_of_ble_eq_true rfl, Nat.le_of_ble_eq_true rfl⟩ rfl rfl rfl rfl (Nat.le_of_ble_eq_true rfl) (Nat.le_of_ble_eq_true rfl) (Nat.le_of_ble_eq_true rfl) (Nat.le_of_ble_eq_true rfl) (Nat.le_of_ble_eq_true rfl) ?_
    obtain rfl := Option.some.inj hF
    exact xw_ireturn dS_feed_73 rfl rfl (Nat.le_of_ble_eq_true rfl) (Nat.le_of_ble_eq_true rfl) ⟨rfl, rfl⟩
  · replace hF := xg_f c460 hF
    obtain rfl := Option.some.inj hF
    exact xw_throw rfl tS_48 dS_feed_16 dS_feed_19 dS_feed_20 dS_feed_23 (Nat.le_of_ble_eq_true rfl) (Nat.le_of_ble_eq_true rfl) (Nat.le_of_ble_eq_true rfl) (Nat.le_of_ble_eq_true rfl) ⟨rfl, rfl⟩
/-- FormulaShaper.end -/
def FS_end  (x0 : Int32) (s : xSs) : Option (xo Int32 xSs) := if x0 < 0 then (some (.inr ("java/lang/IllegalArgumentException", s))) else ((FB_size s.1).bind fun r468 => if x0 ≤ r468 then ((FB_cut x0 s.1).bind fun r470 => some (.inl (x0, (r470, s.2.1, s.2.2.1, s.2.2.2.1, s.2.2.2.2.1, s.2.2.2.2.2.1, s.2.2.2.2.2.2)))) else (some (.inr ("java/lang/IllegalArgumentException", s))))
set_option maxRecDepth 20000 in
theorem CS_end {w : xw_G} {h : xw_H}   {x0 : Int32} {s : xSs} {out : (xo Int32 xSs)} (hF : FS_end  x0 s = some out) : xw_C w (mS_end { frames := 6, cells := 1, slots := 6, locals := 100 }) (xo_P (fun x => some (.int x)) (fun s => vS s h) out) [.ref 1000, .int x0] (vS s h) := by
  unfold FS_end at hF
  refine xw_enter rfl (show plainName "FormulaShaper" = true by decide +kernel) (Nat.le_of_ble_eq_true rfl) ?_
  refine xw_iload_n dS_end_0 rfl ?_
  refine xw_if_lt 15 dS_end_1 (by decide) (fun c467 => ?_) (fun c467 => ?_)
  · replace hF := xg_t c467 hF
    obtain rfl := Option.some.inj hF
    exact xw_throw rfl tS_55 dS_end_15 dS_end_18 dS_end_19 dS_end_22 (Nat.le_of_ble_eq_true rfl) (Nat.le_of_ble_eq_true rfl) (Nat.le_of_ble_eq_true rfl) (Nat.le_of_ble_eq_true rfl) ⟨rfl, rfl⟩
  · replace hF := xg_f c467 hF
    refine xw_iload_n dS_end_4 rfl ?_
    refine xw_aload_n dS_end_5 rfl ?_
    refine xw_get dS_end_6 fS_10 rfl rfl ?_
    obtain ⟨r468, er468, hF⟩ := xg_b hF
    refine xg_V1 (k1 := 0) (n1 := 0) (CB_size (a := 1001) (by decide) er468) (vS_B (s := s) (h := h)) (vS_B (s := s) (h := h)).symm rfl dS_end_9 (kS_44 _) ⟨Nat.le_of_ble_eq_true rfl, Nat.le_of_ble_eq_true rfl⟩ rfl rfl rfl rfl (Nat.le_of_ble_eq_true rfl) (Nat.le_of_ble_eq_true rfl) (Nat.le_of_ble_eq_true rfl) (Nat.le_of_ble_eq_true rfl) (Nat.le_of_ble_eq_true rfl) ?_
    refine xw_icmp_le 23 dS_end_12 (by decide) (fun c469 => ?_) (fun c469 => ?_)
    · replace hF := xg_t c469 hF
      refine xw_aload_n dS_end_23 rfl ?_
      refine xw_get dS_end_24 fS_10 rfl rfl ?_
      refine xw_iload_n dS_end_27 rfl ?_
      obtain ⟨r470, er470, hF⟩ := xg_b hF
      refine xg_V0 (k1 := 0) (n1 := 0) (CB_cut (a := 1001) (by decide) er470) (vS_B (s := s) (h := h)) (vS_B (s := (r470, s.2.1, s.2.2.1, s.2.2.2.1, s.2.2.2.2.1, s.2.2.2.2.2.1, s.2.2.2.2.2.2)) (h := h)).symm rfl dS_end_28 (kS_58 _) ⟨Nat.le_of_ble_eq_true rfl, Nat.le_of_ble_eq_true rfl⟩ rfl rfl rfl rfl (Nat.le_of_ble_eq_true rfl) (Nat.le_of_ble_eq_true rfl) (Nat.le_of_ble_eq_true rfl) (Nat.le_of_ble_eq_true rfl) (Nat.le_of_ble_eq_true rfl) ?_
      refine xw_iload_n dS_end_31 rfl ?_
      obtain rfl := Option.some.inj hF
      exact xw_ireturn dS_end_32 rfl rfl (Nat.le_of_ble_eq_true rfl) (Nat.le_of_ble_eq_true rfl) ⟨rfl, rfl⟩
    · replace hF := xg_f c469 hF
      obtain rfl := Option.some.inj hF
      exact xw_throw rfl tS_55 dS_end_15 dS_end_18 dS_end_19 dS_end_22 (Nat.le_of_ble_eq_true rfl) (Nat.le_of_ble_eq_true rfl) (Nat.le_of_ble_eq_true rfl) (Nat.le_of_ble_eq_true rfl) ⟨rfl, rfl⟩
/-- FormulaShaper.needFormula -/
def FS_needFormula   (s : xSs) : Option (xo Unit xSs) := if s.2.2.2.2.2.1 = true then (some (.inl ((), s))) else (some (.inr ("java/lang/IllegalStateException", s)))
set_option maxRecDepth 20000 in
theorem CS_needFormula {w : xw_G} {h : xw_H}    {s : xSs} {out : (xo Unit xSs)} (hF : FS_needFormula   s = some out) : xw_C w (mS_needFormula { frames := 6, cells := 1, slots := 6, locals := 100 }) (xo_P (fun x => none) (fun s => vS s h) out) [.ref 1000] (vS s h) := by
  unfold FS_needFormula at hF
  refine xw_enter rfl (show plainName "FormulaShaper" = true by decide +kernel) (Nat.le_of_ble_eq_true rfl) ?_
  refine xw_aload_n dS_needFormula_0 rfl ?_
  refine xw_get dS_needFormula_1 fS_36 rfl rfl ?_
  refine xw_if_neB 15 dS_needFormula_4 (by decide) (fun c471 => ?_) (fun c471 => ?_)
  · replace hF := xg_t c471 hF
    obtain rfl := Option.some.inj hF
    exact xw_return dS_needFormula_15 rfl (Nat.le_of_ble_eq_true rfl) (Nat.le_of_ble_eq_true rfl) ⟨rfl, rfl⟩
  · replace hF := xg_f c471 hF
    obtain rfl := Option.some.inj hF
    exact xw_throw rfl tS_151 dS_needFormula_7 dS_needFormula_10 dS_needFormula_11 dS_needFormula_14 (Nat.le_of_ble_eq_true rfl) (Nat.le_of_ble_eq_true rfl) (Nat.le_of_ble_eq_true rfl) (Nat.le_of_ble_eq_true rfl) ⟨rfl, rfl⟩
/-- FormulaShaper.show -/
def FS_show   (s : xSs) : Option (xo Int32 xSs) := xo_b (FS_needFormula s) fun r472 => (FB_cut 0 r472.2.2.1).bind fun r473 => (FF_writeTo r472.2.2.2.2.1 r473).bind fun r474 => (FB_size r474).bind fun r475 => some (.inl (r475, (r472.2.1, r474, r472.2.2.2.1, r472.2.2.2.2.1, r472.2.2.2.2.2.1, r472.2.2.2.2.2.2.1, r472.2.2.2.2.2.2.2)))
set_option maxRecDepth 20000 in
theorem CS_show {w : xw_G} {h : xw_H}    {s : xSs} {out : (xo Int32 xSs)} (hF : FS_show   s = some out) : xw_C w (mS_show { frames := 7, cells := 1, slots := 6, locals := 120 }) (xo_P (fun x => some (.int x)) (fun s => vS s h) out) [.ref 1000] (vS s h) := by
  unfold FS_show at hF
  refine xw_enter rfl (show plainName "FormulaShaper" = true by decide +kernel) (Nat.le_of_ble_eq_true rfl) ?_
  refine xw_aload_n dS_show_0 rfl ?_
  rcases xg_o hF with ⟨r472, er472, hF⟩ | ⟨r472, er472, hF⟩
  · refine xg_V0 (k1 := 1) (n1 := 6) (CS_needFormula er472) rfl rfl rfl dS_show_1 (kS_108 _) ⟨Nat.le_of_ble_eq_true rfl, Nat.le_of_ble_eq_true rfl⟩ rfl rfl rfl rfl (Nat.le_of_ble_eq_true rfl) (Nat.le_of_ble_eq_true rfl) (Nat.le_of_ble_eq_true rfl) (Nat.le_of_ble_eq_true rfl) (Nat.le_of_ble_eq_true rfl) ?_
    refine xw_aload_n dS_show_4 rfl ?_
    refine xw_get dS_show_5 fS_16 rfl rfl ?_
    refine xw_iconst (0) dS_show_8 (by decide) ?_
    obtain ⟨r473, er473, hF⟩ := xg_b hF
    refine xg_V0 (k1 := 1) (n1 := 6) (CB_cut (a := 1003) (by decide) er473) (vS_R (s := r472.2) (h := h)) (vS_R (s := (r472.2.1, r473, r472.2.2.2.1, r472.2.2.2.2.1, r472.2.2.2.2.2.1, r472.2.2.2.2.2.2.1, r472.2.2.2.2.2.2.2)) (h := h)).symm rfl dS_show_9 (kS_58 _) ⟨Nat.le_of_ble_eq_true rfl, Nat.le_of_ble_eq_true rfl⟩ rfl rfl rfl rfl (Nat.le_of_ble_eq_true rfl) (Nat.le_of_ble_eq_true rfl) (Nat.le_of_ble_eq_true rfl) (Nat.le_of_ble_eq_true rfl) (Nat.le_of_ble_eq_true rfl) ?_
    refine xw_aload_n dS_show_12 rfl ?_
    refine xw_get dS_show_13 fS_29 rfl rfl ?_
    refine xw_aload_n dS_show_16 rfl ?_
    refine xw_get dS_show_17 fS_16 rfl rfl ?_
    obtain ⟨r474, er474, hF⟩ := xg_b hF
    refine xg_V0 (k1 := 1) (n1 := 6) (CF_writeTo er474) (vS_W (s := (r472.2.1, r473, r472.2.2.2.1, r472.2.2.2.2.1, r472.2.2.2.2.2.1, r472.2.2.2.2.2.2.1, r472.2.2.2.2.2.2.2)) (h := h)) (vS_W (s := (r472.2.1, r474, r472.2.2.2.1, r472.2.2.2.2.1, r472.2.2.2.2.2.1, r472.2.2.2.2.2.2.1, r472.2.2.2.2.2.2.2)) (h := h)).symm rfl dS_show_20 (kS_111 _) ⟨Nat.le_of_ble_eq_true rfl, Nat.le_of_ble_eq_true rfl⟩ rfl rfl rfl rfl (Nat.le_of_ble_eq_true rfl) (Nat.le_of_ble_eq_true rfl) (Nat.le_of_ble_eq_true rfl) (Nat.le_of_ble_eq_true rfl) (Nat.le_of_ble_eq_true rfl) ?_
    refine xw_aload_n dS_show_23 rfl ?_
    refine xw_get dS_show_24 fS_16 rfl rfl ?_
    obtain ⟨r475, er475, hF⟩ := xg_b hF
    refine xg_V1 (k1 := 1) (n1 := 6) (CB_size (a := 1003) (by decide) er475) (vS_R (s := (r472.2.1, r474, r472.2.2.2.1, r472.2.2.2.2.1, r472.2.2.2.2.2.1, r472.2.2.2.2.2.2.1, r472.2.2.2.2.2.2.2)) (h := h)) (vS_R (s := (r472.2.1, r474, r472.2.2.2.1, r472.2.2.2.2.1, r472.2.2.2.2.2.1, r472.2.2.2.2.2.2.1, r472.2.2.2.2.2.2.2)) (h := h)).symm rfl dS_show_27 (kS_44 _) ⟨Nat.le_of_ble_eq_true rfl, Nat.le_of_ble_eq_true rfl⟩ rfl rfl rfl rfl (Nat.le_of_ble_eq_true rfl) (Nat.le_of_ble_eq_true rfl) (Nat.le_of_ble_eq_true rfl) (Nat.le_of_ble_eq_true rfl) (Nat.le_of_ble_eq_true rfl) ?_
    obtain rfl := Option.some.inj hF
    exact xw_ireturn dS_show_30 rfl rfl (Nat.le_of_ble_eq_true rfl) (Nat.le_of_ble_eq_true rfl) ⟨rfl, rfl⟩
  · subst hF
    exact xg_Vt (CS_needFormula er472) rfl rfl rfl dS_show_1 (kS_108 _) ⟨Nat.le_of_ble_eq_true rfl, Nat.le_of_ble_eq_true rfl⟩ rfl rfl rfl rfl (Nat.le_of_ble_eq_true rfl) (Nat.le_of_ble_eq_true rfl) (Nat.le_of_ble_eq_true rfl) ⟨rfl, rfl⟩
/-- FormulaShaper.reference -/
def FS_reference  (x0 : Int32) (x1 : Int32) (s : xSs) : Option (xo Int32 xSs) := if x1 < 0 then (some (.inr ("java/lang/IllegalArgumentException", s))) else (if x1 < 4 then (xo_b (FS_needFormula s) fun r478 => (FF_referenceAt x0 r478.2.2.2.2.1).bind fun r479 => if (lg_cmp r479 (-1)) = 0 then (some (.inr ("java/util/NoSuchElementException", r478.2))) else (if (x1 - x1 / 2 * 2) = 0 then (if 2 ≤ x1 then (some (.inl ((sA_number (sA_last (sR_rows r479))), r478.2))) else (some (.inl ((sA_number (sA_first (sR_rows r479))), r478.2)))) else (if 2 ≤ x1 then (some (.inl ((sA_number (sA_last (sR_columns r479))), r478.2))) else (some (.inl ((sA_number (sA_first (sR_columns r479))), r478.2)))))) else (some (.inr ("java/lang/IllegalArgumentException", s))))
set_option maxRecDepth 20000 in
theorem CS_reference {w : xw_G} {h : xw_H}   {x0 : Int32} {x1 : Int32} {s : xSs} {out : (xo Int32 xSs)} (hF : FS_reference  x0 x1 s = some out) : xw_C w (mS_reference { frames := 7, cells := 2, slots := 12, locals := 120 }) (xo_P (fun x => some (.int x)) (fun s => vS s h) out) [.ref 1000, .int x0, .int x1] (vS s h) := by
  unfold FS_reference at hF
  refine xw_enter rfl (show plainName "FormulaShaper" = true by decide +kernel) (Nat.le_of_ble_eq_true rfl) ?_
  refine xw_iload_n dS_reference_0 rfl ?_
  refine xw_if_lt 9 dS_reference_1 (by decide) (fun c476 => ?_) (fun c476 => ?_)
  · replace hF := xg_t c476 hF
    obtain rfl := Option.some.inj hF
    exact xw_throw rfl tS_55 dS_reference_9 dS_reference_12 dS_reference_13 dS_reference_16 (Nat.le_of_ble_eq_true rfl) (Nat.le_of_ble_eq_true rfl) (Nat.le_of_ble_eq_true rfl) (Nat.le_of_ble_eq_true rfl) ⟨rfl, rfl⟩
  · replace hF := xg_f c476 hF
    refine xw_iload_n dS_reference_4 rfl ?_
    refine xw_iconst (4) dS_reference_5 (by decide) ?_
    refine xw_icmp_lt 17 dS_reference_6 (by decide) (fun c477 => ?_) (fun c477 => ?_)
    · replace hF := xg_t c477 hF
      refine xw_aload_n dS_reference_17 rfl ?_
      rcases xg_o hF with ⟨r478, er478, hF⟩ | ⟨r478, er478, hF⟩
      · refine xg_V0 (k1 := 1) (n1 := 6) (CS_needFormula er478) rfl rfl rfl dS_reference_18 (kS_108 _) ⟨Nat.le_of_ble_eq_true rfl, Nat.le_of_ble_eq_true rfl⟩ rfl rfl rfl rfl (Nat.le_of_ble_eq_true rfl) (Nat.le_of_ble_eq_true rfl) (Nat.le_of_ble_eq_true rfl) (Nat.le_of_ble_eq_true rfl) (Nat.le_of_ble_eq_true rfl) ?_
        refine xw_aload_n dS_reference_21 rfl ?_
        refine xw_get dS_reference_22 fS_29 rfl rfl ?_
        refine xw_iload_n dS_reference_25 rfl ?_
        obtain ⟨r479, er479, hF⟩ := xg_b hF
        refine xg_V1 (k1 := 1) (n1 := 6) (CF_referenceAt (a := 1008) (by decide) er479) (vS_F (s := r478.2) (h := h)) (vS_F (s := r478.2) (h := h)).symm rfl dS_reference_26 (kS_115 _) ⟨Nat.le_of_ble_eq_true rfl, Nat.le_of_ble_eq_true rfl⟩ rfl rfl rfl rfl (Nat.le_of_ble_eq_true rfl) (Nat.le_of_ble_eq_true rfl) (Nat.le_of_ble_eq_true rfl) (Nat.le_of_ble_eq_true rfl) (Nat.le_of_ble_eq_true rfl) ?_
        refine xw_lstore_n dS_reference_29 (Nat.le_of_ble_eq_true rfl) ?_
        refine xw_Ln (L' := [some (.ref 1000), some (.int x0), some (.int x1), some (.long r479), none, none]) rfl ?_
        refine xw_lload_n dS_reference_30 rfl ?_
        refine xw_ldc2 dS_reference_31 tw_852 ?_
        refine xw_lcmp dS_reference_34 ?_
        refine xw_if_ne 46 dS_reference_35 (by decide) (fun c480 => ?_) (fun c480 => ?_)
        · replace hF := xg_f c480 hF
          refine xw_iload_n dS_reference_46 rfl ?_
          refine xw_iconst (2) dS_reference_47 (by decide) ?_
          refine xw_irem dS_reference_48 (by decide) ?_
          refine xw_if_ne 59 dS_reference_49 (by decide) (fun c481 => ?_) (fun c481 => ?_)
          · replace hF := xg_f c481 hF
            refine xw_lload_n dS_reference_59 rfl ?_
            refine xg_S1 (k1 := 1) (n1 := 6) (cR_columns w) rfl rfl rfl dS_reference_60 (kS_130 _) ⟨Nat.le_of_ble_eq_true rfl, Nat.le_of_ble_eq_true rfl⟩ rfl rfl (Nat.le_of_ble_eq_true rfl) (Nat.le_of_ble_eq_true rfl) (Nat.le_of_ble_eq_true rfl) (Nat.le_of_ble_eq_true rfl) (Nat.le_of_ble_eq_true rfl) ?_
            refine xw_istore dS_reference_63 (Nat.le_of_ble_eq_true rfl) ?_
            refine xw_Ln (L' := [some (.ref 1000), some (.int x0), some (.int x1), some (.long r479), none, some (.int (sR_columns r479))]) rfl ?_
            refine xw_iload_n dS_reference_65 rfl ?_
            refine xw_iconst (2) dS_reference_66 (by decide) ?_
            refine xw_icmp_ge 78 dS_reference_67 (by decide) (fun c482 => ?_) (fun c482 => ?_)
            · replace hF := xg_t c482 hF
              refine xw_iload dS_reference_78 rfl ?_
              refine xg_S1 (k1 := 1) (n1 := 6) (cA_last w) rfl rfl rfl dS_reference_80 (kS_139 _) ⟨Nat.le_of_ble_eq_true rfl, Nat.le_of_ble_eq_true rfl⟩ rfl rfl (Nat.le_of_ble_eq_true rfl) (Nat.le_of_ble_eq_true rfl) (Nat.le_of_ble_eq_true rfl) (Nat.le_of_ble_eq_true rfl) (Nat.le_of_ble_eq_true rfl) ?_
              refine xg_S1 (k1 := 1) (n1 := 6) (cA_number w) rfl rfl rfl dS_reference_83 (kS_142 _) ⟨Nat.le_of_ble_eq_true rfl, Nat.le_of_ble_eq_true rfl⟩ rfl rfl (Nat.le_of_ble_eq_true rfl) (Nat.le_of_ble_eq_true rfl) (Nat.le_of_ble_eq_true rfl) (Nat.le_of_ble_eq_true rfl) (Nat.le_of_ble_eq_true rfl) ?_
              obtain rfl := Option.some.inj hF
              exact xw_ireturn dS_reference_86 rfl rfl (Nat.le_of_ble_eq_true rfl) (Nat.le_of_ble_eq_true rfl) ⟨rfl, rfl⟩
            · replace hF := xg_f c482 hF
              refine xw_iload dS_reference_70 rfl ?_
              refine xg_S1 (k1 := 1) (n1 := 6) (cA_first w) rfl rfl rfl dS_reference_72 (kS_133 _) ⟨Nat.le_of_ble_eq_true rfl, Nat.le_of_ble_eq_true rfl⟩ rfl rfl (Nat.le_of_ble_eq_true rfl) (Nat.le_of_ble_eq_true rfl) (Nat.le_of_ble_eq_true rfl) (Nat.le_of_ble_eq_true rfl) (Nat.le_of_ble_eq_true rfl) ?_
              refine xw_goto 83 dS_reference_75 (by decide) ?_
              refine xg_S1 (k1 := 1) (n1 := 6) (cA_number w) rfl rfl rfl dS_reference_83 (kS_142 _) ⟨Nat.le_of_ble_eq_true rfl, Nat.le_of_ble_eq_true rfl⟩ rfl rfl (Nat.le_of_ble_eq_true rfl) (Nat.le_of_ble_eq_true rfl) (Nat.le_of_ble_eq_true rfl) (Nat.le_of_ble_eq_true rfl) (Nat.le_of_ble_eq_true rfl) ?_
              obtain rfl := Option.some.inj hF
              exact xw_ireturn dS_reference_86 rfl rfl (Nat.le_of_ble_eq_true rfl) (Nat.le_of_ble_eq_true rfl) ⟨rfl, rfl⟩
          · replace hF := xg_t c481 hF
            refine xw_lload_n dS_reference_52 rfl ?_
            refine xg_S1 (k1 := 1) (n1 := 6) (cR_rows w) rfl rfl rfl dS_reference_53 (kS_126 _) ⟨Nat.le_of_ble_eq_true rfl, Nat.le_of_ble_eq_true rfl⟩ rfl rfl (Nat.le_of_ble_eq_true rfl) (Nat.le_of_ble_eq_true rfl) (Nat.le_of_ble_eq_true rfl) (Nat.le_of_ble_eq_true rfl) (Nat.le_of_ble_eq_true rfl) ?_
            refine xw_goto 63 dS_reference_56 (by decide) ?_
            refine xw_istore dS_reference_63 (Nat.le_of_ble_eq_true rfl) ?_
            refine xw_Ln (L' := [some (.ref 1000), some (.int x0), some (.int x1), some (.long r479), none, some (.int (sR_rows r479))]) rfl ?_
            refine xw_iload_n dS_reference_65 rfl ?_
            refine xw_iconst (2) dS_reference_66 (by decide) ?_
            refine xw_icmp_ge 78 dS_reference_67 (by decide) (fun c483 => ?_) (fun c483 => ?_)
            · replace hF := xg_t c483 hF
              refine xw_iload dS_reference_78 rfl ?_
              refine xg_S1 (k1 := 1) (n1 := 6) (cA_last w) rfl rfl rfl dS_reference_80 (kS_139 _) ⟨Nat.le_of_ble_eq_true rfl, Nat.le_of_ble_eq_true rfl⟩ rfl rfl (Nat.le_of_ble_eq_true rfl) (Nat.le_of_ble_eq_true rfl) (Nat.le_of_ble_eq_true rfl) (Nat.le_of_ble_eq_true rfl) (Nat.le_of_ble_eq_true rfl) ?_
              refine xg_S1 (k1 := 1) (n1 := 6) (cA_number w) rfl rfl rfl dS_reference_83 (kS_142 _) ⟨Nat.le_of_ble_eq_true rfl, Nat.le_of_ble_eq_true rfl⟩ rfl rfl (Nat.le_of_ble_eq_true rfl) (Nat.le_of_ble_eq_true rfl) (Nat.le_of_ble_eq_true rfl) (Nat.le_of_ble_eq_true rfl) (Nat.le_of_ble_eq_true rfl) ?_
              obtain rfl := Option.some.inj hF
              exact xw_ireturn dS_reference_86 rfl rfl (Nat.le_of_ble_eq_true rfl) (Nat.le_of_ble_eq_true rfl) ⟨rfl, rfl⟩
            · replace hF := xg_f c483 hF
              refine xw_iload dS_reference_70 rfl ?_
              refine xg_S1 (k1 := 1) (n1 := 6) (cA_first w) rfl rfl rfl dS_reference_72 (kS_133 _) ⟨Nat.le_of_ble_eq_true rfl, Nat.le_of_ble_eq_true rfl⟩ rfl rfl (Nat.le_of_ble_eq_true rfl) (Nat.le_of_ble_eq_true rfl) (Nat.le_of_ble_eq_true rfl) (Nat.le_of_ble_eq_true rfl) (Nat.le_of_ble_eq_true rfl) ?_
              refine xw_goto 83 dS_reference_75 (by decide) ?_
              refine xg_S1 (k1 := 1) (n1 := 6) (cA_number w) rfl rfl rfl dS_reference_83 (kS_142 _) ⟨Nat.le_of_ble_eq_true rfl, Nat.le_of_ble_eq_true rfl⟩ rfl rfl (Nat.le_of_ble_eq_true rfl) (Nat.le_of_ble_eq_true rfl) (Nat.le_of_ble_eq_true rfl) (Nat.le_of_ble_eq_true rfl) (Nat.le_of_ble_eq_true rfl) ?_
              obtain rfl := Option.some.inj hF
              exact xw_ireturn dS_reference_86 rfl rfl (Nat.le_of_ble_eq_true rfl) (Nat.le_of_ble_eq_true rfl) ⟨rfl, rfl⟩
        · replace hF := xg_t c480 hF
          obtain rfl := Option.some.inj hF
          exact xw_throw rfl tS_123 dS_reference_38 dS_reference_41 dS_reference_42 dS_reference_45 (Nat.le_of_ble_eq_true rfl) (Nat.le_of_ble_eq_true rfl) (Nat.le_of_ble_eq_true rfl) (Nat.le_of_ble_eq_true rfl) ⟨rfl, rfl⟩
      · subst hF
        exact xg_Vt (CS_needFormula er478) rfl rfl rfl dS_reference_18 (kS_108 _) ⟨Nat.le_of_ble_eq_true rfl, Nat.le_of_ble_eq_true rfl⟩ rfl rfl rfl rfl (Nat.le_of_ble_eq_true rfl) (Nat.le_of_ble_eq_true rfl) (Nat.le_of_ble_eq_true rfl) ⟨rfl, rfl⟩
    · replace hF := xg_f c477 hF
      obtain rfl := Option.some.inj hF
      exact xw_throw rfl tS_55 dS_reference_9 dS_reference_12 dS_reference_13 dS_reference_16 (Nat.le_of_ble_eq_true rfl) (Nat.le_of_ble_eq_true rfl) (Nat.le_of_ble_eq_true rfl) (Nat.le_of_ble_eq_true rfl) ⟨rfl, rfl⟩
def FS_word_28  : Nat → Int32 → Int64 → Int32 → xSs → Option (xo Int64 xSs)
  | 0, _, _, _, _ => none
  | fu + 1, l1, l2, l4, s => if (l1 + 8) ≤ l4 then (some (.inl (l2, s))) else ((FB_size s.2.1).bind fun r488 => if r488 ≤ l4 then (FS_word_28  fu l1 ((l2 <<< (Int32.toInt64 8 &&& 63)) ||| (Int32.toInt64 0)) (l4 + 1) s) else ((FB_at l4 s.2.1).bind fun r490 => FS_word_28  fu l1 ((l2 <<< (Int32.toInt64 8 &&& 63)) ||| (Int32.toInt64 r490)) (l4 + 1) s))
/-- FormulaShaper.word -/
def FS_word  (x0 : Int32) (s : xSs) : Option (xo Int64 xSs) := if x0 < 0 then (some (.inr ("java/lang/IndexOutOfBoundsException", s))) else ((FB_size s.2.1).bind fun r485 => if x0 < r485 then (FS_word_28  xFuel x0 0 x0 s) else (some (.inr ("java/lang/IndexOutOfBoundsException", s))))
set_option maxRecDepth 20000 in
theorem CS_word_28 {w : xw_G} {h : xw_H}   : ∀ (fu : Nat) {l1 : Int32} {l2 : Int64} {l4 : Int32} {s : xSs} {out : (xo Int64 xSs)} {h0 : xw_H}, FS_word_28  fu l1 l2 l4 s = some out → xw_X w (mS_word { frames := 6, cells := 1, slots := 6, locals := 100 }) (xo_P (fun x => some (.long x)) (fun s => vS s h) out) h0 0 0 28 [some (.ref 1000), some (.int l1), some (.long l2), none, some (.int l4)] [] (vS s h) := by
  intro fu
  induction fu with
  | zero =>
    intro l1 l2 l4 s out h0 hF
    rw [FS_word_28] at hF
    cases hF
  | succ fu ih =>
    intro l1 l2 l4 s out h0 hF
    rw [FS_word_28] at hF
    refine xw_iload dS_word_28 rfl ?_
    refine xw_iload_n dS_word_30 rfl ?_
    refine xw_bipush (8) dS_word_31 (by decide) ?_
    refine xw_iadd dS_word_33 ?_
    refine xw_icmp_ge 75 dS_word_34 (by decide) (fun c487 => ?_) (fun c487 => ?_)
    · replace hF := xg_t c487 hF
      refine xw_lload_n dS_word_75 rfl ?_
      obtain rfl := Option.some.inj hF
      exact xw_lreturn dS_word_76 rfl (Nat.le_of_ble_eq_true rfl) (Nat.le_of_ble_eq_true rfl) ⟨rfl, rfl⟩
    · replace hF := xg_f c487 hF
      refine xw_lload_n dS_word_37 rfl ?_
      refine xw_bipush (8) dS_word_38 (by decide) ?_
      refine xw_lshl dS_word_40 ?_
      refine xw_iload dS_word_41 rfl ?_
      refine xw_aload_n dS_word_43 rfl ?_
      refine xw_get dS_word_44 fS_16 rfl rfl ?_
      obtain ⟨r488, er488, hF⟩ := xg_b hF
      refine xg_V1 (k1 := 0) (n1 := 0) (CB_size (a := 1003) (by decide) er488) (vS_R (s := s) (h := h)) (vS_R (s := s) (h := h)).symm rfl dS_word_47 (kS_44 _) ⟨Nat.le_of_ble_eq_true rfl, Nat.le_of_ble_eq_true rfl⟩ rfl rfl rfl rfl (Nat.le_of_ble_eq_true rfl) (Nat.le_of_ble_eq_true rfl) (Nat.le_of_ble_eq_true rfl) (Nat.le_of_ble_eq_true rfl) (Nat.le_of_ble_eq_true rfl) ?_
      refine xw_icmp_ge 65 dS_word_50 (by decide) (fun c489 => ?_) (fun c489 => ?_)
      · replace hF := xg_t c489 hF
        refine xw_iconst (0) dS_word_65 (by decide) ?_
        refine xw_i2l dS_word_66 ?_
        refine xw_lor dS_word_67 ?_
        refine xw_lstore_n dS_word_68 (Nat.le_of_ble_eq_true rfl) ?_
        refine xw_Ln (L' := [some (.ref 1000), some (.int l1), some (.long ((l2 <<< (Int32.toInt64 8 &&& 63)) ||| (Int32.toInt64 0))), none, some (.int l4)]) rfl ?_
        refine xw_iinc ((l4 + 1)) dS_word_69 rfl rfl (Nat.le_of_ble_eq_true rfl) ?_
        refine xw_Ln (L' := [some (.ref 1000), some (.int l1), some (.long ((l2 <<< (Int32.toInt64 8 &&& 63)) ||| (Int32.toInt64 0))), none, some (.int (l4 + 1))]) rfl ?_
        refine xw_goto 28 dS_word_72 (by decide) ?_
        exact ih hF
      · replace hF := xg_f c489 hF
        refine xw_aload_n dS_word_53 rfl ?_
        refine xw_get dS_word_54 fS_16 rfl rfl ?_
        refine xw_iload dS_word_57 rfl ?_
        obtain ⟨r490, er490, hF⟩ := xg_b hF
        refine xg_V1 (k1 := 0) (n1 := 0) (CB_at (a := 1003) (by decide) er490) (vS_R (s := s) (h := h)) (vS_R (s := s) (h := h)).symm rfl dS_word_59 (kS_145 _) ⟨Nat.le_of_ble_eq_true rfl, Nat.le_of_ble_eq_true rfl⟩ rfl rfl rfl rfl (Nat.le_of_ble_eq_true rfl) (Nat.le_of_ble_eq_true rfl) (Nat.le_of_ble_eq_true rfl) (Nat.le_of_ble_eq_true rfl) (Nat.le_of_ble_eq_true rfl) ?_
        refine xw_goto 66 dS_word_62 (by decide) ?_
        refine xw_i2l dS_word_66 ?_
        refine xw_lor dS_word_67 ?_
        refine xw_lstore_n dS_word_68 (Nat.le_of_ble_eq_true rfl) ?_
        refine xw_Ln (L' := [some (.ref 1000), some (.int l1), some (.long ((l2 <<< (Int32.toInt64 8 &&& 63)) ||| (Int32.toInt64 r490))), none, some (.int l4)]) rfl ?_
        refine xw_iinc ((l4 + 1)) dS_word_69 rfl rfl (Nat.le_of_ble_eq_true rfl) ?_
        refine xw_Ln (L' := [some (.ref 1000), some (.int l1), some (.long ((l2 <<< (Int32.toInt64 8 &&& 63)) ||| (Int32.toInt64 r490))), none, some (.int (l4 + 1))]) rfl ?_
        refine xw_goto 28 dS_word_72 (by decide) ?_
        exact ih hF
set_option maxRecDepth 20000 in
theorem CS_word {w : xw_G} {h : xw_H}   {x0 : Int32} {s : xSs} {out : (xo Int64 xSs)} (hF : FS_word  x0 s = some out) : xw_C w (mS_word { frames := 6, cells := 1, slots := 6, locals := 100 }) (xo_P (fun x => some (.long x)) (fun s => vS s h) out) [.ref 1000, .int x0] (vS s h) := by
  unfold FS_word at hF
  refine xw_enter rfl (show plainName "FormulaShaper" = true by decide +kernel) (Nat.le_of_ble_eq_true rfl) ?_
  refine xw_iload_n dS_word_0 rfl ?_
  refine xw_if_lt 15 dS_word_1 (by decide) (fun c484 => ?_) (fun c484 => ?_)
  · replace hF := xg_t c484 hF
    obtain rfl := Option.some.inj hF
    exact xw_throw rfl tS_48 dS_word_15 dS_word_18 dS_word_19 dS_word_22 (Nat.le_of_ble_eq_true rfl) (Nat.le_of_ble_eq_true rfl) (Nat.le_of_ble_eq_true rfl) (Nat.le_of_ble_eq_true rfl) ⟨rfl, rfl⟩
  · replace hF := xg_f c484 hF
    refine xw_iload_n dS_word_4 rfl ?_
    refine xw_aload_n dS_word_5 rfl ?_
    refine xw_get dS_word_6 fS_16 rfl rfl ?_
    obtain ⟨r485, er485, hF⟩ := xg_b hF
    refine xg_V1 (k1 := 0) (n1 := 0) (CB_size (a := 1003) (by decide) er485) (vS_R (s := s) (h := h)) (vS_R (s := s) (h := h)).symm rfl dS_word_9 (kS_44 _) ⟨Nat.le_of_ble_eq_true rfl, Nat.le_of_ble_eq_true rfl⟩ rfl rfl rfl rfl (Nat.le_of_ble_eq_true rfl) (Nat.le_of_ble_eq_true rfl) (Nat.le_of_ble_eq_true rfl) (Nat.le_of_ble_eq_true rfl) (Nat.le_of_ble_eq_true rfl) ?_
    refine xw_icmp_lt 23 dS_word_12 (by decide) (fun c486 => ?_) (fun c486 => ?_)
    · replace hF := xg_t c486 hF
      refine xw_lconst (0) dS_word_23 (by decide) ?_
      refine xw_lstore_n dS_word_24 (Nat.le_of_ble_eq_true rfl) ?_
      refine xw_Ln (L' := [some (.ref 1000), some (.int x0), some (.long 0), none, none]) rfl ?_
      refine xw_iload_n dS_word_25 rfl ?_
      refine xw_istore dS_word_26 (Nat.le_of_ble_eq_true rfl) ?_
      refine xw_Ln (L' := [some (.ref 1000), some (.int x0), some (.long 0), none, some (.int x0)]) rfl ?_
      exact CS_word_28 xFuel hF
    · replace hF := xg_f c486 hF
      obtain rfl := Option.some.inj hF
      exact xw_throw rfl tS_48 dS_word_15 dS_word_18 dS_word_19 dS_word_22 (Nat.le_of_ble_eq_true rfl) (Nat.le_of_ble_eq_true rfl) (Nat.le_of_ble_eq_true rfl) (Nat.le_of_ble_eq_true rfl) ⟨rfl, rfl⟩
/-- FormulaShaper.count -/
def FS_count  (x0 : Int32) (s : xSs) : Option (xo Int32 xSs) := if x0 = 0 then ((FB_size s.1).bind fun r492 => some (.inl (r492, s))) else (if x0 = 1 then ((FB_size s.2.1).bind fun r494 => some (.inl (r494, s))) else (if x0 = 2 then (some (.inl (s.2.2.2.2.2.2, s))) else (if x0 = 3 then (if s.2.2.2.2.2.1 = true then ((FF_references s.2.2.2.1).bind fun r498 => some (.inl (r498, s))) else (some (.inl (0, s)))) else (some (.inr ("java/lang/IllegalArgumentException", s))))))
set_option maxRecDepth 20000 in
theorem CS_count {w : xw_G} {h : xw_H}   {x0 : Int32} {s : xSs} {out : (xo Int32 xSs)} (hF : FS_count  x0 s = some out) : xw_C w (mS_count { frames := 6, cells := 1, slots := 6, locals := 100 }) (xo_P (fun x => some (.int x)) (fun s => vS s h) out) [.ref 1000, .int x0] (vS s h) := by
  unfold FS_count at hF
  refine xw_enter rfl (show plainName "FormulaShaper" = true by decide +kernel) (Nat.le_of_ble_eq_true rfl) ?_
  refine xw_iload_n dS_count_0 rfl ?_
  by_cases c491 : x0 = 0
  · replace hF := xg_t c491 hF
    refine xw_tableIn (off := 31) 32 dS_count_1 (by rw [c491]; decide) (by rw [c491]; decide) (by rw [c491]; rfl) (by decide) ?_
    refine xw_aload_n dS_count_32 rfl ?_
    refine xw_get dS_count_33 fS_10 rfl rfl ?_
    obtain ⟨r492, er492, hF⟩ := xg_b hF
    refine xg_V1 (k1 := 0) (n1 := 0) (CB_size (a := 1001) (by decide) er492) (vS_B (s := s) (h := h)) (vS_B (s := s) (h := h)).symm rfl dS_count_36 (kS_44 _) ⟨Nat.le_of_ble_eq_true rfl, Nat.le_of_ble_eq_true rfl⟩ rfl rfl rfl rfl (Nat.le_of_ble_eq_true rfl) (Nat.le_of_ble_eq_true rfl) (Nat.le_of_ble_eq_true rfl) (Nat.le_of_ble_eq_true rfl) (Nat.le_of_ble_eq_true rfl) ?_
    obtain rfl := Option.some.inj hF
    exact xw_ireturn dS_count_39 rfl rfl (Nat.le_of_ble_eq_true rfl) (Nat.le_of_ble_eq_true rfl) ⟨rfl, rfl⟩
  replace hF := xg_f c491 hF
  by_cases c493 : x0 = 1
  · replace hF := xg_t c493 hF
    refine xw_tableIn (off := 39) 40 dS_count_1 (by rw [c493]; decide) (by rw [c493]; decide) (by rw [c493]; rfl) (by decide) ?_
    refine xw_aload_n dS_count_40 rfl ?_
    refine xw_get dS_count_41 fS_16 rfl rfl ?_
    obtain ⟨r494, er494, hF⟩ := xg_b hF
    refine xg_V1 (k1 := 0) (n1 := 0) (CB_size (a := 1003) (by decide) er494) (vS_R (s := s) (h := h)) (vS_R (s := s) (h := h)).symm rfl dS_count_44 (kS_44 _) ⟨Nat.le_of_ble_eq_true rfl, Nat.le_of_ble_eq_true rfl⟩ rfl rfl rfl rfl (Nat.le_of_ble_eq_true rfl) (Nat.le_of_ble_eq_true rfl) (Nat.le_of_ble_eq_true rfl) (Nat.le_of_ble_eq_true rfl) (Nat.le_of_ble_eq_true rfl) ?_
    obtain rfl := Option.some.inj hF
    exact xw_ireturn dS_count_47 rfl rfl (Nat.le_of_ble_eq_true rfl) (Nat.le_of_ble_eq_true rfl) ⟨rfl, rfl⟩
  replace hF := xg_f c493 hF
  by_cases c495 : x0 = 2
  · replace hF := xg_t c495 hF
    refine xw_tableIn (off := 47) 48 dS_count_1 (by rw [c495]; decide) (by rw [c495]; decide) (by rw [c495]; rfl) (by decide) ?_
    refine xw_aload_n dS_count_48 rfl ?_
    refine xw_get dS_count_49 fS_40 rfl rfl ?_
    obtain rfl := Option.some.inj hF
    exact xw_ireturn dS_count_52 rfl rfl (Nat.le_of_ble_eq_true rfl) (Nat.le_of_ble_eq_true rfl) ⟨rfl, rfl⟩
  replace hF := xg_f c495 hF
  by_cases c496 : x0 = 3
  · replace hF := xg_t c496 hF
    refine xw_tableIn (off := 52) 53 dS_count_1 (by rw [c496]; decide) (by rw [c496]; decide) (by rw [c496]; rfl) (by decide) ?_
    refine xw_aload_n dS_count_53 rfl ?_
    refine xw_get dS_count_54 fS_36 rfl rfl ?_
    refine xw_if_eqB 70 dS_count_57 (by decide) (fun c497 => ?_) (fun c497 => ?_)
    · replace hF := xg_f c497 hF
      refine xw_iconst (0) dS_count_70 (by decide) ?_
      obtain rfl := Option.some.inj hF
      exact xw_ireturn dS_count_71 rfl rfl (Nat.le_of_ble_eq_true rfl) (Nat.le_of_ble_eq_true rfl) ⟨rfl, rfl⟩
    · replace hF := xg_t c497 hF
      refine xw_aload_n dS_count_60 rfl ?_
      refine xw_get dS_count_61 fS_29 rfl rfl ?_
      obtain ⟨r498, er498, hF⟩ := xg_b hF
      refine xg_V1 (k1 := 0) (n1 := 0) (CF_references (a := 1008) (by decide) er498) (vS_F (s := s) (h := h)) (vS_F (s := s) (h := h)).symm rfl dS_count_64 (kS_148 _) ⟨Nat.le_of_ble_eq_true rfl, Nat.le_of_ble_eq_true rfl⟩ rfl rfl rfl rfl (Nat.le_of_ble_eq_true rfl) (Nat.le_of_ble_eq_true rfl) (Nat.le_of_ble_eq_true rfl) (Nat.le_of_ble_eq_true rfl) (Nat.le_of_ble_eq_true rfl) ?_
      refine xw_goto 71 dS_count_67 (by decide) ?_
      obtain rfl := Option.some.inj hF
      exact xw_ireturn dS_count_71 rfl rfl (Nat.le_of_ble_eq_true rfl) (Nat.le_of_ble_eq_true rfl) ⟨rfl, rfl⟩
  replace hF := xg_f c496 hF
  refine xw_tableOut 72 dS_count_1 (xg_swo (N := 4) (by decide) (by intro j hj; match j, hj with | 0, _ => exact c491 | 1, _ => exact c493 | 2, _ => exact c495 | 3, _ => exact c496 | k + 4, hk => exact absurd hk (by omega))) (by decide) ?_
  obtain rfl := Option.some.inj hF
  exact xw_throw rfl tS_55 dS_count_72 dS_count_75 dS_count_76 dS_count_79 (Nat.le_of_ble_eq_true rfl) (Nat.le_of_ble_eq_true rfl) (Nat.le_of_ble_eq_true rfl) (Nat.le_of_ble_eq_true rfl) ⟨rfl, rfl⟩
