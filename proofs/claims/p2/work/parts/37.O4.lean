def FM_wordLength_2 : Nat → Int32 → xMs → Option Int32
  | 0, _, _ => none
  | fu + 1, l1, s => (FM_look l1 s).bind fun r95 => (FM_wordSign r95 s).bind fun r96 => if r96 = true then (FM_wordLength_2 fu (l1 + 1) s) else ((FM_peek s).bind fun r98 => if (sM_letter r98) = 0 then (some 0) else (some l1))
/-- FormulaShaperModel.wordLength -/
def FM_wordLength  (s : xMs) : Option Int32 := FM_wordLength_2 xFuel 0 s
set_option maxRecDepth 20000 in
theorem CM_wordLength_2 {w : xw_G} {h : xw_H}  : ∀ (fu : Nat) {l1 : Int32} {s : xMs} {out : Int32} {h0 : xw_H}, FM_wordLength_2 fu l1 s = some out → xw_X w (mM_wordLength { frames := 2, cells := 0, slots := 0, locals := 41 }) (xw_R (some (.int out)) (mV s h)) h0 0 0 2 [some (.ref 2000), some (.int l1)] [] (mV s h) := by
  intro fu
  induction fu with
  | zero =>
    intro l1 s out h0 hF
    rw [FM_wordLength_2] at hF
    cases hF
  | succ fu ih =>
    intro l1 s out h0 hF
    rw [FM_wordLength_2] at hF
    refine xw_aload_n dM_wordLength_2 rfl ?_
    refine xw_aload_n dM_wordLength_3 rfl ?_
    refine xw_iload_n dM_wordLength_4 rfl ?_
    obtain ⟨r95, er95, hF⟩ := xg_b hF
    refine xg_V1 (k1 := 0) (n1 := 0) (CM_look er95) rfl rfl rfl dM_wordLength_5 (kM_264 _) ⟨Nat.le_of_ble_eq_true rfl, Nat.le_of_ble_eq_true rfl⟩ rfl rfl rfl rfl (Nat.le_of_ble_eq_true rfl) (Nat.le_of_ble_eq_true rfl) (Nat.le_of_ble_eq_true rfl) (Nat.le_of_ble_eq_true rfl) (Nat.le_of_ble_eq_true rfl) ?_
    obtain ⟨r96, er96, hF⟩ := xg_b hF
    refine xg_V1 (k1 := 0) (n1 := 0) (CM_wordSign er96) rfl rfl rfl dM_wordLength_8 (kM_308 _) ⟨Nat.le_of_ble_eq_true rfl, Nat.le_of_ble_eq_true rfl⟩ rfl rfl rfl rfl (Nat.le_of_ble_eq_true rfl) (Nat.le_of_ble_eq_true rfl) (Nat.le_of_ble_eq_true rfl) (Nat.le_of_ble_eq_true rfl) (Nat.le_of_ble_eq_true rfl) ?_
    refine xw_if_eqB 20 dM_wordLength_11 (by decide) (fun c97 => ?_) (fun c97 => ?_)
    · replace hF := xg_f c97 hF
      refine xw_aload_n dM_wordLength_20 rfl ?_
      obtain ⟨r98, er98, hF⟩ := xg_b hF
      refine xg_V1 (k1 := 0) (n1 := 0) (CM_peek er98) rfl rfl rfl dM_wordLength_21 (kM_230 _) ⟨Nat.le_of_ble_eq_true rfl, Nat.le_of_ble_eq_true rfl⟩ rfl rfl rfl rfl (Nat.le_of_ble_eq_true rfl) (Nat.le_of_ble_eq_true rfl) (Nat.le_of_ble_eq_true rfl) (Nat.le_of_ble_eq_true rfl) (Nat.le_of_ble_eq_true rfl) ?_
      refine xg_S1 (k1 := 0) (n1 := 0) (cM_letter w) rfl rfl rfl dM_wordLength_24 (kM_292 _) ⟨Nat.le_of_ble_eq_true rfl, Nat.le_of_ble_eq_true rfl⟩ rfl rfl (Nat.le_of_ble_eq_true rfl) (Nat.le_of_ble_eq_true rfl) (Nat.le_of_ble_eq_true rfl) (Nat.le_of_ble_eq_true rfl) (Nat.le_of_ble_eq_true rfl) ?_
      refine xw_if_eq 34 dM_wordLength_27 (by decide) (fun c99 => ?_) (fun c99 => ?_)
      · replace hF := xg_t c99 hF
        refine xw_iconst (0) dM_wordLength_34 (by decide) ?_
        obtain rfl := Option.some.inj hF
        exact xw_ireturn dM_wordLength_35 rfl rfl (Nat.le_of_ble_eq_true rfl) (Nat.le_of_ble_eq_true rfl) ⟨rfl, rfl⟩
      · replace hF := xg_f c99 hF
        refine xw_iload_n dM_wordLength_30 rfl ?_
        refine xw_goto 35 dM_wordLength_31 (by decide) ?_
        obtain rfl := Option.some.inj hF
        exact xw_ireturn dM_wordLength_35 rfl rfl (Nat.le_of_ble_eq_true rfl) (Nat.le_of_ble_eq_true rfl) ⟨rfl, rfl⟩
    · replace hF := xg_t c97 hF
      refine xw_iinc ((l1 + 1)) dM_wordLength_14 rfl rfl (Nat.le_of_ble_eq_true rfl) ?_
      refine xw_Ln (L' := [some (.ref 2000), some (.int (l1 + 1))]) rfl ?_
      refine xw_goto 2 dM_wordLength_17 (by decide) ?_
      exact ih (s := s) hF
set_option maxRecDepth 20000 in
theorem CM_wordLength {w : xw_G} {h : xw_H}  {s : xMs} {out : Int32} (hF : FM_wordLength  s = some out) : xw_C w (mM_wordLength { frames := 2, cells := 0, slots := 0, locals := 41 }) (xw_R (some (.int out)) (mV s h)) [.ref 2000] (mV s h) := by
  unfold FM_wordLength at hF
  refine xw_enter rfl (show plainName "FormulaShaperModel" = true by decide +kernel) (Nat.le_of_ble_eq_true rfl) ?_
  refine xw_iconst (0) dM_wordLength_0 (by decide) ?_
  refine xw_istore_n dM_wordLength_1 (Nat.le_of_ble_eq_true rfl) ?_
  refine xw_Ln (L' := [some (.ref 2000), some (.int 0)]) rfl ?_
  exact CM_wordLength_2 xFuel (s := s) hF
def FM_wordOf_5 : Nat → Int32 → Int64 → Int32 → xMs → Option Int64
  | 0, _, _, _, _ => none
  | fu + 1, l1, l2, l4, s => if l1 ≤ l4 then (some l2) else ((FM_look l4 s).bind fun r101 => FM_wordOf_5 fu l1 (((38) * l2) + (Int32.toInt64 (sM_sign r101))) (l4 + 1) s)
/-- FormulaShaperModel.wordOf -/
def FM_wordOf (x0 : Int32) (s : xMs) : Option Int64 := FM_wordOf_5 xFuel x0 0 0 s
set_option maxRecDepth 20000 in
theorem CM_wordOf_5 {w : xw_G} {h : xw_H}  : ∀ (fu : Nat) {l1 : Int32} {l2 : Int64} {l4 : Int32} {s : xMs} {out : Int64} {h0 : xw_H}, FM_wordOf_5 fu l1 l2 l4 s = some out → xw_X w (mM_wordOf { frames := 1, cells := 0, slots := 0, locals := 21 }) (xw_R (some (.long out)) (mV s h)) h0 0 0 5 [some (.ref 2000), some (.int l1), some (.long l2), none, some (.int l4)] [] (mV s h) := by
  intro fu
  induction fu with
  | zero =>
    intro l1 l2 l4 s out h0 hF
    rw [FM_wordOf_5] at hF
    cases hF
  | succ fu ih =>
    intro l1 l2 l4 s out h0 hF
    rw [FM_wordOf_5] at hF
    refine xw_iload dM_wordOf_5 rfl ?_
    refine xw_iload_n dM_wordOf_7 rfl ?_
    refine xw_icmp_ge 34 dM_wordOf_8 (by decide) (fun c100 => ?_) (fun c100 => ?_)
    · replace hF := xg_t c100 hF
      refine xw_lload_n dM_wordOf_34 rfl ?_
      obtain rfl := Option.some.inj hF
      exact xw_lreturn dM_wordOf_35 rfl (Nat.le_of_ble_eq_true rfl) (Nat.le_of_ble_eq_true rfl) ⟨rfl, rfl⟩
    · replace hF := xg_f c100 hF
      refine xw_ldc2 dM_wordOf_11 tw_961 ?_
      refine xw_lload_n dM_wordOf_14 rfl ?_
      refine xw_lmul dM_wordOf_15 ?_
      refine xw_aload_n dM_wordOf_16 rfl ?_
      refine xw_iload dM_wordOf_17 rfl ?_
      obtain ⟨r101, er101, hF⟩ := xg_b hF
      refine xg_V1 (k1 := 0) (n1 := 0) (CM_look er101) rfl rfl rfl dM_wordOf_19 (kM_264 _) ⟨Nat.le_of_ble_eq_true rfl, Nat.le_of_ble_eq_true rfl⟩ rfl rfl rfl rfl (Nat.le_of_ble_eq_true rfl) (Nat.le_of_ble_eq_true rfl) (Nat.le_of_ble_eq_true rfl) (Nat.le_of_ble_eq_true rfl) (Nat.le_of_ble_eq_true rfl) ?_
      refine xg_S1 (k1 := 0) (n1 := 0) (cM_sign w) rfl rfl rfl dM_wordOf_22 (kM_181 _) ⟨Nat.le_of_ble_eq_true rfl, Nat.le_of_ble_eq_true rfl⟩ rfl rfl (Nat.le_of_ble_eq_true rfl) (Nat.le_of_ble_eq_true rfl) (Nat.le_of_ble_eq_true rfl) (Nat.le_of_ble_eq_true rfl) (Nat.le_of_ble_eq_true rfl) ?_
      refine xw_i2l dM_wordOf_25 ?_
      refine xw_ladd dM_wordOf_26 ?_
      refine xw_lstore_n dM_wordOf_27 (Nat.le_of_ble_eq_true rfl) ?_
      refine xw_Ln (L' := [some (.ref 2000), some (.int l1), some (.long (((38) * l2) + (Int32.toInt64 (sM_sign r101)))), none, some (.int l4)]) rfl ?_
      refine xw_iinc ((l4 + 1)) dM_wordOf_28 rfl rfl (Nat.le_of_ble_eq_true rfl) ?_
      refine xw_Ln (L' := [some (.ref 2000), some (.int l1), some (.long (((38) * l2) + (Int32.toInt64 (sM_sign r101)))), none, some (.int (l4 + 1))]) rfl ?_
      refine xw_goto 5 dM_wordOf_31 (by decide) ?_
      exact ih (s := s) hF
set_option maxRecDepth 20000 in
theorem CM_wordOf {w : xw_G} {h : xw_H} {x0 : Int32} {s : xMs} {out : Int64} (hF : FM_wordOf x0 s = some out) : xw_C w (mM_wordOf { frames := 1, cells := 0, slots := 0, locals := 21 }) (xw_R (some (.long out)) (mV s h)) [.ref 2000, .int x0] (mV s h) := by
  unfold FM_wordOf at hF
  refine xw_enter rfl (show plainName "FormulaShaperModel" = true by decide +kernel) (Nat.le_of_ble_eq_true rfl) ?_
  refine xw_lconst (0) dM_wordOf_0 (by decide) ?_
  refine xw_lstore_n dM_wordOf_1 (Nat.le_of_ble_eq_true rfl) ?_
  refine xw_Ln (L' := [some (.ref 2000), some (.int x0), some (.long 0), none, none]) rfl ?_
  refine xw_iconst (0) dM_wordOf_2 (by decide) ?_
  refine xw_istore dM_wordOf_3 (Nat.le_of_ble_eq_true rfl) ?_
  refine xw_Ln (L' := [some (.ref 2000), some (.int x0), some (.long 0), none, some (.int 0)]) rfl ?_
  exact CM_wordOf_5 xFuel (s := s) hF
def FM_says_12 : Nat → Int32 → Nat → Int32 → xMs → Option Bool
  | 0, _, _, _, _ => none
  | fu + 1, l1, l2, l3, s => if l1 ≤ l3 then (some true) else ((FM_look l3 s).bind fun r105 => if l2 < xk_N ∧ 0 ≤ l3 ∧ l3 < nI (xk_by l2).length then (if r105 = ((xk_by l2).getD (l3).toNatClampNeg 0) then (FM_says_12 fu l1 l2 (l3 + 1) s) else (some false)) else none)
/-- FormulaShaperModel.says -/
def FM_says (x0 : Int32) (x1 : Nat) (s : xMs) : Option Bool := if x1 < xk_N then (if x0 = (nI (xk_by x1).length) then (FM_says_12 xFuel x0 x1 0 s) else (some false)) else none
set_option maxRecDepth 20000 in
theorem CM_says_12 {w : xw_G} {h : xw_H}  : ∀ (fu : Nat) {l1 : Int32} {l2 : Nat} {l3 : Int32} {s : xMs} {out : Bool} {h0 : xw_H}, FM_says_12 fu l1 l2 l3 s = some out → xw_X w (mM_says { frames := 4, cells := 0, slots := 0, locals := 85 }) (xw_R (some (.int (xb out))) (mV s h)) h0 0 0 12 [some (.ref 2000), some (.int l1), some (.ref l2), some (.int l3)] [] (mV s h) := by
  intro fu
  induction fu with
  | zero =>
    intro l1 l2 l3 s out h0 hF
    rw [FM_says_12] at hF
    cases hF
  | succ fu ih =>
    intro l1 l2 l3 s out h0 hF
    rw [FM_says_12] at hF
    refine xw_iload_n dM_says_12 rfl ?_
    refine xw_iload_n dM_says_13 rfl ?_
    refine xw_icmp_ge 38 dM_says_14 (by decide) (fun c104 => ?_) (fun c104 => ?_)
    · replace hF := xg_t c104 hF
      refine xw_iconst (1) dM_says_38 (by decide) ?_
      obtain rfl := Option.some.inj hF
      exact xw_ireturn dM_says_39 rfl (xb_nar true) (Nat.le_of_ble_eq_true rfl) (Nat.le_of_ble_eq_true rfl) ⟨rfl, rfl⟩
    · replace hF := xg_f c104 hF
      refine xw_aload_n dM_says_17 rfl ?_
      refine xw_iload_n dM_says_18 rfl ?_
      obtain ⟨r105, er105, hF⟩ := xg_b hF
      refine xg_V1 (k1 := 0) (n1 := 0) (CM_look er105) rfl rfl rfl dM_says_19 (kM_264 _) ⟨Nat.le_of_ble_eq_true rfl, Nat.le_of_ble_eq_true rfl⟩ rfl rfl rfl rfl (Nat.le_of_ble_eq_true rfl) (Nat.le_of_ble_eq_true rfl) (Nat.le_of_ble_eq_true rfl) (Nat.le_of_ble_eq_true rfl) (Nat.le_of_ble_eq_true rfl) ?_
      refine xw_aload_n dM_says_22 rfl ?_
      refine xw_iload_n dM_says_23 rfl ?_
      obtain ⟨g106, hF⟩ := xg_g hF
      refine xg_K1 (k1 := 0) (n1 := 0) (CQ_charAt (w := w) g106.1 g106.2) rfl rfl rfl dM_says_24 (kM_177 _) ⟨Nat.le_of_ble_eq_true rfl, Nat.le_of_ble_eq_true rfl⟩ rfl rfl (xk_mO g106.1) (xk_lt9 g106.1) (Nat.le_of_ble_eq_true rfl) (Nat.le_of_ble_eq_true rfl) (Nat.le_of_ble_eq_true rfl) (Nat.le_of_ble_eq_true rfl) (Nat.le_of_ble_eq_true rfl) ?_
      refine xw_icmp_eq 32 dM_says_27 (by decide) (fun c107 => ?_) (fun c107 => ?_)
      · replace hF := xg_t c107 hF
        refine xw_iinc ((l3 + 1)) dM_says_32 rfl rfl (Nat.le_of_ble_eq_true rfl) ?_
        refine xw_Ln (L' := [some (.ref 2000), some (.int l1), some (.ref l2), some (.int (l3 + 1))]) rfl ?_
        refine xw_goto 12 dM_says_35 (by decide) ?_
        exact ih (s := s) hF
      · replace hF := xg_f c107 hF
        refine xw_iconst (0) dM_says_30 (by decide) ?_
        obtain rfl := Option.some.inj hF
        exact xw_ireturn dM_says_31 rfl (xb_nar false) (Nat.le_of_ble_eq_true rfl) (Nat.le_of_ble_eq_true rfl) ⟨rfl, rfl⟩
set_option maxRecDepth 20000 in
theorem CM_says {w : xw_G} {h : xw_H} {x0 : Int32} {x1 : Nat} {s : xMs} {out : Bool} (hF : FM_says x0 x1 s = some out) : xw_C w (mM_says { frames := 4, cells := 0, slots := 0, locals := 85 }) (xw_R (some (.int (xb out))) (mV s h)) [.ref 2000, .int x0, .ref x1] (mV s h) := by
  unfold FM_says at hF
  refine xw_enter rfl (show plainName "FormulaShaperModel" = true by decide +kernel) (Nat.le_of_ble_eq_true rfl) ?_
  refine xw_iload_n dM_says_0 rfl ?_
  refine xw_aload_n dM_says_1 rfl ?_
  obtain ⟨g102, hF⟩ := xg_g hF
  refine xg_K1 (k1 := 0) (n1 := 0) (cQ_length w g102) rfl rfl rfl dM_says_2 (kM_171 _) ⟨Nat.le_of_ble_eq_true rfl, Nat.le_of_ble_eq_true rfl⟩ rfl rfl (xk_mO g102) (xk_lt9 g102) (Nat.le_of_ble_eq_true rfl) (Nat.le_of_ble_eq_true rfl) (Nat.le_of_ble_eq_true rfl) (Nat.le_of_ble_eq_true rfl) (Nat.le_of_ble_eq_true rfl) ?_
  refine xw_icmp_eq 10 dM_says_5 (by decide) (fun c103 => ?_) (fun c103 => ?_)
  · replace hF := xg_t c103 hF
    refine xw_iconst (0) dM_says_10 (by decide) ?_
    refine xw_istore_n dM_says_11 (Nat.le_of_ble_eq_true rfl) ?_
    refine xw_Ln (L' := [some (.ref 2000), some (.int x0), some (.ref x1), some (.int 0)]) rfl ?_
    exact CM_says_12 xFuel (s := s) hF
  · replace hF := xg_f c103 hF
    refine xw_iconst (0) dM_says_8 (by decide) ?_
    obtain rfl := Option.some.inj hF
    exact xw_ireturn dM_says_9 rfl (xb_nar false) (Nat.le_of_ble_eq_true rfl) (Nat.le_of_ble_eq_true rfl) ⟨rfl, rfl⟩
/-- FormulaShaperModel.wordHere -/
def FM_wordHere  (s : xMs) : Option (Int64 × xMs) := (FM_wordLength s).bind fun r108 => if r108 = 0 then (some (0, s)) else (if 12 < r108 then (some (0, s)) else ((FM_cell_Z s).bind fun r111 => if r111.1 = true then (some (0, r111.2)) else ((FM_says r108 75 r111.2).bind fun r115 => if r115 = true then (some (0, r111.2)) else ((FM_says r108 76 r111.2).bind fun r117 => if r117 = true then (some (0, r111.2)) else ((FM_wordOf r108 r111.2).bind fun r119 => some (r119, r111.2))))))
set_option maxRecDepth 20000 in
theorem CM_wordHere {w : xw_G} {h : xw_H} (hb : xMb h)  {s : xMs} {out : (Int64 × xMs)} (hF : FM_wordHere  s = some out) : (s.2.2.1.2.2.2.2.2.2.1 ≤ out.2.2.2.1.2.2.2.2.2.2.1 ∧ s.2.2.1.2.2.2.2.2.2.2 ≤ out.2.2.2.1.2.2.2.2.2.2.2) ∧ xw_C w (mM_wordHere { frames := 5, cells := out.2.2.2.1.2.2.2.2.2.2.1 - s.2.2.1.2.2.2.2.2.2.1, slots := out.2.2.2.1.2.2.2.2.2.2.2 - s.2.2.1.2.2.2.2.2.2.2, locals := 108 }) (xw_R (some (.long out.1)) (mV out.2 h)) [.ref 2000] (mV s h) := by
  unfold FM_wordHere at hF
  refine xy_enter (L := [some (.ref 2000), none]) (fun _ => rfl) (fun _ => rfl) (fun _ => (show plainName "FormulaShaperModel" = true by decide +kernel)) (fun _ => (Nat.le_of_ble_eq_true rfl)) (fun _ => rfl) ?_
  have hm : s.2.2.1.2.2.2.2.2.2.1 ≤ s.2.2.1.2.2.2.2.2.2.1 ∧ s.2.2.1.2.2.2.2.2.2.2 ≤ s.2.2.1.2.2.2.2.2.2.2 := ⟨Nat.le_refl _, Nat.le_refl _⟩
  refine xy_r (xw_aload_n dM_wordHere_0 rfl) ?_
  obtain ⟨r108, er108, hF⟩ := xg_b hF
  refine xy_q (fun hq => xg_V1 (k1 := _) (n1 := _) (CM_wordLength er108) rfl rfl rfl dM_wordHere_1 (kM_317 _) ⟨Nat.le_of_ble_eq_true rfl, Nat.le_of_ble_eq_true rfl⟩ rfl rfl rfl rfl (Nat.le_of_ble_eq_true rfl) (Nat.le_refl _) (Nat.le_refl _) (Nat.sub_le_sub_right hq.1 _) (Nat.sub_le_sub_right hq.2 _)) ?_
  refine xy_r (xw_istore_n dM_wordHere_4 (Nat.le_of_ble_eq_true rfl)) ?_
  refine xy_r (xw_Ln (L' := [some (.ref 2000), some (.int r108)]) rfl) ?_
  refine xy_r (xw_iload_n dM_wordHere_5 rfl) ?_
  refine xy_br (xw_if_eq 44 dM_wordHere_6 (by decide)) (fun c109 => ?_) (fun c109 => ?_)
  · replace hF := xg_t c109 hF
    refine xy_r (xw_lconst (0) dM_wordHere_44 (by decide)) ?_
    obtain rfl := Option.some.inj hF
    exact xy_end (xw_lreturn dM_wordHere_45 rfl (Nat.le_refl _) (Nat.le_refl _) ⟨rfl, rfl⟩)
  · replace hF := xg_f c109 hF
    refine xy_r (xw_iload_n dM_wordHere_9 rfl) ?_
    refine xy_r (xw_bipush (12) dM_wordHere_10 (by decide)) ?_
    refine xy_br (xw_icmp_gt 44 dM_wordHere_12 (by decide)) (fun c110 => ?_) (fun c110 => ?_)
    · replace hF := xg_t c110 hF
      refine xy_r (xw_lconst (0) dM_wordHere_44 (by decide)) ?_
      obtain rfl := Option.some.inj hF
      exact xy_end (xw_lreturn dM_wordHere_45 rfl (Nat.le_refl _) (Nat.le_refl _) ⟨rfl, rfl⟩)
    · replace hF := xg_f c110 hF
      refine xy_r (xw_aload_n dM_wordHere_15 rfl) ?_
      obtain ⟨r111, er111, hF⟩ := xg_b hF
      have hm112 : s.2.2.1.2.2.2.2.2.2.1 ≤ r111.2.2.2.1.2.2.2.2.2.2.1 ∧ s.2.2.1.2.2.2.2.2.2.2 ≤ r111.2.2.2.1.2.2.2.2.2.2.2 := xy_le hm (show s.2.2.1.2.2.2.2.2.2.1 ≤ r111.2.2.2.1.2.2.2.2.2.2.1 ∧ s.2.2.1.2.2.2.2.2.2.2 ≤ r111.2.2.2.1.2.2.2.2.2.2.2 from (CM_cell_Z (w := w) (h := h) hb (s := s) er111).1)
      refine xy_V1 (nl := 3) (sm := s.2.2.1.2.2.2.2.2.2.1) (sn := s.2.2.1.2.2.2.2.2.2.2) (tm := r111.2.2.2.1.2.2.2.2.2.2.1) (tn := r111.2.2.2.1.2.2.2.2.2.2.2) (CM_cell_Z hb (s := s) er111) rfl rfl hm (fun _ => rfl) (fun _ => rfl) (fun _ => rfl) (fun _ => dM_wordHere_16) (fun _ R => kM_320 R) (fun _ => rfl) ⟨(Nat.le_of_ble_eq_true rfl), (Nat.le_of_ble_eq_true rfl)⟩ rfl rfl rfl (fun _ => rfl) (Nat.le_of_ble_eq_true rfl) ?_
      refine xy_br (xw_if_neB 44 dM_wordHere_19 (by decide)) (fun c114 => ?_) (fun c114 => ?_)
      · replace hF := xg_t c114 hF
        refine xy_r (xw_lconst (0) dM_wordHere_44 (by decide)) ?_
        obtain rfl := Option.some.inj hF
        exact xy_end (xw_lreturn dM_wordHere_45 rfl (Nat.le_refl _) (Nat.le_refl _) ⟨rfl, rfl⟩)
      · replace hF := xg_f c114 hF
        refine xy_r (xw_aload_n dM_wordHere_22 rfl) ?_
        refine xy_r (xw_iload_n dM_wordHere_23 rfl) ?_
        refine xy_r (xw_ldcSw 75 dM_wordHere_24 (List.mem_of_getElem? (i := 75) rfl) (by decide)) ?_
        obtain ⟨r115, er115, hF⟩ := xg_b hF
        refine xy_q (fun hq => xg_V1 (k1 := _) (n1 := _) (CM_says er115) rfl rfl rfl dM_wordHere_27 (kM_326 _) ⟨Nat.le_of_ble_eq_true rfl, Nat.le_of_ble_eq_true rfl⟩ rfl rfl rfl rfl (Nat.le_of_ble_eq_true rfl) (Nat.le_refl _) (Nat.le_refl _) (Nat.sub_le_sub_right hq.1 _) (Nat.sub_le_sub_right hq.2 _)) ?_
        refine xy_br (xw_if_neB 44 dM_wordHere_30 (by decide)) (fun c116 => ?_) (fun c116 => ?_)
        · replace hF := xg_t c116 hF
          refine xy_r (xw_lconst (0) dM_wordHere_44 (by decide)) ?_
          obtain rfl := Option.some.inj hF
          exact xy_end (xw_lreturn dM_wordHere_45 rfl (Nat.le_refl _) (Nat.le_refl _) ⟨rfl, rfl⟩)
        · replace hF := xg_f c116 hF
          refine xy_r (xw_aload_n dM_wordHere_33 rfl) ?_
          refine xy_r (xw_iload_n dM_wordHere_34 rfl) ?_
          refine xy_r (xw_ldcSw 76 dM_wordHere_35 (List.mem_of_getElem? (i := 76) rfl) (by decide)) ?_
          obtain ⟨r117, er117, hF⟩ := xg_b hF
          refine xy_q (fun hq => xg_V1 (k1 := _) (n1 := _) (CM_says er117) rfl rfl rfl dM_wordHere_38 (kM_326 _) ⟨Nat.le_of_ble_eq_true rfl, Nat.le_of_ble_eq_true rfl⟩ rfl rfl rfl rfl (Nat.le_of_ble_eq_true rfl) (Nat.le_refl _) (Nat.le_refl _) (Nat.sub_le_sub_right hq.1 _) (Nat.sub_le_sub_right hq.2 _)) ?_
          refine xy_brn (xw_if_eqB 46 dM_wordHere_41 (by decide)) (fun c118 => ?_) (fun c118 => ?_)
          · replace hF := xg_f c118 hF
            refine xy_r (xw_aload_n dM_wordHere_46 rfl) ?_
            refine xy_r (xw_iload_n dM_wordHere_47 rfl) ?_
            obtain ⟨r119, er119, hF⟩ := xg_b hF
            refine xy_q (fun hq => xg_V1 (k1 := _) (n1 := _) (CM_wordOf er119) rfl rfl rfl dM_wordHere_48 (kM_332 _) ⟨Nat.le_of_ble_eq_true rfl, Nat.le_of_ble_eq_true rfl⟩ rfl rfl rfl rfl (Nat.le_of_ble_eq_true rfl) (Nat.le_refl _) (Nat.le_refl _) (Nat.sub_le_sub_right hq.1 _) (Nat.sub_le_sub_right hq.2 _)) ?_
            obtain rfl := Option.some.inj hF
            exact xy_end (xw_lreturn dM_wordHere_51 rfl (Nat.le_refl _) (Nat.le_refl _) ⟨rfl, rfl⟩)
          · replace hF := xg_t c118 hF
            refine xy_r (xw_lconst (0) dM_wordHere_44 (by decide)) ?_
            obtain rfl := Option.some.inj hF
            exact xy_end (xw_lreturn dM_wordHere_45 rfl (Nat.le_refl _) (Nat.le_refl _) ⟨rfl, rfl⟩)
def FM_digits_100 : Nat → Int32 → Int64 → Int64 → xMs → Option (xo Int64 xMs)
  | 0, _, _, _, _ => none
  | fu + 1, l1, l2, l5, s => (FM_peek s).bind fun r134 => if (sM_digit r134) = 0 then (if (lg_cmp l2 (900000000000000)) ≤ 0 then (some (.inl (l2, s))) else (xo_b (FM_bad l1 s) fun r137 => some (.inl (l2, r137.2)))) else (if (lg_cmp l5 0) ≤ 0 then (if (lg_cmp l2 (900000000000000)) ≤ 0 then (some (.inl (l2, s))) else (xo_b (FM_bad l1 s) fun r142 => some (.inl (l2, r142.2)))) else ((FM_peek s).bind fun r145 => FM_digits_100 fu l1 (l2 + (l5 * (Int32.toInt64 (r145 - 48)))) (l5 / (10)) (s.1, (s.2.1.1, (s.2.1.2.1 + 1), s.2.1.2.2), s.2.2)))
def FM_digits_59 (l1 : Int32) (l2 : Int64) (s : xMs) : Option (xo Int64 xMs) := (FM_peek s).bind fun r122 => if r122 = 46 then ((FM_look 1 s).bind fun r128 => if (sM_digit r128) = 0 then (if (lg_cmp (l2 * (10000)) (900000000000000)) ≤ 0 then (some (.inl ((l2 * (10000)), s))) else (xo_b (FM_bad l1 s) fun r131 => some (.inl ((l2 * (10000)), r131.2)))) else (FM_digits_100 xFuel l1 (l2 * (10000)) (1000) (s.1, (s.2.1.1, (s.2.1.2.1 + 1), s.2.1.2.2), s.2.2))) else (if (lg_cmp (l2 * (10000)) (900000000000000)) ≤ 0 then (some (.inl ((l2 * (10000)), s))) else (xo_b (FM_bad l1 s) fun r125 => some (.inl ((l2 * (10000)), r125.2))))
def FM_digits_10 : Nat → Int32 → Int64 → Int32 → xMs → Option (xo Int64 xMs)
  | 0, _, _, _, _ => none
  | fu + 1, l1, l2, l4, s => (FM_peek s).bind fun r120 => if (sM_digit r120) = 0 then (FM_digits_59 l1 l2 s) else (if 11 ≤ l4 then (FM_digits_59 l1 l2 s) else ((FM_peek s).bind fun r147 => FM_digits_10 fu l1 ((((10) * l2) + (Int32.toInt64 r147)) - (48)) (l4 + 1) (s.1, (s.2.1.1, (s.2.1.2.1 + 1), s.2.1.2.2), s.2.2)))
/-- FormulaShaperModel.digits -/
def FM_digits  (s : xMs) : Option (xo Int64 xMs) := FM_digits_10 xFuel s.2.1.2.1 0 0 s
set_option maxRecDepth 20000 in
theorem CM_digits_100 {w : xw_G} {h : xw_H} (hb : xMb h)  : ∀ (fu : Nat) {l1 : Int32} {l2 : Int64} {l5 : Int64} {s : xMs} {out : (xo Int64 xMs)} {h0 : xw_H} {m0 n0 : Nat} (hm : m0 ≤ s.2.2.1.2.2.2.2.2.2.1 ∧ n0 ≤ s.2.2.1.2.2.2.2.2.2.2), FM_digits_100 fu l1 l2 l5 s = some out → xw_Y w mM_digits 7 121 (xo_P (fun x => some (.long x)) (fun s => mV s h) out) h0 m0 n0 s.2.2.1.2.2.2.2.2.2.1 s.2.2.1.2.2.2.2.2.2.2 (xo_s out).2.2.1.2.2.2.2.2.2.1 (xo_s out).2.2.1.2.2.2.2.2.2.2 100 [some (.ref 2000), some (.int l1), some (.long l2), none, none, some (.long l5), none] [] (mV s h) := by
  intro fu
  induction fu with
  | zero =>
    intro l1 l2 l5 s out h0 m0 n0 hm hF
    rw [FM_digits_100] at hF
    cases hF
  | succ fu ih =>
    intro l1 l2 l5 s out h0 m0 n0 hm hF
    rw [FM_digits_100] at hF
    refine xy_r (xw_aload_n dM_digits_100 rfl) ?_
    obtain ⟨r134, er134, hF⟩ := xg_b hF
    refine xy_q (fun hq => xg_V1 (k1 := _) (n1 := _) (CM_peek er134) rfl rfl rfl dM_digits_101 (kM_230 _) ⟨Nat.le_of_ble_eq_true rfl, Nat.le_of_ble_eq_true rfl⟩ rfl rfl rfl rfl (Nat.le_of_ble_eq_true rfl) (Nat.le_refl _) (Nat.le_refl _) (Nat.sub_le_sub_right hq.1 _) (Nat.sub_le_sub_right hq.2 _)) ?_
    refine xy_q (fun hq => xg_S1 (k1 := _) (n1 := _) (cM_digit w) rfl rfl rfl dM_digits_104 (kM_295 _) ⟨Nat.le_of_ble_eq_true rfl, Nat.le_of_ble_eq_true rfl⟩ rfl rfl (Nat.le_of_ble_eq_true rfl) (Nat.le_refl _) (Nat.le_refl _) (Nat.sub_le_sub_right hq.1 _) (Nat.sub_le_sub_right hq.2 _)) ?_
    refine xy_br (xw_if_eq 152 dM_digits_107 (by decide)) (fun c135 => ?_) (fun c135 => ?_)
    · replace hF := xg_t c135 hF
      refine xy_r (xw_lload_n dM_digits_152 rfl) ?_
      refine xy_r (xw_ldc2 dM_digits_153 tw_1229) ?_
      refine xy_r (xw_lcmp dM_digits_156) ?_
      refine xy_br (xw_if_le 165 dM_digits_157 (by decide)) (fun c136 => ?_) (fun c136 => ?_)
      · replace hF := xg_t c136 hF
        refine xy_r (xw_lload_n dM_digits_165 rfl) ?_
        obtain rfl := Option.some.inj hF
        exact xy_end (xw_lreturn dM_digits_166 rfl (Nat.le_refl _) (Nat.le_refl _) ⟨rfl, rfl⟩)
      · replace hF := xg_f c136 hF
        refine xy_r (xw_aload_n dM_digits_160 rfl) ?_
        refine xy_r (xw_iload_n dM_digits_161 rfl) ?_
        rcases xg_o hF with ⟨r137, er137, hF⟩ | ⟨r137, er137, hF⟩
        · have hm138 : m0 ≤ r137.2.2.2.1.2.2.2.2.2.2.1 ∧ n0 ≤ r137.2.2.2.1.2.2.2.2.2.2.2 := xy_le hm (show s.2.2.1.2.2.2.2.2.2.1 ≤ r137.2.2.2.1.2.2.2.2.2.2.1 ∧ s.2.2.1.2.2.2.2.2.2.2 ≤ r137.2.2.2.1.2.2.2.2.2.2.2 from (CM_bad (w := w) (h := h) hb (s := s) er137).1)
          refine xy_V0 (nl := 2) (sm := s.2.2.1.2.2.2.2.2.2.1) (sn := s.2.2.1.2.2.2.2.2.2.2) (tm := r137.2.2.2.1.2.2.2.2.2.2.1) (tn := r137.2.2.2.1.2.2.2.2.2.2.2) (CM_bad hb (s := s) er137) rfl rfl hm (fun _ => rfl) (fun _ => rfl) (fun _ => rfl) (fun _ => dM_digits_162) (fun _ R => kM_239 R) (fun _ => rfl) ⟨(Nat.le_of_ble_eq_true rfl), (Nat.le_of_ble_eq_true rfl)⟩ rfl rfl rfl (fun _ => rfl) (Nat.le_of_ble_eq_true rfl) ?_
          refine xy_r (xw_lload_n dM_digits_165 rfl) ?_
          obtain rfl := Option.some.inj hF
          exact xy_end (xw_lreturn dM_digits_166 rfl (Nat.le_refl _) (Nat.le_refl _) ⟨rfl, rfl⟩)
        · subst hF
          exact xy_Vt (nl := 2) (sm := s.2.2.1.2.2.2.2.2.2.1) (sn := s.2.2.1.2.2.2.2.2.2.2) (tm := r137.2.2.2.1.2.2.2.2.2.2.1) (tn := r137.2.2.2.1.2.2.2.2.2.2.2) (CM_bad hb (s := s) er137) rfl rfl hm (fun _ => rfl) (fun _ => rfl) (fun _ => rfl) (fun _ => dM_digits_162) (fun _ R => kM_239 R) (fun _ => rfl) ⟨(Nat.le_of_ble_eq_true rfl), (Nat.le_of_ble_eq_true rfl)⟩ rfl rfl rfl (fun _ => rfl) (Nat.le_of_ble_eq_true rfl) ⟨rfl, rfl⟩
    · replace hF := xg_f c135 hF
      refine xy_r (xw_lload dM_digits_110 rfl) ?_
      refine xy_r (xw_lconst (0) dM_digits_112 (by decide)) ?_
      refine xy_r (xw_lcmp dM_digits_113) ?_
      refine xy_br (xw_if_le 152 dM_digits_114 (by decide)) (fun c140 => ?_) (fun c140 => ?_)
      · replace hF := xg_t c140 hF
        refine xy_r (xw_lload_n dM_digits_152 rfl) ?_
        refine xy_r (xw_ldc2 dM_digits_153 tw_1229) ?_
        refine xy_r (xw_lcmp dM_digits_156) ?_
        refine xy_br (xw_if_le 165 dM_digits_157 (by decide)) (fun c141 => ?_) (fun c141 => ?_)
        · replace hF := xg_t c141 hF
          refine xy_r (xw_lload_n dM_digits_165 rfl) ?_
          obtain rfl := Option.some.inj hF
          exact xy_end (xw_lreturn dM_digits_166 rfl (Nat.le_refl _) (Nat.le_refl _) ⟨rfl, rfl⟩)
        · replace hF := xg_f c141 hF
          refine xy_r (xw_aload_n dM_digits_160 rfl) ?_
          refine xy_r (xw_iload_n dM_digits_161 rfl) ?_
          rcases xg_o hF with ⟨r142, er142, hF⟩ | ⟨r142, er142, hF⟩
          · have hm143 : m0 ≤ r142.2.2.2.1.2.2.2.2.2.2.1 ∧ n0 ≤ r142.2.2.2.1.2.2.2.2.2.2.2 := xy_le hm (show s.2.2.1.2.2.2.2.2.2.1 ≤ r142.2.2.2.1.2.2.2.2.2.2.1 ∧ s.2.2.1.2.2.2.2.2.2.2 ≤ r142.2.2.2.1.2.2.2.2.2.2.2 from (CM_bad (w := w) (h := h) hb (s := s) er142).1)
            refine xy_V0 (nl := 2) (sm := s.2.2.1.2.2.2.2.2.2.1) (sn := s.2.2.1.2.2.2.2.2.2.2) (tm := r142.2.2.2.1.2.2.2.2.2.2.1) (tn := r142.2.2.2.1.2.2.2.2.2.2.2) (CM_bad hb (s := s) er142) rfl rfl hm (fun _ => rfl) (fun _ => rfl) (fun _ => rfl) (fun _ => dM_digits_162) (fun _ R => kM_239 R) (fun _ => rfl) ⟨(Nat.le_of_ble_eq_true rfl), (Nat.le_of_ble_eq_true rfl)⟩ rfl rfl rfl (fun _ => rfl) (Nat.le_of_ble_eq_true rfl) ?_
            refine xy_r (xw_lload_n dM_digits_165 rfl) ?_
            obtain rfl := Option.some.inj hF
            exact xy_end (xw_lreturn dM_digits_166 rfl (Nat.le_refl _) (Nat.le_refl _) ⟨rfl, rfl⟩)
          · subst hF
            exact xy_Vt (nl := 2) (sm := s.2.2.1.2.2.2.2.2.2.1) (sn := s.2.2.1.2.2.2.2.2.2.2) (tm := r142.2.2.2.1.2.2.2.2.2.2.1) (tn := r142.2.2.2.1.2.2.2.2.2.2.2) (CM_bad hb (s := s) er142) rfl rfl hm (fun _ => rfl) (fun _ => rfl) (fun _ => rfl) (fun _ => dM_digits_162) (fun _ R => kM_239 R) (fun _ => rfl) ⟨(Nat.le_of_ble_eq_true rfl), (Nat.le_of_ble_eq_true rfl)⟩ rfl rfl rfl (fun _ => rfl) (Nat.le_of_ble_eq_true rfl) ⟨rfl, rfl⟩
      · replace hF := xg_f c140 hF
        refine xy_r (xw_lload_n dM_digits_117 rfl) ?_
        refine xy_r (xw_lload dM_digits_118 rfl) ?_
        refine xy_r (xw_aload_n dM_digits_120 rfl) ?_
        obtain ⟨r145, er145, hF⟩ := xg_b hF
        refine xy_q (fun hq => xg_V1 (k1 := _) (n1 := _) (CM_peek er145) rfl rfl rfl dM_digits_121 (kM_230 _) ⟨Nat.le_of_ble_eq_true rfl, Nat.le_of_ble_eq_true rfl⟩ rfl rfl rfl rfl (Nat.le_of_ble_eq_true rfl) (Nat.le_refl _) (Nat.le_refl _) (Nat.sub_le_sub_right hq.1 _) (Nat.sub_le_sub_right hq.2 _)) ?_
        refine xy_r (xw_bipush (48) dM_digits_124 (by decide)) ?_
        refine xy_r (xw_isub dM_digits_126) ?_
        refine xy_r (xw_i2l dM_digits_127) ?_
        refine xy_r (xw_lmul dM_digits_128) ?_
        refine xy_r (xw_ladd dM_digits_129) ?_
        refine xy_r (xw_lstore_n dM_digits_130 (Nat.le_of_ble_eq_true rfl)) ?_
        refine xy_r (xw_Ln (L' := [some (.ref 2000), some (.int l1), some (.long (l2 + (l5 * (Int32.toInt64 (r145 - 48))))), none, none, some (.long l5), none]) rfl) ?_
        refine xy_r (xw_lload dM_digits_131 rfl) ?_
        refine xy_r (xw_ldc2 dM_digits_133 tw_1221) ?_
        refine xy_r (xw_ldiv dM_digits_136 (by decide)) ?_
        refine xy_r (xw_lstore dM_digits_137 (Nat.le_of_ble_eq_true rfl)) ?_
        refine xy_r (xw_Ln (L' := [some (.ref 2000), some (.int l1), some (.long (l2 + (l5 * (Int32.toInt64 (r145 - 48))))), none, none, some (.long (l5 / (10))), none]) rfl) ?_
        refine xy_r (xw_aload_n dM_digits_139 rfl) ?_
        refine xy_r (xw_dup_r dM_digits_140) ?_
        refine xy_r (xw_get dM_digits_141 fM_221 rfl rfl) ?_
        refine xy_r (xw_iconst (1) dM_digits_144 (by decide)) ?_
        refine xy_r (xw_iadd dM_digits_145) ?_
        refine xy_r (xg_put dM_digits_146 fM_221 rfl (by decide) (Nat.le_of_ble_eq_true rfl) (fun _ => rfl) (fun _ => rfl) (mV_o (s' := (s.1, (s.2.1.1, (s.2.1.2.1 + 1), s.2.1.2.2), s.2.2)) rfl)) ?_
        refine xy_r (xw_goto 100 dM_digits_149 (by decide)) ?_
        exact ih (s := (s.1, (s.2.1.1, (s.2.1.2.1 + 1), s.2.1.2.2), s.2.2)) hm hF
set_option maxRecDepth 20000 in
theorem CM_digits_59 {w : xw_G} {h : xw_H} (hb : xMb h)  {l1 : Int32} {l2 : Int64} {s : xMs} {out : (xo Int64 xMs)} {h0 : xw_H} {m0 n0 : Nat} (hm : m0 ≤ s.2.2.1.2.2.2.2.2.2.1 ∧ n0 ≤ s.2.2.1.2.2.2.2.2.2.2) (hF : FM_digits_59 l1 l2 s = some out) : xw_Y w mM_digits 7 121 (xo_P (fun x => some (.long x)) (fun s => mV s h) out) h0 m0 n0 s.2.2.1.2.2.2.2.2.2.1 s.2.2.1.2.2.2.2.2.2.2 (xo_s out).2.2.1.2.2.2.2.2.2.1 (xo_s out).2.2.1.2.2.2.2.2.2.2 59 [some (.ref 2000), some (.int l1), some (.long l2), none, none, none, none] [] (mV s h) := by
  unfold FM_digits_59 at hF
  refine xy_r (xw_lload_n dM_digits_59 rfl) ?_
  refine xy_r (xw_ldc2 dM_digits_60 tw_1223) ?_
  refine xy_r (xw_lmul dM_digits_63) ?_
  refine xy_r (xw_lstore_n dM_digits_64 (Nat.le_of_ble_eq_true rfl)) ?_
  refine xy_r (xw_Ln (L' := [some (.ref 2000), some (.int l1), some (.long (l2 * (10000))), none, none, none, none]) rfl) ?_
  refine xy_r (xw_aload_n dM_digits_65 rfl) ?_
  obtain ⟨r122, er122, hF⟩ := xg_b hF
  refine xy_q (fun hq => xg_V1 (k1 := _) (n1 := _) (CM_peek er122) rfl rfl rfl dM_digits_66 (kM_230 _) ⟨Nat.le_of_ble_eq_true rfl, Nat.le_of_ble_eq_true rfl⟩ rfl rfl rfl rfl (Nat.le_of_ble_eq_true rfl) (Nat.le_refl _) (Nat.le_refl _) (Nat.sub_le_sub_right hq.1 _) (Nat.sub_le_sub_right hq.2 _)) ?_
  refine xy_r (xw_bipush (46) dM_digits_69 (by decide)) ?_
  refine xy_brn (xw_icmp_ne 152 dM_digits_71 (by decide)) (fun c123 => ?_) (fun c123 => ?_)
  · replace hF := xg_f c123 hF
    refine xy_r (xw_lload_n dM_digits_152 rfl) ?_
    refine xy_r (xw_ldc2 dM_digits_153 tw_1229) ?_
    refine xy_r (xw_lcmp dM_digits_156) ?_
    refine xy_br (xw_if_le 165 dM_digits_157 (by decide)) (fun c124 => ?_) (fun c124 => ?_)
    · replace hF := xg_t c124 hF
      refine xy_r (xw_lload_n dM_digits_165 rfl) ?_
      obtain rfl := Option.some.inj hF
      exact xy_end (xw_lreturn dM_digits_166 rfl (Nat.le_refl _) (Nat.le_refl _) ⟨rfl, rfl⟩)
    · replace hF := xg_f c124 hF
      refine xy_r (xw_aload_n dM_digits_160 rfl) ?_
      refine xy_r (xw_iload_n dM_digits_161 rfl) ?_
      rcases xg_o hF with ⟨r125, er125, hF⟩ | ⟨r125, er125, hF⟩
      · have hm126 : m0 ≤ r125.2.2.2.1.2.2.2.2.2.2.1 ∧ n0 ≤ r125.2.2.2.1.2.2.2.2.2.2.2 := xy_le hm (show s.2.2.1.2.2.2.2.2.2.1 ≤ r125.2.2.2.1.2.2.2.2.2.2.1 ∧ s.2.2.1.2.2.2.2.2.2.2 ≤ r125.2.2.2.1.2.2.2.2.2.2.2 from (CM_bad (w := w) (h := h) hb (s := s) er125).1)
        refine xy_V0 (nl := 2) (sm := s.2.2.1.2.2.2.2.2.2.1) (sn := s.2.2.1.2.2.2.2.2.2.2) (tm := r125.2.2.2.1.2.2.2.2.2.2.1) (tn := r125.2.2.2.1.2.2.2.2.2.2.2) (CM_bad hb (s := s) er125) rfl rfl hm (fun _ => rfl) (fun _ => rfl) (fun _ => rfl) (fun _ => dM_digits_162) (fun _ R => kM_239 R) (fun _ => rfl) ⟨(Nat.le_of_ble_eq_true rfl), (Nat.le_of_ble_eq_true rfl)⟩ rfl rfl rfl (fun _ => rfl) (Nat.le_of_ble_eq_true rfl) ?_
        refine xy_r (xw_lload_n dM_digits_165 rfl) ?_
        obtain rfl := Option.some.inj hF
        exact xy_end (xw_lreturn dM_digits_166 rfl (Nat.le_refl _) (Nat.le_refl _) ⟨rfl, rfl⟩)
      · subst hF
        exact xy_Vt (nl := 2) (sm := s.2.2.1.2.2.2.2.2.2.1) (sn := s.2.2.1.2.2.2.2.2.2.2) (tm := r125.2.2.2.1.2.2.2.2.2.2.1) (tn := r125.2.2.2.1.2.2.2.2.2.2.2) (CM_bad hb (s := s) er125) rfl rfl hm (fun _ => rfl) (fun _ => rfl) (fun _ => rfl) (fun _ => dM_digits_162) (fun _ R => kM_239 R) (fun _ => rfl) ⟨(Nat.le_of_ble_eq_true rfl), (Nat.le_of_ble_eq_true rfl)⟩ rfl rfl rfl (fun _ => rfl) (Nat.le_of_ble_eq_true rfl) ⟨rfl, rfl⟩
  · replace hF := xg_t c123 hF
    refine xy_r (xw_aload_n dM_digits_74 rfl) ?_
    refine xy_r (xw_iconst (1) dM_digits_75 (by decide)) ?_
    obtain ⟨r128, er128, hF⟩ := xg_b hF
    refine xy_q (fun hq => xg_V1 (k1 := _) (n1 := _) (CM_look er128) rfl rfl rfl dM_digits_76 (kM_264 _) ⟨Nat.le_of_ble_eq_true rfl, Nat.le_of_ble_eq_true rfl⟩ rfl rfl rfl rfl (Nat.le_of_ble_eq_true rfl) (Nat.le_refl _) (Nat.le_refl _) (Nat.sub_le_sub_right hq.1 _) (Nat.sub_le_sub_right hq.2 _)) ?_
    refine xy_q (fun hq => xg_S1 (k1 := _) (n1 := _) (cM_digit w) rfl rfl rfl dM_digits_79 (kM_295 _) ⟨Nat.le_of_ble_eq_true rfl, Nat.le_of_ble_eq_true rfl⟩ rfl rfl (Nat.le_of_ble_eq_true rfl) (Nat.le_refl _) (Nat.le_refl _) (Nat.sub_le_sub_right hq.1 _) (Nat.sub_le_sub_right hq.2 _)) ?_
    refine xy_br (xw_if_eq 152 dM_digits_82 (by decide)) (fun c129 => ?_) (fun c129 => ?_)
    · replace hF := xg_t c129 hF
      refine xy_r (xw_lload_n dM_digits_152 rfl) ?_
      refine xy_r (xw_ldc2 dM_digits_153 tw_1229) ?_
      refine xy_r (xw_lcmp dM_digits_156) ?_
      refine xy_br (xw_if_le 165 dM_digits_157 (by decide)) (fun c130 => ?_) (fun c130 => ?_)
      · replace hF := xg_t c130 hF
        refine xy_r (xw_lload_n dM_digits_165 rfl) ?_
        obtain rfl := Option.some.inj hF
        exact xy_end (xw_lreturn dM_digits_166 rfl (Nat.le_refl _) (Nat.le_refl _) ⟨rfl, rfl⟩)
      · replace hF := xg_f c130 hF
        refine xy_r (xw_aload_n dM_digits_160 rfl) ?_
        refine xy_r (xw_iload_n dM_digits_161 rfl) ?_
        rcases xg_o hF with ⟨r131, er131, hF⟩ | ⟨r131, er131, hF⟩
        · have hm132 : m0 ≤ r131.2.2.2.1.2.2.2.2.2.2.1 ∧ n0 ≤ r131.2.2.2.1.2.2.2.2.2.2.2 := xy_le hm (show s.2.2.1.2.2.2.2.2.2.1 ≤ r131.2.2.2.1.2.2.2.2.2.2.1 ∧ s.2.2.1.2.2.2.2.2.2.2 ≤ r131.2.2.2.1.2.2.2.2.2.2.2 from (CM_bad (w := w) (h := h) hb (s := s) er131).1)
          refine xy_V0 (nl := 2) (sm := s.2.2.1.2.2.2.2.2.2.1) (sn := s.2.2.1.2.2.2.2.2.2.2) (tm := r131.2.2.2.1.2.2.2.2.2.2.1) (tn := r131.2.2.2.1.2.2.2.2.2.2.2) (CM_bad hb (s := s) er131) rfl rfl hm (fun _ => rfl) (fun _ => rfl) (fun _ => rfl) (fun _ => dM_digits_162) (fun _ R => kM_239 R) (fun _ => rfl) ⟨(Nat.le_of_ble_eq_true rfl), (Nat.le_of_ble_eq_true rfl)⟩ rfl rfl rfl (fun _ => rfl) (Nat.le_of_ble_eq_true rfl) ?_
          refine xy_r (xw_lload_n dM_digits_165 rfl) ?_
          obtain rfl := Option.some.inj hF
          exact xy_end (xw_lreturn dM_digits_166 rfl (Nat.le_refl _) (Nat.le_refl _) ⟨rfl, rfl⟩)
        · subst hF
          exact xy_Vt (nl := 2) (sm := s.2.2.1.2.2.2.2.2.2.1) (sn := s.2.2.1.2.2.2.2.2.2.2) (tm := r131.2.2.2.1.2.2.2.2.2.2.1) (tn := r131.2.2.2.1.2.2.2.2.2.2.2) (CM_bad hb (s := s) er131) rfl rfl hm (fun _ => rfl) (fun _ => rfl) (fun _ => rfl) (fun _ => dM_digits_162) (fun _ R => kM_239 R) (fun _ => rfl) ⟨(Nat.le_of_ble_eq_true rfl), (Nat.le_of_ble_eq_true rfl)⟩ rfl rfl rfl (fun _ => rfl) (Nat.le_of_ble_eq_true rfl) ⟨rfl, rfl⟩
    · replace hF := xg_f c129 hF
      refine xy_r (xw_aload_n dM_digits_85 rfl) ?_
      refine xy_r (xw_dup_r dM_digits_86) ?_
      refine xy_r (xw_get dM_digits_87 fM_221 rfl rfl) ?_
      refine xy_r (xw_iconst (1) dM_digits_90 (by decide)) ?_
      refine xy_r (xw_iadd dM_digits_91) ?_
      refine xy_r (xg_put dM_digits_92 fM_221 rfl (by decide) (Nat.le_of_ble_eq_true rfl) (fun _ => rfl) (fun _ => rfl) (mV_o (s' := (s.1, (s.2.1.1, (s.2.1.2.1 + 1), s.2.1.2.2), s.2.2)) rfl)) ?_
      refine xy_r (xw_ldc2 dM_digits_95 tw_1228) ?_
      refine xy_r (xw_lstore dM_digits_98 (Nat.le_of_ble_eq_true rfl)) ?_
      refine xy_r (xw_Ln (L' := [some (.ref 2000), some (.int l1), some (.long (l2 * (10000))), none, none, some (.long (1000)), none]) rfl) ?_
      exact CM_digits_100 hb xFuel (s := (s.1, (s.2.1.1, (s.2.1.2.1 + 1), s.2.1.2.2), s.2.2)) hm hF
set_option maxRecDepth 20000 in
theorem CM_digits_10 {w : xw_G} {h : xw_H} (hb : xMb h)  : ∀ (fu : Nat) {l1 : Int32} {l2 : Int64} {l4 : Int32} {s : xMs} {out : (xo Int64 xMs)} {h0 : xw_H} {m0 n0 : Nat} (hm : m0 ≤ s.2.2.1.2.2.2.2.2.2.1 ∧ n0 ≤ s.2.2.1.2.2.2.2.2.2.2), FM_digits_10 fu l1 l2 l4 s = some out → xw_Y w mM_digits 7 121 (xo_P (fun x => some (.long x)) (fun s => mV s h) out) h0 m0 n0 s.2.2.1.2.2.2.2.2.2.1 s.2.2.1.2.2.2.2.2.2.2 (xo_s out).2.2.1.2.2.2.2.2.2.1 (xo_s out).2.2.1.2.2.2.2.2.2.2 10 [some (.ref 2000), some (.int l1), some (.long l2), none, some (.int l4), none, none] [] (mV s h) := by
  intro fu
  induction fu with
  | zero =>
    intro l1 l2 l4 s out h0 m0 n0 hm hF
    rw [FM_digits_10] at hF
    cases hF
  | succ fu ih =>
    intro l1 l2 l4 s out h0 m0 n0 hm hF
    rw [FM_digits_10] at hF
    refine xy_r (xw_aload_n dM_digits_10 rfl) ?_
    obtain ⟨r120, er120, hF⟩ := xg_b hF
    refine xy_q (fun hq => xg_V1 (k1 := _) (n1 := _) (CM_peek er120) rfl rfl rfl dM_digits_11 (kM_230 _) ⟨Nat.le_of_ble_eq_true rfl, Nat.le_of_ble_eq_true rfl⟩ rfl rfl rfl rfl (Nat.le_of_ble_eq_true rfl) (Nat.le_refl _) (Nat.le_refl _) (Nat.sub_le_sub_right hq.1 _) (Nat.sub_le_sub_right hq.2 _)) ?_
    refine xy_q (fun hq => xg_S1 (k1 := _) (n1 := _) (cM_digit w) rfl rfl rfl dM_digits_14 (kM_295 _) ⟨Nat.le_of_ble_eq_true rfl, Nat.le_of_ble_eq_true rfl⟩ rfl rfl (Nat.le_of_ble_eq_true rfl) (Nat.le_refl _) (Nat.le_refl _) (Nat.sub_le_sub_right hq.1 _) (Nat.sub_le_sub_right hq.2 _)) ?_
    refine xy_br (xw_if_eq 59 dM_digits_17 (by decide)) (fun c121 => ?_) (fun c121 => ?_)
    · replace hF := xg_t c121 hF
      refine xy_r (xw_drop (L' := [some (.ref 2000), some (.int l1), some (.long l2), none, none, none, none]) ⟨rfl, ⟨rfl, ⟨rfl, trivial⟩⟩⟩) ?_
      exact CM_digits_59 hb (s := s) hm hF
    · replace hF := xg_f c121 hF
      refine xy_r (xw_iload dM_digits_20 rfl) ?_
      refine xy_r (xw_bipush (11) dM_digits_22 (by decide)) ?_
      refine xy_br (xw_icmp_ge 59 dM_digits_24 (by decide)) (fun c146 => ?_) (fun c146 => ?_)
      · replace hF := xg_t c146 hF
        refine xy_r (xw_drop (L' := [some (.ref 2000), some (.int l1), some (.long l2), none, none, none, none]) ⟨rfl, ⟨rfl, ⟨rfl, trivial⟩⟩⟩) ?_
        exact CM_digits_59 hb (s := s) hm hF
      · replace hF := xg_f c146 hF
        refine xy_r (xw_ldc2 dM_digits_27 tw_1221) ?_
        refine xy_r (xw_lload_n dM_digits_30 rfl) ?_
        refine xy_r (xw_lmul dM_digits_31) ?_
        refine xy_r (xw_aload_n dM_digits_32 rfl) ?_
        obtain ⟨r147, er147, hF⟩ := xg_b hF
        refine xy_q (fun hq => xg_V1 (k1 := _) (n1 := _) (CM_peek er147) rfl rfl rfl dM_digits_33 (kM_230 _) ⟨Nat.le_of_ble_eq_true rfl, Nat.le_of_ble_eq_true rfl⟩ rfl rfl rfl rfl (Nat.le_of_ble_eq_true rfl) (Nat.le_refl _) (Nat.le_refl _) (Nat.sub_le_sub_right hq.1 _) (Nat.sub_le_sub_right hq.2 _)) ?_
        refine xy_r (xw_i2l dM_digits_36) ?_
        refine xy_r (xw_ladd dM_digits_37) ?_
        refine xy_r (xw_ldc2 dM_digits_38 tw_1222) ?_
        refine xy_r (xw_lsub dM_digits_41) ?_
        refine xy_r (xw_lstore_n dM_digits_42 (Nat.le_of_ble_eq_true rfl)) ?_
        refine xy_r (xw_Ln (L' := [some (.ref 2000), some (.int l1), some (.long ((((10) * l2) + (Int32.toInt64 r147)) - (48))), none, some (.int l4), none, none]) rfl) ?_
        refine xy_r (xw_iinc ((l4 + 1)) dM_digits_43 rfl rfl (Nat.le_of_ble_eq_true rfl)) ?_
        refine xy_r (xw_Ln (L' := [some (.ref 2000), some (.int l1), some (.long ((((10) * l2) + (Int32.toInt64 r147)) - (48))), none, some (.int (l4 + 1)), none, none]) rfl) ?_
        refine xy_r (xw_aload_n dM_digits_46 rfl) ?_
        refine xy_r (xw_dup_r dM_digits_47) ?_
        refine xy_r (xw_get dM_digits_48 fM_221 rfl rfl) ?_
        refine xy_r (xw_iconst (1) dM_digits_51 (by decide)) ?_
        refine xy_r (xw_iadd dM_digits_52) ?_
        refine xy_r (xg_put dM_digits_53 fM_221 rfl (by decide) (Nat.le_of_ble_eq_true rfl) (fun _ => rfl) (fun _ => rfl) (mV_o (s' := (s.1, (s.2.1.1, (s.2.1.2.1 + 1), s.2.1.2.2), s.2.2)) rfl)) ?_
        refine xy_r (xw_goto 10 dM_digits_56 (by decide)) ?_
        exact ih (s := (s.1, (s.2.1.1, (s.2.1.2.1 + 1), s.2.1.2.2), s.2.2)) hm hF
set_option maxRecDepth 20000 in
theorem CM_digits {w : xw_G} {h : xw_H} (hb : xMb h)  {s : xMs} {out : (xo Int64 xMs)} (hF : FM_digits  s = some out) : (s.2.2.1.2.2.2.2.2.2.1 ≤ (xo_s out).2.2.1.2.2.2.2.2.2.1 ∧ s.2.2.1.2.2.2.2.2.2.2 ≤ (xo_s out).2.2.1.2.2.2.2.2.2.2) ∧ xw_C w (mM_digits { frames := 7, cells := (xo_s out).2.2.1.2.2.2.2.2.2.1 - s.2.2.1.2.2.2.2.2.2.1, slots := (xo_s out).2.2.1.2.2.2.2.2.2.2 - s.2.2.1.2.2.2.2.2.2.2, locals := 121 }) (xo_P (fun x => some (.long x)) (fun s => mV s h) out) [.ref 2000] (mV s h) := by
  unfold FM_digits at hF
  refine xy_enter (L := [some (.ref 2000), none, none, none, none, none, none]) (fun _ => rfl) (fun _ => rfl) (fun _ => (show plainName "FormulaShaperModel" = true by decide +kernel)) (fun _ => (Nat.le_of_ble_eq_true rfl)) (fun _ => rfl) ?_
  have hm : s.2.2.1.2.2.2.2.2.2.1 ≤ s.2.2.1.2.2.2.2.2.2.1 ∧ s.2.2.1.2.2.2.2.2.2.2 ≤ s.2.2.1.2.2.2.2.2.2.2 := ⟨Nat.le_refl _, Nat.le_refl _⟩
  refine xy_r (xw_aload_n dM_digits_0 rfl) ?_
  refine xy_r (xw_get dM_digits_1 fM_221 rfl rfl) ?_
  refine xy_r (xw_istore_n dM_digits_4 (Nat.le_of_ble_eq_true rfl)) ?_
  refine xy_r (xw_Ln (L' := [some (.ref 2000), some (.int s.2.1.2.1), none, none, none, none, none]) rfl) ?_
  refine xy_r (xw_lconst (0) dM_digits_5 (by decide)) ?_
  refine xy_r (xw_lstore_n dM_digits_6 (Nat.le_of_ble_eq_true rfl)) ?_
  refine xy_r (xw_Ln (L' := [some (.ref 2000), some (.int s.2.1.2.1), some (.long 0), none, none, none, none]) rfl) ?_
  refine xy_r (xw_iconst (0) dM_digits_7 (by decide)) ?_
  refine xy_r (xw_istore dM_digits_8 (Nat.le_of_ble_eq_true rfl)) ?_
  refine xy_r (xw_Ln (L' := [some (.ref 2000), some (.int s.2.1.2.1), some (.long 0), none, some (.int 0), none, none]) rfl) ?_
  exact CM_digits_10 hb xFuel (s := s) hm hF
def FM_errorHere_L : Nat → (Int32 → xMs → Option Int32) × (Int32 → Bool → Int32 → xMs → Option Int32)
  | 0 => (fun _ _ => none, fun _ _ _ _ => none)
  | fu + 1 => (fun l1 s => if 8 ≤ l1 then (some 0) else ((FM_errorHere_L fu).2 l1 true 0 s), fun l1 l2 l3 s => if 0 ≤ l1 ∧ l1 < nI 8 then ((xk_err[(l1).toNatClampNeg]?).bind fun k150 => if k150 < xk_N then (if (nI (xk_by k150).length) ≤ l3 then (if l2 = true then (some (l1 + 1)) else ((FM_errorHere_L fu).1 (l1 + 1) s)) else (if l2 = true then ((FM_look l3 s).bind fun r156 => (xk_err[(l1).toNatClampNeg]?).bind fun k157 => if k157 < xk_N ∧ 0 ≤ l3 ∧ l3 < nI (xk_by k157).length then (if r156 = ((xk_by k157).getD (l3).toNatClampNeg 0) then ((FM_errorHere_L fu).2 l1 true (l3 + 1) s) else ((FM_errorHere_L fu).2 l1 false (l3 + 1) s)) else none) else (if l2 = true then (some (l1 + 1)) else ((FM_errorHere_L fu).1 (l1 + 1) s)))) else none) else none)
def FM_errorHere_2 (fu : Nat) (l1 : Int32) (s : xMs) : Option Int32 := (FM_errorHere_L fu).1 l1 s
def FM_errorHere_12 (fu : Nat) (l1 : Int32) (l2 : Bool) (l3 : Int32) (s : xMs) : Option Int32 := (FM_errorHere_L fu).2 l1 l2 l3 s
/-- FormulaShaperModel.errorHere -/
def FM_errorHere  (s : xMs) : Option Int32 := FM_errorHere_2 xFuel 0 s
set_option maxRecDepth 20000 in
theorem CM_errorHere_L {w : xw_G} {h : xw_H} : ∀ (fu : Nat), (∀  {l1 : Int32} {s : xMs} {out : Int32} {h0 : xw_H}, FM_errorHere_2 fu l1 s = some out → xw_X w (mM_errorHere { frames := 4, cells := 0, slots := 0, locals := 85 }) (xw_R (some (.int out)) (mV s h)) h0 0 0 2 [some (.ref 2000), some (.int l1), none, none] [] (mV s h)) ∧ (∀  {l1 : Int32} {l2 : Bool} {l3 : Int32} {s : xMs} {out : Int32} {h0 : xw_H}, FM_errorHere_12 fu l1 l2 l3 s = some out → xw_X w (mM_errorHere { frames := 4, cells := 0, slots := 0, locals := 85 }) (xw_R (some (.int out)) (mV s h)) h0 0 0 12 [some (.ref 2000), some (.int l1), some (.int (xb l2)), some (.int l3)] [] (mV s h)) := by
  intro fu
  induction fu with
  | zero => exact ⟨fun q => (Option.some_ne_none _ q.symm).elim, fun q => (Option.some_ne_none _ q.symm).elim⟩
  | succ fu ih =>
    refine ⟨?_, ?_⟩
    · intro l1 s out h0 hF
      replace hF : (if 8 ≤ l1 then (some 0) else (FM_errorHere_12 fu l1 true 0 s)) = some out := hF
      refine xw_iload_n dM_errorHere_2 rfl ?_
      refine xw_bipush (8) dM_errorHere_3 (by decide) ?_
      refine xw_icmp_ge 73 dM_errorHere_5 (by decide) (fun c148 => ?_) (fun c148 => ?_)
      · replace hF := xg_t c148 hF
        refine xw_iconst (0) dM_errorHere_73 (by decide) ?_
        obtain rfl := Option.some.inj hF
        exact xw_ireturn dM_errorHere_74 rfl rfl (Nat.le_of_ble_eq_true rfl) (Nat.le_of_ble_eq_true rfl) ⟨rfl, rfl⟩
      · replace hF := xg_f c148 hF
        refine xw_iconst (1) dM_errorHere_8 (by decide) ?_
        refine xw_istore_n dM_errorHere_9 (Nat.le_of_ble_eq_true rfl) ?_
        refine xw_Ln (L' := [some (.ref 2000), some (.int l1), some (.int 1), none]) rfl ?_
        refine xw_iconst (0) dM_errorHere_10 (by decide) ?_
        refine xw_istore_n dM_errorHere_11 (Nat.le_of_ble_eq_true rfl) ?_
        refine xw_Ln (L' := [some (.ref 2000), some (.int l1), some (.int 1), some (.int 0)]) rfl ?_
        exact ih.2 (s := s) hF
    · intro l1 l2 l3 s out h0 hF
      replace hF : (if 0 ≤ l1 ∧ l1 < nI 8 then ((xk_err[(l1).toNatClampNeg]?).bind fun k150 => if k150 < xk_N then (if (nI (xk_by k150).length) ≤ l3 then (if l2 = true then (some (l1 + 1)) else (FM_errorHere_2 fu (l1 + 1) s)) else (if l2 = true then ((FM_look l3 s).bind fun r156 => (xk_err[(l1).toNatClampNeg]?).bind fun k157 => if k157 < xk_N ∧ 0 ≤ l3 ∧ l3 < nI (xk_by k157).length then (if r156 = ((xk_by k157).getD (l3).toNatClampNeg 0) then (FM_errorHere_12 fu l1 true (l3 + 1) s) else (FM_errorHere_12 fu l1 false (l3 + 1) s)) else none) else (if l2 = true then (some (l1 + 1)) else (FM_errorHere_2 fu (l1 + 1) s)))) else none) else none) = some out := hF
      refine xw_iload_n dM_errorHere_12 rfl ?_
      refine xw_aload_n dM_errorHere_13 rfl ?_
      refine xw_get dM_errorHere_14 fM_47 rfl rfl ?_
      refine xw_iload_n dM_errorHere_17 rfl ?_
      obtain ⟨g149, hF⟩ := xg_g hF
      obtain ⟨k150, ek150, hF⟩ := xg_b hF
      refine xg_saload g149 (by decide) ek150 dM_errorHere_18 rfl ?_
      obtain ⟨g151, hF⟩ := xg_g hF
      refine xg_K1 (k1 := 0) (n1 := 0) (cQ_length w g151) rfl rfl rfl dM_errorHere_19 (kM_171 _) ⟨Nat.le_of_ble_eq_true rfl, Nat.le_of_ble_eq_true rfl⟩ rfl rfl (xk_mO g151) (xk_lt9 g151) (Nat.le_of_ble_eq_true rfl) (Nat.le_of_ble_eq_true rfl) (Nat.le_of_ble_eq_true rfl) (Nat.le_of_ble_eq_true rfl) (Nat.le_of_ble_eq_true rfl) ?_
      refine xw_icmp_ge 59 dM_errorHere_22 (by decide) (fun c152 => ?_) (fun c152 => ?_)
      · replace hF := xg_t c152 hF
        refine xw_iload_n dM_errorHere_59 rfl ?_
        refine xw_if_eqB 67 dM_errorHere_60 (by decide) (fun c153 => ?_) (fun c153 => ?_)
        · replace hF := xg_f c153 hF
          refine xw_iinc ((l1 + 1)) dM_errorHere_67 rfl rfl (Nat.le_of_ble_eq_true rfl) ?_
          refine xw_Ln (L' := [some (.ref 2000), some (.int (l1 + 1)), some (.int (xb l2)), some (.int l3)]) rfl ?_
          refine xw_goto 2 dM_errorHere_70 (by decide) ?_
          refine xw_drop (L' := [some (.ref 2000), some (.int (l1 + 1)), none, none]) ⟨rfl, ⟨rfl, trivial⟩⟩ ?_
          exact ih.1 (s := s) hF
        · replace hF := xg_t c153 hF
          refine xw_iload_n dM_errorHere_63 rfl ?_
          refine xw_iconst (1) dM_errorHere_64 (by decide) ?_
          refine xw_iadd dM_errorHere_65 ?_
          obtain rfl := Option.some.inj hF
          exact xw_ireturn dM_errorHere_66 rfl rfl (Nat.le_of_ble_eq_true rfl) (Nat.le_of_ble_eq_true rfl) ⟨rfl, rfl⟩
      · replace hF := xg_f c152 hF
        refine xw_iload_n dM_errorHere_25 rfl ?_
        refine xw_if_eqB 59 dM_errorHere_26 (by decide) (fun c154 => ?_) (fun c154 => ?_)
        · replace hF := xg_f c154 hF
          refine xw_iload_n dM_errorHere_59 rfl ?_
          refine xw_if_eqB 67 dM_errorHere_60 (by decide) (fun c155 => ?_) (fun c155 => ?_)
          · replace hF := xg_f c155 hF
            refine xw_iinc ((l1 + 1)) dM_errorHere_67 rfl rfl (Nat.le_of_ble_eq_true rfl) ?_
            refine xw_Ln (L' := [some (.ref 2000), some (.int (l1 + 1)), some (.int (xb l2)), some (.int l3)]) rfl ?_
            refine xw_goto 2 dM_errorHere_70 (by decide) ?_
            refine xw_drop (L' := [some (.ref 2000), some (.int (l1 + 1)), none, none]) ⟨rfl, ⟨rfl, trivial⟩⟩ ?_
            exact ih.1 (s := s) hF
          · replace hF := xg_t c155 hF
            refine xw_iload_n dM_errorHere_63 rfl ?_
            refine xw_iconst (1) dM_errorHere_64 (by decide) ?_
            refine xw_iadd dM_errorHere_65 ?_
            obtain rfl := Option.some.inj hF
            exact xw_ireturn dM_errorHere_66 rfl rfl (Nat.le_of_ble_eq_true rfl) (Nat.le_of_ble_eq_true rfl) ⟨rfl, rfl⟩
        · replace hF := xg_t c154 hF
          refine xw_aload_n dM_errorHere_29 rfl ?_
          refine xw_iload_n dM_errorHere_30 rfl ?_
          obtain ⟨r156, er156, hF⟩ := xg_b hF
          refine xg_V1 (k1 := 0) (n1 := 0) (CM_look er156) rfl rfl rfl dM_errorHere_31 (kM_264 _) ⟨Nat.le_of_ble_eq_true rfl, Nat.le_of_ble_eq_true rfl⟩ rfl rfl rfl rfl (Nat.le_of_ble_eq_true rfl) (Nat.le_of_ble_eq_true rfl) (Nat.le_of_ble_eq_true rfl) (Nat.le_of_ble_eq_true rfl) (Nat.le_of_ble_eq_true rfl) ?_
          refine xw_aload_n dM_errorHere_34 rfl ?_
          refine xw_get dM_errorHere_35 fM_47 rfl rfl ?_
          refine xw_iload_n dM_errorHere_38 rfl ?_
          obtain ⟨k157, ek157, hF⟩ := xg_b hF
          refine xg_saload g149 (by decide) ek157 dM_errorHere_39 rfl ?_
          refine xw_iload_n dM_errorHere_40 rfl ?_
          obtain ⟨g158, hF⟩ := xg_g hF
          refine xg_K1 (k1 := 0) (n1 := 0) (CQ_charAt (w := w) g158.1 g158.2) rfl rfl rfl dM_errorHere_41 (kM_177 _) ⟨Nat.le_of_ble_eq_true rfl, Nat.le_of_ble_eq_true rfl⟩ rfl rfl (xk_mO g158.1) (xk_lt9 g158.1) (Nat.le_of_ble_eq_true rfl) (Nat.le_of_ble_eq_true rfl) (Nat.le_of_ble_eq_true rfl) (Nat.le_of_ble_eq_true rfl) (Nat.le_of_ble_eq_true rfl) ?_
          refine xw_icmp_ne 51 dM_errorHere_44 (by decide) (fun c159 => ?_) (fun c159 => ?_)
          · replace hF := xg_f c159 hF
            refine xw_iconst (0) dM_errorHere_51 (by decide) ?_
            refine xw_istore_n dM_errorHere_52 (Nat.le_of_ble_eq_true rfl) ?_
            refine xw_Ln (L' := [some (.ref 2000), some (.int l1), some (.int 0), some (.int l3)]) rfl ?_
            refine xw_iinc ((l3 + 1)) dM_errorHere_53 rfl rfl (Nat.le_of_ble_eq_true rfl) ?_
            refine xw_Ln (L' := [some (.ref 2000), some (.int l1), some (.int 0), some (.int (l3 + 1))]) rfl ?_
            refine xw_goto 12 dM_errorHere_56 (by decide) ?_
            exact ih.2 (s := s) hF
          · replace hF := xg_t c159 hF
            refine xw_iconst (1) dM_errorHere_47 (by decide) ?_
            refine xw_goto 52 dM_errorHere_48 (by decide) ?_
            refine xw_istore_n dM_errorHere_52 (Nat.le_of_ble_eq_true rfl) ?_
            refine xw_Ln (L' := [some (.ref 2000), some (.int l1), some (.int 1), some (.int l3)]) rfl ?_
            refine xw_iinc ((l3 + 1)) dM_errorHere_53 rfl rfl (Nat.le_of_ble_eq_true rfl) ?_
            refine xw_Ln (L' := [some (.ref 2000), some (.int l1), some (.int 1), some (.int (l3 + 1))]) rfl ?_
            refine xw_goto 12 dM_errorHere_56 (by decide) ?_
            exact ih.2 (s := s) hF
theorem CM_errorHere_2 {w : xw_G} {h : xw_H} (fu : Nat)  {l1 : Int32} {s : xMs} {out : Int32} {h0 : xw_H} (hF : FM_errorHere_2 fu l1 s = some out) : xw_X w (mM_errorHere { frames := 4, cells := 0, slots := 0, locals := 85 }) (xw_R (some (.int out)) (mV s h)) h0 0 0 2 [some (.ref 2000), some (.int l1), none, none] [] (mV s h) := (CM_errorHere_L fu).1 hF
theorem CM_errorHere_12 {w : xw_G} {h : xw_H} (fu : Nat)  {l1 : Int32} {l2 : Bool} {l3 : Int32} {s : xMs} {out : Int32} {h0 : xw_H} (hF : FM_errorHere_12 fu l1 l2 l3 s = some out) : xw_X w (mM_errorHere { frames := 4, cells := 0, slots := 0, locals := 85 }) (xw_R (some (.int out)) (mV s h)) h0 0 0 12 [some (.ref 2000), some (.int l1), some (.int (xb l2)), some (.int l3)] [] (mV s h) := (CM_errorHere_L fu).2 hF
set_option maxRecDepth 20000 in
theorem CM_errorHere {w : xw_G} {h : xw_H}  {s : xMs} {out : Int32} (hF : FM_errorHere  s = some out) : xw_C w (mM_errorHere { frames := 4, cells := 0, slots := 0, locals := 85 }) (xw_R (some (.int out)) (mV s h)) [.ref 2000] (mV s h) := by
  unfold FM_errorHere at hF
  refine xw_enter rfl (show plainName "FormulaShaperModel" = true by decide +kernel) (Nat.le_of_ble_eq_true rfl) ?_
  refine xw_iconst (0) dM_errorHere_0 (by decide) ?_
  refine xw_istore_n dM_errorHere_1 (Nat.le_of_ble_eq_true rfl) ?_
  refine xw_Ln (L' := [some (.ref 2000), some (.int 0), none, none]) rfl ?_
  exact CM_errorHere_2 xFuel (s := s) hF
def FM_quoted_29 : Nat → Nat → Int32 → xMs → Option (xo Nat xMs)
  | 0, _, _, _ => none
  | fu + 1, l1, l2, s => (FM_peek s).bind fun r164 => if r164 < 32 then (xo_b (FM_bad l2 s) fun r166 => if r164 = 34 then ((FM_look 1 r166.2).bind fun r171 => if r171 = 34 then (if r164 = 34 then (FM_quoted_29 fu l1 l2 (r166.2.1, (r166.2.2.1.1, (r166.2.2.1.2.1 + 2), r166.2.2.1.2.2), r166.2.2.2)) else (FM_quoted_29 fu l1 l2 (r166.2.1, (r166.2.2.1.1, (r166.2.2.1.2.1 + 1), r166.2.2.1.2.2), r166.2.2.2))) else (if l1 < r166.2.2.2.1.2.2.2.2.1 then (some (.inl (l1, (r166.2.1, (r166.2.2.1.1, (r166.2.2.1.2.1 + 1), r166.2.2.1.2.2), (r166.2.2.2.1.1, r166.2.2.2.1.2.1, r166.2.2.2.1.2.2.1, r166.2.2.2.1.2.2.2.1, r166.2.2.2.1.2.2.2.2.1, (va_up r166.2.2.2.1.2.2.2.2.2.1 l1 (nB (r166.2.2.2.1.2.2.2.2.2.1 l1) (r166.2.2.1.2.1 - (r166.2.2.2.1.2.2.2.2.2.1 l1).1.2.1))), r166.2.2.2.1.2.2.2.2.2.2), r166.2.2.2.2)))) else none)) else (if r164 = 34 then (FM_quoted_29 fu l1 l2 (r166.2.1, (r166.2.2.1.1, (r166.2.2.1.2.1 + 2), r166.2.2.1.2.2), r166.2.2.2)) else (FM_quoted_29 fu l1 l2 (r166.2.1, (r166.2.2.1.1, (r166.2.2.1.2.1 + 1), r166.2.2.1.2.2), r166.2.2.2)))) else (if r164 ≤ 126 then (if r164 = 34 then ((FM_look 1 s).bind fun r178 => if r178 = 34 then (if r164 = 34 then (FM_quoted_29 fu l1 l2 (s.1, (s.2.1.1, (s.2.1.2.1 + 2), s.2.1.2.2), s.2.2)) else (FM_quoted_29 fu l1 l2 (s.1, (s.2.1.1, (s.2.1.2.1 + 1), s.2.1.2.2), s.2.2))) else (if l1 < s.2.2.1.2.2.2.2.1 then (some (.inl (l1, (s.1, (s.2.1.1, (s.2.1.2.1 + 1), s.2.1.2.2), (s.2.2.1.1, s.2.2.1.2.1, s.2.2.1.2.2.1, s.2.2.1.2.2.2.1, s.2.2.1.2.2.2.2.1, (va_up s.2.2.1.2.2.2.2.2.1 l1 (nB (s.2.2.1.2.2.2.2.2.1 l1) (s.2.1.2.1 - (s.2.2.1.2.2.2.2.2.1 l1).1.2.1))), s.2.2.1.2.2.2.2.2.2), s.2.2.2)))) else none)) else (if r164 = 34 then (FM_quoted_29 fu l1 l2 (s.1, (s.2.1.1, (s.2.1.2.1 + 2), s.2.1.2.2), s.2.2)) else (FM_quoted_29 fu l1 l2 (s.1, (s.2.1.1, (s.2.1.2.1 + 1), s.2.1.2.2), s.2.2)))) else (xo_b (FM_bad l2 s) fun r182 => if r164 = 34 then ((FM_look 1 r182.2).bind fun r187 => if r187 = 34 then (if r164 = 34 then (FM_quoted_29 fu l1 l2 (r182.2.1, (r182.2.2.1.1, (r182.2.2.1.2.1 + 2), r182.2.2.1.2.2), r182.2.2.2)) else (FM_quoted_29 fu l1 l2 (r182.2.1, (r182.2.2.1.1, (r182.2.2.1.2.1 + 1), r182.2.2.1.2.2), r182.2.2.2))) else (if l1 < r182.2.2.2.1.2.2.2.2.1 then (some (.inl (l1, (r182.2.1, (r182.2.2.1.1, (r182.2.2.1.2.1 + 1), r182.2.2.1.2.2), (r182.2.2.2.1.1, r182.2.2.2.1.2.1, r182.2.2.2.1.2.2.1, r182.2.2.2.1.2.2.2.1, r182.2.2.2.1.2.2.2.2.1, (va_up r182.2.2.2.1.2.2.2.2.2.1 l1 (nB (r182.2.2.2.1.2.2.2.2.2.1 l1) (r182.2.2.1.2.1 - (r182.2.2.2.1.2.2.2.2.2.1 l1).1.2.1))), r182.2.2.2.1.2.2.2.2.2.2), r182.2.2.2.2)))) else none)) else (if r164 = 34 then (FM_quoted_29 fu l1 l2 (r182.2.1, (r182.2.2.1.1, (r182.2.2.1.2.1 + 2), r182.2.2.1.2.2), r182.2.2.2)) else (FM_quoted_29 fu l1 l2 (r182.2.1, (r182.2.2.1.1, (r182.2.2.1.2.1 + 1), r182.2.2.1.2.2), r182.2.2.2)))))
/-- FormulaShaperModel.quoted -/
def FM_quoted  (s : xMs) : Option (xo Nat xMs) := (FM_node 1 s).bind fun r160 => if r160.1 < r160.2.2.2.1.2.2.2.2.1 then (FM_quoted_29 xFuel r160.1 r160.2.2.1.2.1 (r160.2.1, (r160.2.2.1.1, (r160.2.2.1.2.1 + 1), r160.2.2.1.2.2), (r160.2.2.2.1.1, r160.2.2.2.1.2.1, r160.2.2.2.1.2.2.1, r160.2.2.2.1.2.2.2.1, r160.2.2.2.1.2.2.2.2.1, (va_up r160.2.2.2.1.2.2.2.2.2.1 r160.1 (nA (r160.2.2.2.1.2.2.2.2.2.1 r160.1) (r160.2.2.1.2.1 + 1))), r160.2.2.2.1.2.2.2.2.2.2), r160.2.2.2.2)) else none
set_option maxRecDepth 20000 in
theorem CM_quoted_29 {w : xw_G} {h : xw_H} (hb : xMb h)  : ∀ (fu : Nat) {l1 : Nat} {l2 : Int32} {s : xMs} {out : (xo Nat xMs)} {h0 : xw_H} {m0 n0 : Nat} (hm : m0 ≤ s.2.2.1.2.2.2.2.2.2.1 ∧ n0 ≤ s.2.2.1.2.2.2.2.2.2.2), FM_quoted_29 fu l1 l2 s = some out → xw_Y w mM_quoted 7 121 (xo_P (fun x => some (.ref (xn x))) (fun s => mV s h) out) h0 m0 n0 s.2.2.1.2.2.2.2.2.2.1 s.2.2.1.2.2.2.2.2.2.2 (xo_s out).2.2.1.2.2.2.2.2.2.1 (xo_s out).2.2.1.2.2.2.2.2.2.2 29 [some (.ref 2000), some (.ref (xn l1)), some (.int l2), none] [] (mV s h) := by
  intro fu
  induction fu with
  | zero =>
    intro l1 l2 s out h0 m0 n0 hm hF
    rw [FM_quoted_29] at hF
    cases hF
  | succ fu ih =>
    intro l1 l2 s out h0 m0 n0 hm hF
    rw [FM_quoted_29] at hF
    refine xy_r (xw_aload_n dM_quoted_29 rfl) ?_
    obtain ⟨r164, er164, hF⟩ := xg_b hF
    refine xy_q (fun hq => xg_V1 (k1 := _) (n1 := _) (CM_peek er164) rfl rfl rfl dM_quoted_30 (kM_230 _) ⟨Nat.le_of_ble_eq_true rfl, Nat.le_of_ble_eq_true rfl⟩ rfl rfl rfl rfl (Nat.le_of_ble_eq_true rfl) (Nat.le_refl _) (Nat.le_refl _) (Nat.sub_le_sub_right hq.1 _) (Nat.sub_le_sub_right hq.2 _)) ?_
    refine xy_r (xw_istore_n dM_quoted_33 (Nat.le_of_ble_eq_true rfl)) ?_
    refine xy_r (xw_Ln (L' := [some (.ref 2000), some (.ref (xn l1)), some (.int l2), some (.int r164)]) rfl) ?_
    refine xy_r (xw_iload_n dM_quoted_34 rfl) ?_
    refine xy_r (xw_bipush (32) dM_quoted_35 (by decide)) ?_
    refine xy_br (xw_icmp_lt 46 dM_quoted_37 (by decide)) (fun c165 => ?_) (fun c165 => ?_)
    · replace hF := xg_t c165 hF
      refine xy_r (xw_aload_n dM_quoted_46 rfl) ?_
      refine xy_r (xw_iload_n dM_quoted_47 rfl) ?_
      rcases xg_o hF with ⟨r166, er166, hF⟩ | ⟨r166, er166, hF⟩
      · have hm167 : m0 ≤ r166.2.2.2.1.2.2.2.2.2.2.1 ∧ n0 ≤ r166.2.2.2.1.2.2.2.2.2.2.2 := xy_le hm (show s.2.2.1.2.2.2.2.2.2.1 ≤ r166.2.2.2.1.2.2.2.2.2.2.1 ∧ s.2.2.1.2.2.2.2.2.2.2 ≤ r166.2.2.2.1.2.2.2.2.2.2.2 from (CM_bad (w := w) (h := h) hb (s := s) er166).1)
        refine xy_V0 (nl := 2) (sm := s.2.2.1.2.2.2.2.2.2.1) (sn := s.2.2.1.2.2.2.2.2.2.2) (tm := r166.2.2.2.1.2.2.2.2.2.2.1) (tn := r166.2.2.2.1.2.2.2.2.2.2.2) (CM_bad hb (s := s) er166) rfl rfl hm (fun _ => rfl) (fun _ => rfl) (fun _ => rfl) (fun _ => dM_quoted_48) (fun _ R => kM_239 R) (fun _ => rfl) ⟨(Nat.le_of_ble_eq_true rfl), (Nat.le_of_ble_eq_true rfl)⟩ rfl rfl rfl (fun _ => rfl) (Nat.le_of_ble_eq_true rfl) ?_
        refine xy_r (xw_iload_n dM_quoted_51 rfl) ?_
        refine xy_r (xw_bipush (34) dM_quoted_52 (by decide)) ?_
        refine xy_brn (xw_icmp_ne 70 dM_quoted_54 (by decide)) (fun c169 => ?_) (fun c169 => ?_)
        · replace hF := xg_f c169 hF
          refine xy_r (xw_aload_n dM_quoted_70 rfl) ?_
          refine xy_r (xw_dup_r dM_quoted_71) ?_
          refine xy_r (xw_get dM_quoted_72 fM_221 rfl rfl) ?_
          refine xy_r (xw_iload_n dM_quoted_75 rfl) ?_
          refine xy_r (xw_bipush (34) dM_quoted_76 (by decide)) ?_
          refine xy_brn (xw_icmp_ne 85 dM_quoted_78 (by decide)) (fun c170 => ?_) (fun c170 => ?_)
          · replace hF := xg_f c170 hF
            refine xy_r (xw_iconst (1) dM_quoted_85 (by decide)) ?_
            refine xy_r (xw_iadd dM_quoted_86) ?_
            refine xy_r (xg_put dM_quoted_87 fM_221 rfl (by decide) (Nat.le_of_ble_eq_true rfl) (fun _ => rfl) (fun _ => rfl) (mV_o (s' := (r166.2.1, (r166.2.2.1.1, (r166.2.2.1.2.1 + 1), r166.2.2.1.2.2), r166.2.2.2)) rfl)) ?_
            refine xy_r (xw_goto 29 dM_quoted_90 (by decide)) ?_
            refine xy_r (xw_drop (L' := [some (.ref 2000), some (.ref (xn l1)), some (.int l2), none]) ⟨rfl, ⟨rfl, ⟨rfl, trivial⟩⟩⟩) ?_
            exact ih (s := (r166.2.1, (r166.2.2.1.1, (r166.2.2.1.2.1 + 1), r166.2.2.1.2.2), r166.2.2.2)) hm167 hF
          · replace hF := xg_t c170 hF
            refine xy_r (xw_iconst (2) dM_quoted_81 (by decide)) ?_
            refine xy_r (xw_goto 86 dM_quoted_82 (by decide)) ?_
            refine xy_r (xw_iadd dM_quoted_86) ?_
            refine xy_r (xg_put dM_quoted_87 fM_221 rfl (by decide) (Nat.le_of_ble_eq_true rfl) (fun _ => rfl) (fun _ => rfl) (mV_o (s' := (r166.2.1, (r166.2.2.1.1, (r166.2.2.1.2.1 + 2), r166.2.2.1.2.2), r166.2.2.2)) rfl)) ?_
            refine xy_r (xw_goto 29 dM_quoted_90 (by decide)) ?_
            refine xy_r (xw_drop (L' := [some (.ref 2000), some (.ref (xn l1)), some (.int l2), none]) ⟨rfl, ⟨rfl, ⟨rfl, trivial⟩⟩⟩) ?_
            exact ih (s := (r166.2.1, (r166.2.2.1.1, (r166.2.2.1.2.1 + 2), r166.2.2.1.2.2), r166.2.2.2)) hm167 hF
        · replace hF := xg_t c169 hF
          refine xy_r (xw_aload_n dM_quoted_57 rfl) ?_
          refine xy_r (xw_iconst (1) dM_quoted_58 (by decide)) ?_
          obtain ⟨r171, er171, hF⟩ := xg_b hF
          refine xy_q (fun hq => xg_V1 (k1 := _) (n1 := _) (CM_look er171) rfl rfl rfl dM_quoted_59 (kM_264 _) ⟨Nat.le_of_ble_eq_true rfl, Nat.le_of_ble_eq_true rfl⟩ rfl rfl rfl rfl (Nat.le_of_ble_eq_true rfl) (Nat.le_refl _) (Nat.le_refl _) (Nat.sub_le_sub_right hq.1 _) (Nat.sub_le_sub_right hq.2 _)) ?_
          refine xy_r (xw_bipush (34) dM_quoted_62 (by decide)) ?_
          refine xy_br (xw_icmp_eq 70 dM_quoted_64 (by decide)) (fun c172 => ?_) (fun c172 => ?_)
          · replace hF := xg_t c172 hF
            refine xy_r (xw_aload_n dM_quoted_70 rfl) ?_
            refine xy_r (xw_dup_r dM_quoted_71) ?_
            refine xy_r (xw_get dM_quoted_72 fM_221 rfl rfl) ?_
            refine xy_r (xw_iload_n dM_quoted_75 rfl) ?_
            refine xy_r (xw_bipush (34) dM_quoted_76 (by decide)) ?_
            refine xy_brn (xw_icmp_ne 85 dM_quoted_78 (by decide)) (fun c173 => ?_) (fun c173 => ?_)
            · replace hF := xg_f c173 hF
              refine xy_r (xw_iconst (1) dM_quoted_85 (by decide)) ?_
              refine xy_r (xw_iadd dM_quoted_86) ?_
              refine xy_r (xg_put dM_quoted_87 fM_221 rfl (by decide) (Nat.le_of_ble_eq_true rfl) (fun _ => rfl) (fun _ => rfl) (mV_o (s' := (r166.2.1, (r166.2.2.1.1, (r166.2.2.1.2.1 + 1), r166.2.2.1.2.2), r166.2.2.2)) rfl)) ?_
              refine xy_r (xw_goto 29 dM_quoted_90 (by decide)) ?_
              refine xy_r (xw_drop (L' := [some (.ref 2000), some (.ref (xn l1)), some (.int l2), none]) ⟨rfl, ⟨rfl, ⟨rfl, trivial⟩⟩⟩) ?_
              exact ih (s := (r166.2.1, (r166.2.2.1.1, (r166.2.2.1.2.1 + 1), r166.2.2.1.2.2), r166.2.2.2)) hm167 hF
            · replace hF := xg_t c173 hF
              refine xy_r (xw_iconst (2) dM_quoted_81 (by decide)) ?_
              refine xy_r (xw_goto 86 dM_quoted_82 (by decide)) ?_
              refine xy_r (xw_iadd dM_quoted_86) ?_
              refine xy_r (xg_put dM_quoted_87 fM_221 rfl (by decide) (Nat.le_of_ble_eq_true rfl) (fun _ => rfl) (fun _ => rfl) (mV_o (s' := (r166.2.1, (r166.2.2.1.1, (r166.2.2.1.2.1 + 2), r166.2.2.1.2.2), r166.2.2.2)) rfl)) ?_
              refine xy_r (xw_goto 29 dM_quoted_90 (by decide)) ?_
              refine xy_r (xw_drop (L' := [some (.ref 2000), some (.ref (xn l1)), some (.int l2), none]) ⟨rfl, ⟨rfl, ⟨rfl, trivial⟩⟩⟩) ?_
              exact ih (s := (r166.2.1, (r166.2.2.1.1, (r166.2.2.1.2.1 + 2), r166.2.2.1.2.2), r166.2.2.2)) hm167 hF
          · replace hF := xg_f c172 hF
            refine xy_r (xw_goto 93 dM_quoted_67 (by decide)) ?_
            refine xy_r (xw_aload_n dM_quoted_93 rfl) ?_
            refine xy_r (xw_aload_n dM_quoted_94 rfl) ?_
            refine xy_r (xw_get dM_quoted_95 fM_221 rfl rfl) ?_
            refine xy_r (xw_aload_n dM_quoted_98 rfl) ?_
            obtain ⟨g174, hF⟩ := xg_g hF
            refine xy_r (xw_get dM_quoted_99 fM_195 (mV_n g174) rfl) ?_
            refine xy_r (xw_isub dM_quoted_102) ?_
            refine xy_r (xg_put dM_quoted_103 fM_198 (mV_n g174) (xn_le _) (Nat.le_of_ble_eq_true rfl) (fun _ => rfl) (fun _ => rfl) (mV_e (s' := (r166.2.1, r166.2.2.1, (r166.2.2.2.1.1, r166.2.2.2.1.2.1, r166.2.2.2.1.2.2.1, r166.2.2.2.1.2.2.2.1, r166.2.2.2.1.2.2.2.2.1, (va_up r166.2.2.2.1.2.2.2.2.2.1 l1 (nB (r166.2.2.2.1.2.2.2.2.2.1 l1) (r166.2.2.1.2.1 - (r166.2.2.2.1.2.2.2.2.2.1 l1).1.2.1))), r166.2.2.2.1.2.2.2.2.2.2), r166.2.2.2.2)) (mV_pn (q := (nB (r166.2.2.2.1.2.2.2.2.2.1 l1) (r166.2.2.1.2.1 - (r166.2.2.2.1.2.2.2.2.2.1 l1).1.2.1))) g174) rfl)) ?_
            refine xy_r (xw_aload_n dM_quoted_106 rfl) ?_
            refine xy_r (xw_dup_r dM_quoted_107) ?_
            refine xy_r (xw_get dM_quoted_108 fM_221 rfl rfl) ?_
            refine xy_r (xw_iconst (1) dM_quoted_111 (by decide)) ?_
            refine xy_r (xw_iadd dM_quoted_112) ?_
            refine xy_r (xg_put dM_quoted_113 fM_221 rfl (by decide) (Nat.le_of_ble_eq_true rfl) (fun _ => rfl) (fun _ => rfl) (mV_o (s' := (r166.2.1, (r166.2.2.1.1, (r166.2.2.1.2.1 + 1), r166.2.2.1.2.2), (r166.2.2.2.1.1, r166.2.2.2.1.2.1, r166.2.2.2.1.2.2.1, r166.2.2.2.1.2.2.2.1, r166.2.2.2.1.2.2.2.2.1, (va_up r166.2.2.2.1.2.2.2.2.2.1 l1 (nB (r166.2.2.2.1.2.2.2.2.2.1 l1) (r166.2.2.1.2.1 - (r166.2.2.2.1.2.2.2.2.2.1 l1).1.2.1))), r166.2.2.2.1.2.2.2.2.2.2), r166.2.2.2.2)) rfl)) ?_
            refine xy_r (xw_aload_n dM_quoted_116 rfl) ?_
            obtain rfl := Option.some.inj hF
            exact xy_end (xw_areturn dM_quoted_117 rfl (Or.inl ⟨_, rfl⟩) (Nat.le_refl _) (Nat.le_refl _) ⟨rfl, rfl⟩)
      · subst hF
        exact xy_Vt (nl := 2) (sm := s.2.2.1.2.2.2.2.2.2.1) (sn := s.2.2.1.2.2.2.2.2.2.2) (tm := r166.2.2.2.1.2.2.2.2.2.2.1) (tn := r166.2.2.2.1.2.2.2.2.2.2.2) (CM_bad hb (s := s) er166) rfl rfl hm (fun _ => rfl) (fun _ => rfl) (fun _ => rfl) (fun _ => dM_quoted_48) (fun _ R => kM_239 R) (fun _ => rfl) ⟨(Nat.le_of_ble_eq_true rfl), (Nat.le_of_ble_eq_true rfl)⟩ rfl rfl rfl (fun _ => rfl) (Nat.le_of_ble_eq_true rfl) ⟨rfl, rfl⟩
    · replace hF := xg_f c165 hF
      refine xy_r (xw_iload_n dM_quoted_40 rfl) ?_
      refine xy_r (xw_bipush (126) dM_quoted_41 (by decide)) ?_
      refine xy_br (xw_icmp_le 51 dM_quoted_43 (by decide)) (fun c175 => ?_) (fun c175 => ?_)
      · replace hF := xg_t c175 hF
        refine xy_r (xw_iload_n dM_quoted_51 rfl) ?_
        refine xy_r (xw_bipush (34) dM_quoted_52 (by decide)) ?_
        refine xy_brn (xw_icmp_ne 70 dM_quoted_54 (by decide)) (fun c176 => ?_) (fun c176 => ?_)
        · replace hF := xg_f c176 hF
          refine xy_r (xw_aload_n dM_quoted_70 rfl) ?_
          refine xy_r (xw_dup_r dM_quoted_71) ?_
          refine xy_r (xw_get dM_quoted_72 fM_221 rfl rfl) ?_
          refine xy_r (xw_iload_n dM_quoted_75 rfl) ?_
          refine xy_r (xw_bipush (34) dM_quoted_76 (by decide)) ?_
          refine xy_brn (xw_icmp_ne 85 dM_quoted_78 (by decide)) (fun c177 => ?_) (fun c177 => ?_)
          · replace hF := xg_f c177 hF
            refine xy_r (xw_iconst (1) dM_quoted_85 (by decide)) ?_
            refine xy_r (xw_iadd dM_quoted_86) ?_
            refine xy_r (xg_put dM_quoted_87 fM_221 rfl (by decide) (Nat.le_of_ble_eq_true rfl) (fun _ => rfl) (fun _ => rfl) (mV_o (s' := (s.1, (s.2.1.1, (s.2.1.2.1 + 1), s.2.1.2.2), s.2.2)) rfl)) ?_
            refine xy_r (xw_goto 29 dM_quoted_90 (by decide)) ?_
            refine xy_r (xw_drop (L' := [some (.ref 2000), some (.ref (xn l1)), some (.int l2), none]) ⟨rfl, ⟨rfl, ⟨rfl, trivial⟩⟩⟩) ?_
            exact ih (s := (s.1, (s.2.1.1, (s.2.1.2.1 + 1), s.2.1.2.2), s.2.2)) hm hF
          · replace hF := xg_t c177 hF
            refine xy_r (xw_iconst (2) dM_quoted_81 (by decide)) ?_
            refine xy_r (xw_goto 86 dM_quoted_82 (by decide)) ?_
            refine xy_r (xw_iadd dM_quoted_86) ?_
            refine xy_r (xg_put dM_quoted_87 fM_221 rfl (by decide) (Nat.le_of_ble_eq_true rfl) (fun _ => rfl) (fun _ => rfl) (mV_o (s' := (s.1, (s.2.1.1, (s.2.1.2.1 + 2), s.2.1.2.2), s.2.2)) rfl)) ?_
            refine xy_r (xw_goto 29 dM_quoted_90 (by decide)) ?_
            refine xy_r (xw_drop (L' := [some (.ref 2000), some (.ref (xn l1)), some (.int l2), none]) ⟨rfl, ⟨rfl, ⟨rfl, trivial⟩⟩⟩) ?_
            exact ih (s := (s.1, (s.2.1.1, (s.2.1.2.1 + 2), s.2.1.2.2), s.2.2)) hm hF
        · replace hF := xg_t c176 hF
          refine xy_r (xw_aload_n dM_quoted_57 rfl) ?_
          refine xy_r (xw_iconst (1) dM_quoted_58 (by decide)) ?_
          obtain ⟨r178, er178, hF⟩ := xg_b hF
          refine xy_q (fun hq => xg_V1 (k1 := _) (n1 := _) (CM_look er178) rfl rfl rfl dM_quoted_59 (kM_264 _) ⟨Nat.le_of_ble_eq_true rfl, Nat.le_of_ble_eq_true rfl⟩ rfl rfl rfl rfl (Nat.le_of_ble_eq_true rfl) (Nat.le_refl _) (Nat.le_refl _) (Nat.sub_le_sub_right hq.1 _) (Nat.sub_le_sub_right hq.2 _)) ?_
          refine xy_r (xw_bipush (34) dM_quoted_62 (by decide)) ?_
          refine xy_br (xw_icmp_eq 70 dM_quoted_64 (by decide)) (fun c179 => ?_) (fun c179 => ?_)
          · replace hF := xg_t c179 hF
            refine xy_r (xw_aload_n dM_quoted_70 rfl) ?_
            refine xy_r (xw_dup_r dM_quoted_71) ?_
            refine xy_r (xw_get dM_quoted_72 fM_221 rfl rfl) ?_
            refine xy_r (xw_iload_n dM_quoted_75 rfl) ?_
            refine xy_r (xw_bipush (34) dM_quoted_76 (by decide)) ?_
            refine xy_brn (xw_icmp_ne 85 dM_quoted_78 (by decide)) (fun c180 => ?_) (fun c180 => ?_)
            · replace hF := xg_f c180 hF
              refine xy_r (xw_iconst (1) dM_quoted_85 (by decide)) ?_
              refine xy_r (xw_iadd dM_quoted_86) ?_
              refine xy_r (xg_put dM_quoted_87 fM_221 rfl (by decide) (Nat.le_of_ble_eq_true rfl) (fun _ => rfl) (fun _ => rfl) (mV_o (s' := (s.1, (s.2.1.1, (s.2.1.2.1 + 1), s.2.1.2.2), s.2.2)) rfl)) ?_
              refine xy_r (xw_goto 29 dM_quoted_90 (by decide)) ?_
              refine xy_r (xw_drop (L' := [some (.ref 2000), some (.ref (xn l1)), some (.int l2), none]) ⟨rfl, ⟨rfl, ⟨rfl, trivial⟩⟩⟩) ?_
              exact ih (s := (s.1, (s.2.1.1, (s.2.1.2.1 + 1), s.2.1.2.2), s.2.2)) hm hF
            · replace hF := xg_t c180 hF
              refine xy_r (xw_iconst (2) dM_quoted_81 (by decide)) ?_
              refine xy_r (xw_goto 86 dM_quoted_82 (by decide)) ?_
              refine xy_r (xw_iadd dM_quoted_86) ?_
              refine xy_r (xg_put dM_quoted_87 fM_221 rfl (by decide) (Nat.le_of_ble_eq_true rfl) (fun _ => rfl) (fun _ => rfl) (mV_o (s' := (s.1, (s.2.1.1, (s.2.1.2.1 + 2), s.2.1.2.2), s.2.2)) rfl)) ?_
              refine xy_r (xw_goto 29 dM_quoted_90 (by decide)) ?_
              refine xy_r (xw_drop (L' := [some (.ref 2000), some (.ref (xn l1)), some (.int l2), none]) ⟨rfl, ⟨rfl, ⟨rfl, trivial⟩⟩⟩) ?_
              exact ih (s := (s.1, (s.2.1.1, (s.2.1.2.1 + 2), s.2.1.2.2), s.2.2)) hm hF
          · replace hF := xg_f c179 hF
            refine xy_r (xw_goto 93 dM_quoted_67 (by decide)) ?_
            refine xy_r (xw_aload_n dM_quoted_93 rfl) ?_
            refine xy_r (xw_aload_n dM_quoted_94 rfl) ?_
            refine xy_r (xw_get dM_quoted_95 fM_221 rfl rfl) ?_
            refine xy_r (xw_aload_n dM_quoted_98 rfl) ?_
            obtain ⟨g181, hF⟩ := xg_g hF
            refine xy_r (xw_get dM_quoted_99 fM_195 (mV_n g181) rfl) ?_
            refine xy_r (xw_isub dM_quoted_102) ?_
            refine xy_r (xg_put dM_quoted_103 fM_198 (mV_n g181) (xn_le _) (Nat.le_of_ble_eq_true rfl) (fun _ => rfl) (fun _ => rfl) (mV_e (s' := (s.1, s.2.1, (s.2.2.1.1, s.2.2.1.2.1, s.2.2.1.2.2.1, s.2.2.1.2.2.2.1, s.2.2.1.2.2.2.2.1, (va_up s.2.2.1.2.2.2.2.2.1 l1 (nB (s.2.2.1.2.2.2.2.2.1 l1) (s.2.1.2.1 - (s.2.2.1.2.2.2.2.2.1 l1).1.2.1))), s.2.2.1.2.2.2.2.2.2), s.2.2.2)) (mV_pn (q := (nB (s.2.2.1.2.2.2.2.2.1 l1) (s.2.1.2.1 - (s.2.2.1.2.2.2.2.2.1 l1).1.2.1))) g181) rfl)) ?_
            refine xy_r (xw_aload_n dM_quoted_106 rfl) ?_
            refine xy_r (xw_dup_r dM_quoted_107) ?_
            refine xy_r (xw_get dM_quoted_108 fM_221 rfl rfl) ?_
            refine xy_r (xw_iconst (1) dM_quoted_111 (by decide)) ?_
            refine xy_r (xw_iadd dM_quoted_112) ?_
            refine xy_r (xg_put dM_quoted_113 fM_221 rfl (by decide) (Nat.le_of_ble_eq_true rfl) (fun _ => rfl) (fun _ => rfl) (mV_o (s' := (s.1, (s.2.1.1, (s.2.1.2.1 + 1), s.2.1.2.2), (s.2.2.1.1, s.2.2.1.2.1, s.2.2.1.2.2.1, s.2.2.1.2.2.2.1, s.2.2.1.2.2.2.2.1, (va_up s.2.2.1.2.2.2.2.2.1 l1 (nB (s.2.2.1.2.2.2.2.2.1 l1) (s.2.1.2.1 - (s.2.2.1.2.2.2.2.2.1 l1).1.2.1))), s.2.2.1.2.2.2.2.2.2), s.2.2.2)) rfl)) ?_
            refine xy_r (xw_aload_n dM_quoted_116 rfl) ?_
            obtain rfl := Option.some.inj hF
            exact xy_end (xw_areturn dM_quoted_117 rfl (Or.inl ⟨_, rfl⟩) (Nat.le_refl _) (Nat.le_refl _) ⟨rfl, rfl⟩)
      · replace hF := xg_f c175 hF
        refine xy_r (xw_aload_n dM_quoted_46 rfl) ?_
        refine xy_r (xw_iload_n dM_quoted_47 rfl) ?_
        rcases xg_o hF with ⟨r182, er182, hF⟩ | ⟨r182, er182, hF⟩
        · have hm183 : m0 ≤ r182.2.2.2.1.2.2.2.2.2.2.1 ∧ n0 ≤ r182.2.2.2.1.2.2.2.2.2.2.2 := xy_le hm (show s.2.2.1.2.2.2.2.2.2.1 ≤ r182.2.2.2.1.2.2.2.2.2.2.1 ∧ s.2.2.1.2.2.2.2.2.2.2 ≤ r182.2.2.2.1.2.2.2.2.2.2.2 from (CM_bad (w := w) (h := h) hb (s := s) er182).1)
          refine xy_V0 (nl := 2) (sm := s.2.2.1.2.2.2.2.2.2.1) (sn := s.2.2.1.2.2.2.2.2.2.2) (tm := r182.2.2.2.1.2.2.2.2.2.2.1) (tn := r182.2.2.2.1.2.2.2.2.2.2.2) (CM_bad hb (s := s) er182) rfl rfl hm (fun _ => rfl) (fun _ => rfl) (fun _ => rfl) (fun _ => dM_quoted_48) (fun _ R => kM_239 R) (fun _ => rfl) ⟨(Nat.le_of_ble_eq_true rfl), (Nat.le_of_ble_eq_true rfl)⟩ rfl rfl rfl (fun _ => rfl) (Nat.le_of_ble_eq_true rfl) ?_
          refine xy_r (xw_iload_n dM_quoted_51 rfl) ?_
          refine xy_r (xw_bipush (34) dM_quoted_52 (by decide)) ?_
          refine xy_brn (xw_icmp_ne 70 dM_quoted_54 (by decide)) (fun c185 => ?_) (fun c185 => ?_)
          · replace hF := xg_f c185 hF
            refine xy_r (xw_aload_n dM_quoted_70 rfl) ?_
            refine xy_r (xw_dup_r dM_quoted_71) ?_
            refine xy_r (xw_get dM_quoted_72 fM_221 rfl rfl) ?_
            refine xy_r (xw_iload_n dM_quoted_75 rfl) ?_
            refine xy_r (xw_bipush (34) dM_quoted_76 (by decide)) ?_
            refine xy_brn (xw_icmp_ne 85 dM_quoted_78 (by decide)) (fun c186 => ?_) (fun c186 => ?_)
            · replace hF := xg_f c186 hF
              refine xy_r (xw_iconst (1) dM_quoted_85 (by decide)) ?_
              refine xy_r (xw_iadd dM_quoted_86) ?_
              refine xy_r (xg_put dM_quoted_87 fM_221 rfl (by decide) (Nat.le_of_ble_eq_true rfl) (fun _ => rfl) (fun _ => rfl) (mV_o (s' := (r182.2.1, (r182.2.2.1.1, (r182.2.2.1.2.1 + 1), r182.2.2.1.2.2), r182.2.2.2)) rfl)) ?_
              refine xy_r (xw_goto 29 dM_quoted_90 (by decide)) ?_
              refine xy_r (xw_drop (L' := [some (.ref 2000), some (.ref (xn l1)), some (.int l2), none]) ⟨rfl, ⟨rfl, ⟨rfl, trivial⟩⟩⟩) ?_
              exact ih (s := (r182.2.1, (r182.2.2.1.1, (r182.2.2.1.2.1 + 1), r182.2.2.1.2.2), r182.2.2.2)) hm183 hF
            · replace hF := xg_t c186 hF
              refine xy_r (xw_iconst (2) dM_quoted_81 (by decide)) ?_
              refine xy_r (xw_goto 86 dM_quoted_82 (by decide)) ?_
              refine xy_r (xw_iadd dM_quoted_86) ?_
              refine xy_r (xg_put dM_quoted_87 fM_221 rfl (by decide) (Nat.le_of_ble_eq_true rfl) (fun _ => rfl) (fun _ => rfl) (mV_o (s' := (r182.2.1, (r182.2.2.1.1, (r182.2.2.1.2.1 + 2), r182.2.2.1.2.2), r182.2.2.2)) rfl)) ?_
              refine xy_r (xw_goto 29 dM_quoted_90 (by decide)) ?_
              refine xy_r (xw_drop (L' := [some (.ref 2000), some (.ref (xn l1)), some (.int l2), none]) ⟨rfl, ⟨rfl, ⟨rfl, trivial⟩⟩⟩) ?_
              exact ih (s := (r182.2.1, (r182.2.2.1.1, (r182.2.2.1.2.1 + 2), r182.2.2.1.2.2), r182.2.2.2)) hm183 hF
          · replace hF := xg_t c185 hF
            refine xy_r (xw_aload_n dM_quoted_57 rfl) ?_
            refine xy_r (xw_iconst (1) dM_quoted_58 (by decide)) ?_
            obtain ⟨r187, er187, hF⟩ := xg_b hF
            refine xy_q (fun hq => xg_V1 (k1 := _) (n1 := _) (CM_look er187) rfl rfl rfl dM_quoted_59 (kM_264 _) ⟨Nat.le_of_ble_eq_true rfl, Nat.le_of_ble_eq_true rfl⟩ rfl rfl rfl rfl (Nat.le_of_ble_eq_true rfl) (Nat.le_refl _) (Nat.le_refl _) (Nat.sub_le_sub_right hq.1 _) (Nat.sub_le_sub_right hq.2 _)) ?_
            refine xy_r (xw_bipush (34) dM_quoted_62 (by decide)) ?_
            refine xy_br (xw_icmp_eq 70 dM_quoted_64 (by decide)) (fun c188 => ?_) (fun c188 => ?_)
            · replace hF := xg_t c188 hF
              refine xy_r (xw_aload_n dM_quoted_70 rfl) ?_
              refine xy_r (xw_dup_r dM_quoted_71) ?_
              refine xy_r (xw_get dM_quoted_72 fM_221 rfl rfl) ?_
              refine xy_r (xw_iload_n dM_quoted_75 rfl) ?_
              refine xy_r (xw_bipush (34) dM_quoted_76 (by decide)) ?_
              refine xy_brn (xw_icmp_ne 85 dM_quoted_78 (by decide)) (fun c189 => ?_) (fun c189 => ?_)
              · replace hF := xg_f c189 hF
                refine xy_r (xw_iconst (1) dM_quoted_85 (by decide)) ?_
                refine xy_r (xw_iadd dM_quoted_86) ?_
                refine xy_r (xg_put dM_quoted_87 fM_221 rfl (by decide) (Nat.le_of_ble_eq_true rfl) (fun _ => rfl) (fun _ => rfl) (mV_o (s' := (r182.2.1, (r182.2.2.1.1, (r182.2.2.1.2.1 + 1), r182.2.2.1.2.2), r182.2.2.2)) rfl)) ?_
                refine xy_r (xw_goto 29 dM_quoted_90 (by decide)) ?_
                refine xy_r (xw_drop (L' := [some (.ref 2000), some (.ref (xn l1)), some (.int l2), none]) ⟨rfl, ⟨rfl, ⟨rfl, trivial⟩⟩⟩) ?_
                exact ih (s := (r182.2.1, (r182.2.2.1.1, (r182.2.2.1.2.1 + 1), r182.2.2.1.2.2), r182.2.2.2)) hm183 hF
              · replace hF := xg_t c189 hF
                refine xy_r (xw_iconst (2) dM_quoted_81 (by decide)) ?_
                refine xy_r (xw_goto 86 dM_quoted_82 (by decide)) ?_
                refine xy_r (xw_iadd dM_quoted_86) ?_
                refine xy_r (xg_put dM_quoted_87 fM_221 rfl (by decide) (Nat.le_of_ble_eq_true rfl) (fun _ => rfl) (fun _ => rfl) (mV_o (s' := (r182.2.1, (r182.2.2.1.1, (r182.2.2.1.2.1 + 2), r182.2.2.1.2.2), r182.2.2.2)) rfl)) ?_
                refine xy_r (xw_goto 29 dM_quoted_90 (by decide)) ?_
                refine xy_r (xw_drop (L' := [some (.ref 2000), some (.ref (xn l1)), some (.int l2), none]) ⟨rfl, ⟨rfl, ⟨rfl, trivial⟩⟩⟩) ?_
                exact ih (s := (r182.2.1, (r182.2.2.1.1, (r182.2.2.1.2.1 + 2), r182.2.2.1.2.2), r182.2.2.2)) hm183 hF
            · replace hF := xg_f c188 hF
              refine xy_r (xw_goto 93 dM_quoted_67 (by decide)) ?_
              refine xy_r (xw_aload_n dM_quoted_93 rfl) ?_
              refine xy_r (xw_aload_n dM_quoted_94 rfl) ?_
              refine xy_r (xw_get dM_quoted_95 fM_221 rfl rfl) ?_
              refine xy_r (xw_aload_n dM_quoted_98 rfl) ?_
              obtain ⟨g190, hF⟩ := xg_g hF
              refine xy_r (xw_get dM_quoted_99 fM_195 (mV_n g190) rfl) ?_
              refine xy_r (xw_isub dM_quoted_102) ?_
              refine xy_r (xg_put dM_quoted_103 fM_198 (mV_n g190) (xn_le _) (Nat.le_of_ble_eq_true rfl) (fun _ => rfl) (fun _ => rfl) (mV_e (s' := (r182.2.1, r182.2.2.1, (r182.2.2.2.1.1, r182.2.2.2.1.2.1, r182.2.2.2.1.2.2.1, r182.2.2.2.1.2.2.2.1, r182.2.2.2.1.2.2.2.2.1, (va_up r182.2.2.2.1.2.2.2.2.2.1 l1 (nB (r182.2.2.2.1.2.2.2.2.2.1 l1) (r182.2.2.1.2.1 - (r182.2.2.2.1.2.2.2.2.2.1 l1).1.2.1))), r182.2.2.2.1.2.2.2.2.2.2), r182.2.2.2.2)) (mV_pn (q := (nB (r182.2.2.2.1.2.2.2.2.2.1 l1) (r182.2.2.1.2.1 - (r182.2.2.2.1.2.2.2.2.2.1 l1).1.2.1))) g190) rfl)) ?_
              refine xy_r (xw_aload_n dM_quoted_106 rfl) ?_
              refine xy_r (xw_dup_r dM_quoted_107) ?_
              refine xy_r (xw_get dM_quoted_108 fM_221 rfl rfl) ?_
              refine xy_r (xw_iconst (1) dM_quoted_111 (by decide)) ?_
              refine xy_r (xw_iadd dM_quoted_112) ?_
              refine xy_r (xg_put dM_quoted_113 fM_221 rfl (by decide) (Nat.le_of_ble_eq_true rfl) (fun _ => rfl) (fun _ => rfl) (mV_o (s' := (r182.2.1, (r182.2.2.1.1, (r182.2.2.1.2.1 + 1), r182.2.2.1.2.2), (r182.2.2.2.1.1, r182.2.2.2.1.2.1, r182.2.2.2.1.2.2.1, r182.2.2.2.1.2.2.2.1, r182.2.2.2.1.2.2.2.2.1, (va_up r182.2.2.2.1.2.2.2.2.2.1 l1 (nB (r182.2.2.2.1.2.2.2.2.2.1 l1) (r182.2.2.1.2.1 - (r182.2.2.2.1.2.2.2.2.2.1 l1).1.2.1))), r182.2.2.2.1.2.2.2.2.2.2), r182.2.2.2.2)) rfl)) ?_
              refine xy_r (xw_aload_n dM_quoted_116 rfl) ?_
              obtain rfl := Option.some.inj hF
              exact xy_end (xw_areturn dM_quoted_117 rfl (Or.inl ⟨_, rfl⟩) (Nat.le_refl _) (Nat.le_refl _) ⟨rfl, rfl⟩)
        · subst hF
          exact xy_Vt (nl := 2) (sm := s.2.2.1.2.2.2.2.2.2.1) (sn := s.2.2.1.2.2.2.2.2.2.2) (tm := r182.2.2.2.1.2.2.2.2.2.2.1) (tn := r182.2.2.2.1.2.2.2.2.2.2.2) (CM_bad hb (s := s) er182) rfl rfl hm (fun _ => rfl) (fun _ => rfl) (fun _ => rfl) (fun _ => dM_quoted_48) (fun _ R => kM_239 R) (fun _ => rfl) ⟨(Nat.le_of_ble_eq_true rfl), (Nat.le_of_ble_eq_true rfl)⟩ rfl rfl rfl (fun _ => rfl) (Nat.le_of_ble_eq_true rfl) ⟨rfl, rfl⟩
set_option maxRecDepth 20000 in
theorem CM_quoted {w : xw_G} {h : xw_H} (hb : xMb h)  {s : xMs} {out : (xo Nat xMs)} (hF : FM_quoted  s = some out) : (s.2.2.1.2.2.2.2.2.2.1 ≤ (xo_s out).2.2.1.2.2.2.2.2.2.1 ∧ s.2.2.1.2.2.2.2.2.2.2 ≤ (xo_s out).2.2.1.2.2.2.2.2.2.2) ∧ xw_C w (mM_quoted { frames := 7, cells := (xo_s out).2.2.1.2.2.2.2.2.2.1 - s.2.2.1.2.2.2.2.2.2.1, slots := (xo_s out).2.2.1.2.2.2.2.2.2.2 - s.2.2.1.2.2.2.2.2.2.2, locals := 121 }) (xo_P (fun x => some (.ref (xn x))) (fun s => mV s h) out) [.ref 2000] (mV s h) := by
  unfold FM_quoted at hF
  refine xy_enter (L := [some (.ref 2000), none, none, none]) (fun _ => rfl) (fun _ => rfl) (fun _ => (show plainName "FormulaShaperModel" = true by decide +kernel)) (fun _ => (Nat.le_of_ble_eq_true rfl)) (fun _ => rfl) ?_
  have hm : s.2.2.1.2.2.2.2.2.2.1 ≤ s.2.2.1.2.2.2.2.2.2.1 ∧ s.2.2.1.2.2.2.2.2.2.2 ≤ s.2.2.1.2.2.2.2.2.2.2 := ⟨Nat.le_refl _, Nat.le_refl _⟩
  refine xy_r (xw_aload_n dM_quoted_0 rfl) ?_
  refine xy_r (xw_iconst (1) dM_quoted_1 (by decide)) ?_
  obtain ⟨r160, er160, hF⟩ := xg_b hF
  have hm161 : s.2.2.1.2.2.2.2.2.2.1 ≤ r160.2.2.2.1.2.2.2.2.2.2.1 ∧ s.2.2.1.2.2.2.2.2.2.2 ≤ r160.2.2.2.1.2.2.2.2.2.2.2 := xy_le hm (show s.2.2.1.2.2.2.2.2.2.1 ≤ r160.2.2.2.1.2.2.2.2.2.2.1 ∧ s.2.2.1.2.2.2.2.2.2.2 ≤ r160.2.2.2.1.2.2.2.2.2.2.2 from (CM_node (w := w) (h := h) hb (s := s) er160).1)
  refine xy_V1 (nl := 4) (sm := s.2.2.1.2.2.2.2.2.2.1) (sn := s.2.2.1.2.2.2.2.2.2.2) (tm := r160.2.2.2.1.2.2.2.2.2.2.1) (tn := r160.2.2.2.1.2.2.2.2.2.2.2) (CM_node hb (s := s) er160) rfl rfl hm (fun _ => rfl) (fun _ => rfl) (fun _ => rfl) (fun _ => dM_quoted_2) (fun _ R => kM_253 R) (fun _ => rfl) ⟨(Nat.le_of_ble_eq_true rfl), (Nat.le_of_ble_eq_true rfl)⟩ rfl rfl rfl (fun _ => rfl) (Nat.le_of_ble_eq_true rfl) ?_
  refine xy_r (xw_astore_n dM_quoted_5 (Nat.le_of_ble_eq_true rfl)) ?_
  refine xy_r (xw_Ln (L' := [some (.ref 2000), some (.ref (xn r160.1)), none, none]) rfl) ?_
  refine xy_r (xw_aload_n dM_quoted_6 rfl) ?_
  refine xy_r (xw_get dM_quoted_7 fM_221 rfl rfl) ?_
  refine xy_r (xw_istore_n dM_quoted_10 (Nat.le_of_ble_eq_true rfl)) ?_
  refine xy_r (xw_Ln (L' := [some (.ref 2000), some (.ref (xn r160.1)), some (.int r160.2.2.1.2.1), none]) rfl) ?_
  refine xy_r (xw_aload_n dM_quoted_11 rfl) ?_
  refine xy_r (xw_dup_r dM_quoted_12) ?_
  refine xy_r (xw_get dM_quoted_13 fM_221 rfl rfl) ?_
  refine xy_r (xw_iconst (1) dM_quoted_16 (by decide)) ?_
  refine xy_r (xw_iadd dM_quoted_17) ?_
  refine xy_r (xg_put dM_quoted_18 fM_221 rfl (by decide) (Nat.le_of_ble_eq_true rfl) (fun _ => rfl) (fun _ => rfl) (mV_o (s' := (r160.2.1, (r160.2.2.1.1, (r160.2.2.1.2.1 + 1), r160.2.2.1.2.2), r160.2.2.2)) rfl)) ?_
  refine xy_r (xw_aload_n dM_quoted_21 rfl) ?_
  refine xy_r (xw_aload_n dM_quoted_22 rfl) ?_
  refine xy_r (xw_get dM_quoted_23 fM_221 rfl rfl) ?_
  obtain ⟨g163, hF⟩ := xg_g hF
  refine xy_r (xg_put dM_quoted_26 fM_195 (mV_n g163) (xn_le _) (Nat.le_of_ble_eq_true rfl) (fun _ => rfl) (fun _ => rfl) (mV_e (s' := (r160.2.1, (r160.2.2.1.1, (r160.2.2.1.2.1 + 1), r160.2.2.1.2.2), (r160.2.2.2.1.1, r160.2.2.2.1.2.1, r160.2.2.2.1.2.2.1, r160.2.2.2.1.2.2.2.1, r160.2.2.2.1.2.2.2.2.1, (va_up r160.2.2.2.1.2.2.2.2.2.1 r160.1 (nA (r160.2.2.2.1.2.2.2.2.2.1 r160.1) (r160.2.2.1.2.1 + 1))), r160.2.2.2.1.2.2.2.2.2.2), r160.2.2.2.2)) (mV_pn (q := (nA (r160.2.2.2.1.2.2.2.2.2.1 r160.1) (r160.2.2.1.2.1 + 1))) g163) rfl)) ?_
  exact CM_quoted_29 hb xFuel (s := (r160.2.1, (r160.2.2.1.1, (r160.2.2.1.2.1 + 1), r160.2.2.1.2.2), (r160.2.2.2.1.1, r160.2.2.2.1.2.1, r160.2.2.2.1.2.2.1, r160.2.2.2.1.2.2.2.1, r160.2.2.2.1.2.2.2.2.1, (va_up r160.2.2.2.1.2.2.2.2.2.1 r160.1 (nA (r160.2.2.2.1.2.2.2.2.2.1 r160.1) (r160.2.2.1.2.1 + 1))), r160.2.2.2.1.2.2.2.2.2.2), r160.2.2.2.2)) hm161 hF
