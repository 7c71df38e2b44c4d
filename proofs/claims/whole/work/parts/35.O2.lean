theorem xn_le (i : Nat) : 1000 ≤ xn i := by show 1000 ≤ 3000 + 3 * i; omega
theorem xna_le {a : Nat} (i : Nat) (h : a = 3001 + 3 * i ∨ a = 3002 + 3 * i := by first | exact Or.inl rfl | exact Or.inr rfl) : 1000 ≤ a := by omega
set_option maxRecDepth 20000 in
theorem CN_init (w : xw_G) {h : xw_H} {a : Nat} : xw_C w (mN_init { frames := 1, cells := 0, slots := 0, locals := 20 }) (xw_R none h) [.ref a] h := by
  refine xw_enter rfl (by decide +kernel) (Nat.le_of_ble_eq_true rfl) ?_
  refine xw_aload_n dN_init_0 rfl ?_
  refine xw_objInit dN_init_1 oN_1 (Nat.le_of_ble_eq_true rfl) (Nat.le_of_ble_eq_true rfl) (Nat.le_of_ble_eq_true rfl) ?_
  exact xw_return dN_init_4 rfl (Nat.le_of_ble_eq_true rfl) (Nat.le_of_ble_eq_true rfl) ⟨rfl, rfl⟩
theorem nM_191 (R : Room) : xw_KN "FormulaShaperModel" 191 (mN_init R) 0 := ⟨"FormulaShaperModel", tw_1121, tw_24, tw_1123, (show (("FormulaShaperModel$Node" : String) ≠ "java/lang/invoke/MethodHandle" ∧ ("FormulaShaperModel$Node" : String) ≠ "java/lang/invoke/VarHandle") by decide), (show (parseMethodDescriptor "()V").map (fun d => d.parameters.length) = some 0 by decide +kernel), tw_1122, rfl, rfl, rfl⟩
/-- FormulaShaperModel.thrown -/
def FM_thrown  (s : xMs) : Option Int32 := some s.1.1
set_option maxRecDepth 20000 in
theorem CM_thrown {w : xw_G} {h : xw_H}  {s : xMs} {out : Int32} (hF : FM_thrown  s = some out) : xw_C w (mM_thrown { frames := 0, cells := 0, slots := 0, locals := 0 }) (xw_R (some (.int out)) (mV s h)) [.ref 2000] (mV s h) := by
  unfold FM_thrown at hF
  refine xw_enter rfl (show plainName "FormulaShaperModel" = true by decide +kernel) (Nat.le_of_ble_eq_true rfl) ?_
  refine xw_aload_n dM_thrown_0 rfl ?_
  refine xw_get dM_thrown_1 fM_185 rfl rfl ?_
  obtain rfl := Option.some.inj hF
  exact xw_ireturn dM_thrown_4 rfl rfl (Nat.le_of_ble_eq_true rfl) (Nat.le_of_ble_eq_true rfl) ⟨rfl, rfl⟩
/-- FormulaShaperModel.fail -/
def FM_fail (x0 : Int32) (s : xMs) : Option (Int32 × xMs) := some (0, ((x0, s.1.2), s.2))
set_option maxRecDepth 20000 in
theorem CM_fail {w : xw_G} {h : xw_H} (hb : xMb h) {x0 : Int32} {s : xMs} {out : (Int32 × xMs)} (hF : FM_fail x0 s = some out) : (s.2.2.1.2.2.2.2.2.2.1 ≤ out.2.2.2.1.2.2.2.2.2.2.1 ∧ s.2.2.1.2.2.2.2.2.2.2 ≤ out.2.2.2.1.2.2.2.2.2.2.2) ∧ xw_C w (mM_fail { frames := 0, cells := out.2.2.2.1.2.2.2.2.2.2.1 - s.2.2.1.2.2.2.2.2.2.1, slots := out.2.2.2.1.2.2.2.2.2.2.2 - s.2.2.1.2.2.2.2.2.2.2, locals := 0 }) (xw_R (some (.int out.1)) (mV out.2 h)) [.ref 2000, .int x0] (mV s h) := by
  unfold FM_fail at hF
  refine xy_enter (L := [some (.ref 2000), some (.int x0)]) (fun _ => rfl) (fun _ => rfl) (fun _ => (show plainName "FormulaShaperModel" = true by decide +kernel)) (fun _ => (Nat.le_of_ble_eq_true rfl)) (fun _ => rfl) ?_
  have hm : s.2.2.1.2.2.2.2.2.2.1 ≤ s.2.2.1.2.2.2.2.2.2.1 ∧ s.2.2.1.2.2.2.2.2.2.2 ≤ s.2.2.1.2.2.2.2.2.2.2 := ⟨Nat.le_refl _, Nat.le_refl _⟩
  refine xy_r (xw_aload_n dM_fail_0 rfl) ?_
  refine xy_r (xw_iload_n dM_fail_1 rfl) ?_
  refine xy_r (xg_put dM_fail_2 fM_185 rfl (by decide) (Nat.le_of_ble_eq_true rfl) (fun _ => rfl) (fun _ => rfl) (mV_o (s' := ((x0, s.1.2), s.2)) rfl)) ?_
  refine xy_r (xw_iconst (0) dM_fail_5 (by decide)) ?_
  obtain rfl := Option.some.inj hF
  exact xy_end (xw_ireturn dM_fail_6 rfl rfl (Nat.le_refl _) (Nat.le_refl _) ⟨rfl, rfl⟩)
/-- FormulaShaperModel.peek -/
def FM_peek  (s : xMs) : Option Int32 := if s.2.1.2.2.1 ≤ s.2.1.2.1 then (some (-1)) else ((xM_src s s.2.1.2.1).bind fun r2 => some (r2 &&& 255))
set_option maxRecDepth 20000 in
theorem CM_peek {w : xw_G} {h : xw_H}  {s : xMs} {out : Int32} (hF : FM_peek  s = some out) : xw_C w (mM_peek { frames := 0, cells := 0, slots := 0, locals := 0 }) (xw_R (some (.int out)) (mV s h)) [.ref 2000] (mV s h) := by
  unfold FM_peek at hF
  refine xw_enter rfl (show plainName "FormulaShaperModel" = true by decide +kernel) (Nat.le_of_ble_eq_true rfl) ?_
  refine xw_aload_n dM_peek_0 rfl ?_
  refine xw_get dM_peek_1 fM_221 rfl rfl ?_
  refine xw_aload_n dM_peek_4 rfl ?_
  refine xw_get dM_peek_5 fM_224 rfl rfl ?_
  refine xw_icmp_ge 27 dM_peek_8 (by decide) (fun c1 => ?_) (fun c1 => ?_)
  · replace hF := xg_t c1 hF
    refine xw_iconst (-1) dM_peek_27 (by decide) ?_
    obtain rfl := Option.some.inj hF
    exact xw_ireturn dM_peek_28 rfl rfl (Nat.le_of_ble_eq_true rfl) (Nat.le_of_ble_eq_true rfl) ⟨rfl, rfl⟩
  · replace hF := xg_f c1 hF
    refine xw_aload_n dM_peek_11 rfl ?_
    refine xw_get dM_peek_12 fM_227 rfl rfl ?_
    refine xw_aload_n dM_peek_15 rfl ?_
    refine xw_get dM_peek_16 fM_221 rfl rfl ?_
    obtain ⟨r2, er2, hF⟩ := xg_b hF
    refine xg_src er2 dM_peek_19 ?_
    refine xw_sipush (255) dM_peek_20 (by decide) ?_
    refine xw_iand dM_peek_23 ?_
    refine xw_goto 28 dM_peek_24 (by decide) ?_
    obtain rfl := Option.some.inj hF
    exact xw_ireturn dM_peek_28 rfl rfl (Nat.le_of_ble_eq_true rfl) (Nat.le_of_ble_eq_true rfl) ⟨rfl, rfl⟩
/-- FormulaShaperModel.look -/
def FM_look (x0 : Int32) (s : xMs) : Option Int32 := if s.2.1.2.2.1 ≤ (s.2.1.2.1 + x0) then (some (-1)) else ((xM_src s (s.2.1.2.1 + x0)).bind fun r4 => some (r4 &&& 255))
set_option maxRecDepth 20000 in
theorem CM_look {w : xw_G} {h : xw_H} {x0 : Int32} {s : xMs} {out : Int32} (hF : FM_look x0 s = some out) : xw_C w (mM_look { frames := 0, cells := 0, slots := 0, locals := 0 }) (xw_R (some (.int out)) (mV s h)) [.ref 2000, .int x0] (mV s h) := by
  unfold FM_look at hF
  refine xw_enter rfl (show plainName "FormulaShaperModel" = true by decide +kernel) (Nat.le_of_ble_eq_true rfl) ?_
  refine xw_aload_n dM_look_0 rfl ?_
  refine xw_get dM_look_1 fM_221 rfl rfl ?_
  refine xw_iload_n dM_look_4 rfl ?_
  refine xw_iadd dM_look_5 ?_
  refine xw_aload_n dM_look_6 rfl ?_
  refine xw_get dM_look_7 fM_224 rfl rfl ?_
  refine xw_icmp_ge 31 dM_look_10 (by decide) (fun c3 => ?_) (fun c3 => ?_)
  · replace hF := xg_t c3 hF
    refine xw_iconst (-1) dM_look_31 (by decide) ?_
    obtain rfl := Option.some.inj hF
    exact xw_ireturn dM_look_32 rfl rfl (Nat.le_of_ble_eq_true rfl) (Nat.le_of_ble_eq_true rfl) ⟨rfl, rfl⟩
  · replace hF := xg_f c3 hF
    refine xw_aload_n dM_look_13 rfl ?_
    refine xw_get dM_look_14 fM_227 rfl rfl ?_
    refine xw_aload_n dM_look_17 rfl ?_
    refine xw_get dM_look_18 fM_221 rfl rfl ?_
    refine xw_iload_n dM_look_21 rfl ?_
    refine xw_iadd dM_look_22 ?_
    obtain ⟨r4, er4, hF⟩ := xg_b hF
    refine xg_src er4 dM_look_23 ?_
    refine xw_sipush (255) dM_look_24 (by decide) ?_
    refine xw_iand dM_look_27 ?_
    refine xw_goto 32 dM_look_28 (by decide) ?_
    obtain rfl := Option.some.inj hF
    exact xw_ireturn dM_look_32 rfl rfl (Nat.le_of_ble_eq_true rfl) (Nat.le_of_ble_eq_true rfl) ⟨rfl, rfl⟩
/-- FormulaShaperModel.wordSign -/
def FM_wordSign (x0 : Int32) (s : xMs) : Option Bool := if (sM_letter x0) = 0 then (if (sM_digit x0) = 0 then (if x0 = 95 then (some true) else (some false)) else (some true)) else (some true)
set_option maxRecDepth 20000 in
theorem CM_wordSign {w : xw_G} {h : xw_H} {x0 : Int32} {s : xMs} {out : Bool} (hF : FM_wordSign x0 s = some out) : xw_C w (mM_wordSign { frames := 1, cells := 0, slots := 0, locals := 20 }) (xw_R (some (.int (xb out))) (mV s h)) [.ref 2000, .int x0] (mV s h) := by
  unfold FM_wordSign at hF
  refine xw_enter rfl (show plainName "FormulaShaperModel" = true by decide +kernel) (Nat.le_of_ble_eq_true rfl) ?_
  refine xw_iload_n dM_wordSign_0 rfl ?_
  refine xg_S1 (k1 := 0) (n1 := 0) (cM_letter w) rfl rfl rfl dM_wordSign_1 (kM_292 _) ⟨Nat.le_of_ble_eq_true rfl, Nat.le_of_ble_eq_true rfl⟩ rfl rfl (Nat.le_of_ble_eq_true rfl) (Nat.le_of_ble_eq_true rfl) (Nat.le_of_ble_eq_true rfl) (Nat.le_of_ble_eq_true rfl) (Nat.le_of_ble_eq_true rfl) ?_
  refine xw_if_ne 20 dM_wordSign_4 (by decide) (fun c5 => ?_) (fun c5 => ?_)
  · replace hF := xg_f c5 hF
    refine xw_iconst (1) dM_wordSign_20 (by decide) ?_
    refine xw_goto 25 dM_wordSign_21 (by decide) ?_
    obtain rfl := Option.some.inj hF
    exact xw_ireturn dM_wordSign_25 rfl (xb_nar true) (Nat.le_of_ble_eq_true rfl) (Nat.le_of_ble_eq_true rfl) ⟨rfl, rfl⟩
  · replace hF := xg_t c5 hF
    refine xw_iload_n dM_wordSign_7 rfl ?_
    refine xg_S1 (k1 := 0) (n1 := 0) (cM_digit w) rfl rfl rfl dM_wordSign_8 (kM_295 _) ⟨Nat.le_of_ble_eq_true rfl, Nat.le_of_ble_eq_true rfl⟩ rfl rfl (Nat.le_of_ble_eq_true rfl) (Nat.le_of_ble_eq_true rfl) (Nat.le_of_ble_eq_true rfl) (Nat.le_of_ble_eq_true rfl) (Nat.le_of_ble_eq_true rfl) ?_
    refine xw_if_ne 20 dM_wordSign_11 (by decide) (fun c6 => ?_) (fun c6 => ?_)
    · replace hF := xg_f c6 hF
      refine xw_iconst (1) dM_wordSign_20 (by decide) ?_
      refine xw_goto 25 dM_wordSign_21 (by decide) ?_
      obtain rfl := Option.some.inj hF
      exact xw_ireturn dM_wordSign_25 rfl (xb_nar true) (Nat.le_of_ble_eq_true rfl) (Nat.le_of_ble_eq_true rfl) ⟨rfl, rfl⟩
    · replace hF := xg_t c6 hF
      refine xw_iload_n dM_wordSign_14 rfl ?_
      refine xw_bipush (95) dM_wordSign_15 (by decide) ?_
      refine xw_icmp_ne 24 dM_wordSign_17 (by decide) (fun c7 => ?_) (fun c7 => ?_)
      · replace hF := xg_f c7 hF
        refine xw_iconst (0) dM_wordSign_24 (by decide) ?_
        obtain rfl := Option.some.inj hF
        exact xw_ireturn dM_wordSign_25 rfl (xb_nar false) (Nat.le_of_ble_eq_true rfl) (Nat.le_of_ble_eq_true rfl) ⟨rfl, rfl⟩
      · replace hF := xg_t c7 hF
        refine xw_iconst (1) dM_wordSign_20 (by decide) ?_
        refine xw_goto 25 dM_wordSign_21 (by decide) ?_
        obtain rfl := Option.some.inj hF
        exact xw_ireturn dM_wordSign_25 rfl (xb_nar true) (Nat.le_of_ble_eq_true rfl) (Nat.le_of_ble_eq_true rfl) ⟨rfl, rfl⟩
/-- FormulaShaperModel.bad -/
def FM_bad (x0 : Int32) (s : xMs) : Option (xo Unit xMs) := some (.inr ("java/lang/UnsupportedOperationException", ((s.1.1, s.1.2.1, s.1.2.2.1, x0, s.1.2.2.2.2), s.2.1, (s.2.2.1.1, s.2.2.1.2.1, s.2.2.1.2.2.1, s.2.2.1.2.2.2.1, s.2.2.1.2.2.2.2.1, s.2.2.1.2.2.2.2.2.1, (s.2.2.1.2.2.2.2.2.2.1 + 1), (s.2.2.1.2.2.2.2.2.2.2 + 6)), s.2.2.2)))
set_option maxRecDepth 20000 in
theorem CM_bad {w : xw_G} {h : xw_H} (hb : xMb h) {x0 : Int32} {s : xMs} {out : (xo Unit xMs)} (hF : FM_bad x0 s = some out) : (s.2.2.1.2.2.2.2.2.2.1 ≤ (xo_s out).2.2.1.2.2.2.2.2.2.1 ∧ s.2.2.1.2.2.2.2.2.2.2 ≤ (xo_s out).2.2.1.2.2.2.2.2.2.2) ∧ xw_C w (mM_bad { frames := 6, cells := (xo_s out).2.2.1.2.2.2.2.2.2.1 - s.2.2.1.2.2.2.2.2.2.1, slots := (xo_s out).2.2.1.2.2.2.2.2.2.2 - s.2.2.1.2.2.2.2.2.2.2, locals := 100 }) (xo_P (fun x => none) (fun s => mV s h) out) [.ref 2000, .int x0] (mV s h) := by
  unfold FM_bad at hF
  refine xy_enter (L := [some (.ref 2000), some (.int x0)]) (fun _ => rfl) (fun _ => rfl) (fun _ => (show plainName "FormulaShaperModel" = true by decide +kernel)) (fun _ => (Nat.le_of_ble_eq_true rfl)) (fun _ => rfl) ?_
  have hm : s.2.2.1.2.2.2.2.2.2.1 ≤ s.2.2.1.2.2.2.2.2.2.1 ∧ s.2.2.1.2.2.2.2.2.2.2 ≤ s.2.2.1.2.2.2.2.2.2.2 := ⟨Nat.le_refl _, Nat.le_refl _⟩
  refine xy_r (xw_aload_n dM_bad_0 rfl) ?_
  refine xy_r (xw_iload_n dM_bad_1 rfl) ?_
  refine xy_r (xg_put dM_bad_2 fM_16 rfl (by decide) (Nat.le_of_ble_eq_true rfl) (fun _ => rfl) (fun _ => rfl) (mV_o (s' := ((s.1.1, s.1.2.1, s.1.2.2.1, x0, s.1.2.2.2.2), s.2)) rfl)) ?_
  obtain rfl := Option.some.inj hF
  exact xy_throw (fun _ => rfl) (fun _ => rfl) (fun _ => tM_218) (fun _ => dM_bad_5) (fun _ => dM_bad_8) (fun _ => dM_bad_9) (fun _ => dM_bad_12) (Nat.le_of_ble_eq_true rfl) (Nat.le_of_ble_eq_true rfl) hm ⟨rfl, rfl⟩
def FM_blanks_0 : Nat → xMs → Option xMs
  | 0, _ => none
  | fu + 1, s => (FM_peek s).bind fun r8 => if r8 = 32 then (FM_blanks_0 fu  (s.1, (s.2.1.1, (s.2.1.2.1 + 1), s.2.1.2.2), s.2.2)) else (some s)
/-- FormulaShaperModel.blanks -/
def FM_blanks  (s : xMs) : Option xMs := FM_blanks_0 xFuel  s
set_option maxRecDepth 20000 in
theorem CM_blanks_0 {w : xw_G} {h : xw_H} (hb : xMb h)  : ∀ (fu : Nat) {s : xMs} {out : xMs} {h0 : xw_H} {m0 n0 : Nat} (hm : m0 ≤ s.2.2.1.2.2.2.2.2.2.1 ∧ n0 ≤ s.2.2.1.2.2.2.2.2.2.2), FM_blanks_0 fu  s = some out → xw_Y w mM_blanks 1 20 (xw_R none (mV out h)) h0 m0 n0 s.2.2.1.2.2.2.2.2.2.1 s.2.2.1.2.2.2.2.2.2.2 out.2.2.1.2.2.2.2.2.2.1 out.2.2.1.2.2.2.2.2.2.2 0 [some (.ref 2000)] [] (mV s h) := by
  intro fu
  induction fu with
  | zero =>
    intro  s out h0 m0 n0 hm hF
    rw [FM_blanks_0] at hF
    cases hF
  | succ fu ih =>
    intro  s out h0 m0 n0 hm hF
    rw [FM_blanks_0] at hF
    refine xy_r (xw_aload_n dM_blanks_0 rfl) ?_
    obtain ⟨r8, er8, hF⟩ := xg_b hF
    refine xy_q (fun hq => xg_V1 (k1 := _) (n1 := _) (CM_peek er8) rfl rfl rfl dM_blanks_1 (kM_230 _) ⟨Nat.le_of_ble_eq_true rfl, Nat.le_of_ble_eq_true rfl⟩ rfl rfl rfl rfl (Nat.le_of_ble_eq_true rfl) (Nat.le_refl _) (Nat.le_refl _) (Nat.sub_le_sub_right hq.1 _) (Nat.sub_le_sub_right hq.2 _)) ?_
    refine xy_r (xw_bipush (32) dM_blanks_4 (by decide)) ?_
    refine xy_brn (xw_icmp_ne 22 dM_blanks_6 (by decide)) (fun c9 => ?_) (fun c9 => ?_)
    · replace hF := xg_f c9 hF
      obtain rfl := Option.some.inj hF
      exact xy_end (xw_return dM_blanks_22 rfl (Nat.le_refl _) (Nat.le_refl _) ⟨rfl, rfl⟩)
    · replace hF := xg_t c9 hF
      refine xy_r (xw_aload_n dM_blanks_9 rfl) ?_
      refine xy_r (xw_dup_r dM_blanks_10) ?_
      refine xy_r (xw_get dM_blanks_11 fM_221 rfl rfl) ?_
      refine xy_r (xw_iconst (1) dM_blanks_14 (by decide)) ?_
      refine xy_r (xw_iadd dM_blanks_15) ?_
      refine xy_r (xg_put dM_blanks_16 fM_221 rfl (by decide) (Nat.le_of_ble_eq_true rfl) (fun _ => rfl) (fun _ => rfl) (mV_o (s' := (s.1, (s.2.1.1, (s.2.1.2.1 + 1), s.2.1.2.2), s.2.2)) rfl)) ?_
      refine xy_r (xw_goto 0 dM_blanks_19 (by decide)) ?_
      exact ih hm hF
set_option maxRecDepth 20000 in
theorem CM_blanks {w : xw_G} {h : xw_H} (hb : xMb h)  {s : xMs} {out : xMs} (hF : FM_blanks  s = some out) : (s.2.2.1.2.2.2.2.2.2.1 ≤ out.2.2.1.2.2.2.2.2.2.1 ∧ s.2.2.1.2.2.2.2.2.2.2 ≤ out.2.2.1.2.2.2.2.2.2.2) ∧ xw_C w (mM_blanks { frames := 1, cells := out.2.2.1.2.2.2.2.2.2.1 - s.2.2.1.2.2.2.2.2.2.1, slots := out.2.2.1.2.2.2.2.2.2.2 - s.2.2.1.2.2.2.2.2.2.2, locals := 20 }) (xw_R none (mV out h)) [.ref 2000] (mV s h) := by
  unfold FM_blanks at hF
  refine xy_enter (L := [some (.ref 2000)]) (fun _ => rfl) (fun _ => rfl) (fun _ => (show plainName "FormulaShaperModel" = true by decide +kernel)) (fun _ => (Nat.le_of_ble_eq_true rfl)) (fun _ => rfl) ?_
  have hm : s.2.2.1.2.2.2.2.2.2.1 ≤ s.2.2.1.2.2.2.2.2.2.1 ∧ s.2.2.1.2.2.2.2.2.2.2 ≤ s.2.2.1.2.2.2.2.2.2.2 := ⟨Nat.le_refl _, Nat.le_refl _⟩
  exact CM_blanks_0 hb xFuel hm hF
/-- FormulaShaperModel.next -/
def FM_next (x0 : Int32) (s : xMs) : Option (Bool × xMs) := (FM_blanks s).bind fun r10 => (FM_peek r10).bind fun r13 => if r13 = x0 then (some (true, r10)) else (some (false, r10))
set_option maxRecDepth 20000 in
theorem CM_next {w : xw_G} {h : xw_H} (hb : xMb h) {x0 : Int32} {s : xMs} {out : (Bool × xMs)} (hF : FM_next x0 s = some out) : (s.2.2.1.2.2.2.2.2.2.1 ≤ out.2.2.2.1.2.2.2.2.2.2.1 ∧ s.2.2.1.2.2.2.2.2.2.2 ≤ out.2.2.2.1.2.2.2.2.2.2.2) ∧ xw_C w (mM_next { frames := 2, cells := out.2.2.2.1.2.2.2.2.2.2.1 - s.2.2.1.2.2.2.2.2.2.1, slots := out.2.2.2.1.2.2.2.2.2.2.2 - s.2.2.1.2.2.2.2.2.2.2, locals := 40 }) (xw_R (some (.int (xb out.1))) (mV out.2 h)) [.ref 2000, .int x0] (mV s h) := by
  unfold FM_next at hF
  refine xy_enter (L := [some (.ref 2000), some (.int x0)]) (fun _ => rfl) (fun _ => rfl) (fun _ => (show plainName "FormulaShaperModel" = true by decide +kernel)) (fun _ => (Nat.le_of_ble_eq_true rfl)) (fun _ => rfl) ?_
  have hm : s.2.2.1.2.2.2.2.2.2.1 ≤ s.2.2.1.2.2.2.2.2.2.1 ∧ s.2.2.1.2.2.2.2.2.2.2 ≤ s.2.2.1.2.2.2.2.2.2.2 := ⟨Nat.le_refl _, Nat.le_refl _⟩
  refine xy_r (xw_aload_n dM_next_0 rfl) ?_
  obtain ⟨r10, er10, hF⟩ := xg_b hF
  have hm11 : s.2.2.1.2.2.2.2.2.2.1 ≤ r10.2.2.1.2.2.2.2.2.2.1 ∧ s.2.2.1.2.2.2.2.2.2.2 ≤ r10.2.2.1.2.2.2.2.2.2.2 := xy_le hm (show s.2.2.1.2.2.2.2.2.2.1 ≤ r10.2.2.1.2.2.2.2.2.2.1 ∧ s.2.2.1.2.2.2.2.2.2.2 ≤ r10.2.2.1.2.2.2.2.2.2.2 from (CM_blanks (w := w) (h := h) hb er10).1)
  refine xy_V0 (sm := s.2.2.1.2.2.2.2.2.2.1) (sn := s.2.2.1.2.2.2.2.2.2.2) (tm := r10.2.2.1.2.2.2.2.2.2.1) (tn := r10.2.2.1.2.2.2.2.2.2.2) (CM_blanks hb er10) rfl rfl hm (fun _ => rfl) (fun _ => rfl) (fun _ => rfl) (fun _ => dM_next_1) (fun _ R => kM_233 R) (fun _ => rfl) ⟨(Nat.le_of_ble_eq_true rfl), (Nat.le_of_ble_eq_true rfl)⟩ rfl rfl rfl (fun _ => rfl) (Nat.le_of_ble_eq_true rfl) ?_
  refine xy_r (xw_aload_n dM_next_4 rfl) ?_
  obtain ⟨r13, er13, hF⟩ := xg_b hF
  refine xy_q (fun hq => xg_V1 (k1 := _) (n1 := _) (CM_peek er13) rfl rfl rfl dM_next_5 (kM_230 _) ⟨Nat.le_of_ble_eq_true rfl, Nat.le_of_ble_eq_true rfl⟩ rfl rfl rfl rfl (Nat.le_of_ble_eq_true rfl) (Nat.le_refl _) (Nat.le_refl _) (Nat.sub_le_sub_right hq.1 _) (Nat.sub_le_sub_right hq.2 _)) ?_
  refine xy_r (xw_iload_n dM_next_8 rfl) ?_
  refine xy_brn (xw_icmp_ne 16 dM_next_9 (by decide)) (fun c14 => ?_) (fun c14 => ?_)
  · replace hF := xg_f c14 hF
    refine xy_r (xw_iconst (0) dM_next_16 (by decide)) ?_
    obtain rfl := Option.some.inj hF
    exact xy_end (xw_ireturn dM_next_17 rfl (xb_nar false) (Nat.le_refl _) (Nat.le_refl _) ⟨rfl, rfl⟩)
  · replace hF := xg_t c14 hF
    refine xy_r (xw_iconst (1) dM_next_12 (by decide)) ?_
    refine xy_r (xw_goto 17 dM_next_13 (by decide)) ?_
    obtain rfl := Option.some.inj hF
    exact xy_end (xw_ireturn dM_next_17 rfl (xb_nar true) (Nat.le_refl _) (Nat.le_refl _) ⟨rfl, rfl⟩)
/-- FormulaShaperModel.expect -/
def FM_expect (x0 : Int32) (s : xMs) : Option (xo Unit xMs) := (FM_next x0 s).bind fun r15 => if r15.1 = true then (some (.inl ((), (r15.2.1, (r15.2.2.1.1, (r15.2.2.1.2.1 + 1), r15.2.2.1.2.2), r15.2.2.2)))) else (xo_b (FM_bad r15.2.2.1.2.1 r15.2) fun r19 => some (.inl ((), (r19.2.1, (r19.2.2.1.1, (r19.2.2.1.2.1 + 1), r19.2.2.1.2.2), r19.2.2.2))))
set_option maxRecDepth 20000 in
theorem CM_expect {w : xw_G} {h : xw_H} (hb : xMb h) {x0 : Int32} {s : xMs} {out : (xo Unit xMs)} (hF : FM_expect x0 s = some out) : (s.2.2.1.2.2.2.2.2.2.1 ≤ (xo_s out).2.2.1.2.2.2.2.2.2.1 ∧ s.2.2.1.2.2.2.2.2.2.2 ≤ (xo_s out).2.2.1.2.2.2.2.2.2.2) ∧ xw_C w (mM_expect { frames := 7, cells := (xo_s out).2.2.1.2.2.2.2.2.2.1 - s.2.2.1.2.2.2.2.2.2.1, slots := (xo_s out).2.2.1.2.2.2.2.2.2.2 - s.2.2.1.2.2.2.2.2.2.2, locals := 121 }) (xo_P (fun x => none) (fun s => mV s h) out) [.ref 2000, .int x0] (mV s h) := by
  unfold FM_expect at hF
  refine xy_enter (L := [some (.ref 2000), some (.int x0)]) (fun _ => rfl) (fun _ => rfl) (fun _ => (show plainName "FormulaShaperModel" = true by decide +kernel)) (fun _ => (Nat.le_of_ble_eq_true rfl)) (fun _ => rfl) ?_
  have hm : s.2.2.1.2.2.2.2.2.2.1 ≤ s.2.2.1.2.2.2.2.2.2.1 ∧ s.2.2.1.2.2.2.2.2.2.2 ≤ s.2.2.1.2.2.2.2.2.2.2 := ⟨Nat.le_refl _, Nat.le_refl _⟩
  refine xy_r (xw_aload_n dM_expect_0 rfl) ?_
  refine xy_r (xw_iload_n dM_expect_1 rfl) ?_
  obtain ⟨r15, er15, hF⟩ := xg_b hF
  have hm16 : s.2.2.1.2.2.2.2.2.2.1 ≤ r15.2.2.2.1.2.2.2.2.2.2.1 ∧ s.2.2.1.2.2.2.2.2.2.2 ≤ r15.2.2.2.1.2.2.2.2.2.2.2 := xy_le hm (show s.2.2.1.2.2.2.2.2.2.1 ≤ r15.2.2.2.1.2.2.2.2.2.2.1 ∧ s.2.2.1.2.2.2.2.2.2.2 ≤ r15.2.2.2.1.2.2.2.2.2.2.2 from (CM_next (w := w) (h := h) hb er15).1)
  refine xy_V1 (sm := s.2.2.1.2.2.2.2.2.2.1) (sn := s.2.2.1.2.2.2.2.2.2.2) (tm := r15.2.2.2.1.2.2.2.2.2.2.1) (tn := r15.2.2.2.1.2.2.2.2.2.2.2) (CM_next hb er15) rfl rfl hm (fun _ => rfl) (fun _ => rfl) (fun _ => rfl) (fun _ => dM_expect_2) (fun _ R => kM_236 R) (fun _ => rfl) ⟨(Nat.le_of_ble_eq_true rfl), (Nat.le_of_ble_eq_true rfl)⟩ rfl rfl rfl (fun _ => rfl) (Nat.le_of_ble_eq_true rfl) ?_
  refine xy_br (xw_if_neB 16 dM_expect_5 (by decide)) (fun c18 => ?_) (fun c18 => ?_)
  · replace hF := xg_t c18 hF
    refine xy_r (xw_aload_n dM_expect_16 rfl) ?_
    refine xy_r (xw_dup_r dM_expect_17) ?_
    refine xy_r (xw_get dM_expect_18 fM_221 rfl rfl) ?_
    refine xy_r (xw_iconst (1) dM_expect_21 (by decide)) ?_
    refine xy_r (xw_iadd dM_expect_22) ?_
    refine xy_r (xg_put dM_expect_23 fM_221 rfl (by decide) (Nat.le_of_ble_eq_true rfl) (fun _ => rfl) (fun _ => rfl) (mV_o (s' := (r15.2.1, (r15.2.2.1.1, (r15.2.2.1.2.1 + 1), r15.2.2.1.2.2), r15.2.2.2)) rfl)) ?_
    obtain rfl := Option.some.inj hF
    exact xy_end (xw_return dM_expect_26 rfl (Nat.le_refl _) (Nat.le_refl _) ⟨rfl, rfl⟩)
  · replace hF := xg_f c18 hF
    refine xy_r (xw_aload_n dM_expect_8 rfl) ?_
    refine xy_r (xw_aload_n dM_expect_9 rfl) ?_
    refine xy_r (xw_get dM_expect_10 fM_221 rfl rfl) ?_
    rcases xg_o hF with ⟨r19, er19, hF⟩ | ⟨r19, er19, hF⟩
    · have hm20 : s.2.2.1.2.2.2.2.2.2.1 ≤ r19.2.2.2.1.2.2.2.2.2.2.1 ∧ s.2.2.1.2.2.2.2.2.2.2 ≤ r19.2.2.2.1.2.2.2.2.2.2.2 := xy_le hm16 (show r15.2.2.2.1.2.2.2.2.2.2.1 ≤ r19.2.2.2.1.2.2.2.2.2.2.1 ∧ r15.2.2.2.1.2.2.2.2.2.2.2 ≤ r19.2.2.2.1.2.2.2.2.2.2.2 from (CM_bad (w := w) (h := h) hb er19).1)
      refine xy_V0 (sm := r15.2.2.2.1.2.2.2.2.2.2.1) (sn := r15.2.2.2.1.2.2.2.2.2.2.2) (tm := r19.2.2.2.1.2.2.2.2.2.2.1) (tn := r19.2.2.2.1.2.2.2.2.2.2.2) (CM_bad hb er19) rfl rfl hm16 (fun _ => rfl) (fun _ => rfl) (fun _ => rfl) (fun _ => dM_expect_13) (fun _ R => kM_239 R) (fun _ => rfl) ⟨(Nat.le_of_ble_eq_true rfl), (Nat.le_of_ble_eq_true rfl)⟩ rfl rfl rfl (fun _ => rfl) (Nat.le_of_ble_eq_true rfl) ?_
      refine xy_r (xw_aload_n dM_expect_16 rfl) ?_
      refine xy_r (xw_dup_r dM_expect_17) ?_
      refine xy_r (xw_get dM_expect_18 fM_221 rfl rfl) ?_
      refine xy_r (xw_iconst (1) dM_expect_21 (by decide)) ?_
      refine xy_r (xw_iadd dM_expect_22) ?_
      refine xy_r (xg_put dM_expect_23 fM_221 rfl (by decide) (Nat.le_of_ble_eq_true rfl) (fun _ => rfl) (fun _ => rfl) (mV_o (s' := (r19.2.1, (r19.2.2.1.1, (r19.2.2.1.2.1 + 1), r19.2.2.1.2.2), r19.2.2.2)) rfl)) ?_
      obtain rfl := Option.some.inj hF
      exact xy_end (xw_return dM_expect_26 rfl (Nat.le_refl _) (Nat.le_refl _) ⟨rfl, rfl⟩)
    · subst hF
      exact xy_Vt (sm := r15.2.2.2.1.2.2.2.2.2.2.1) (sn := r15.2.2.2.1.2.2.2.2.2.2.2) (tm := r19.2.2.2.1.2.2.2.2.2.2.1) (tn := r19.2.2.2.1.2.2.2.2.2.2.2) (CM_bad hb er19) rfl rfl hm16 (fun _ => rfl) (fun _ => rfl) (fun _ => rfl) (fun _ => dM_expect_13) (fun _ R => kM_239 R) (fun _ => rfl) ⟨(Nat.le_of_ble_eq_true rfl), (Nat.le_of_ble_eq_true rfl)⟩ rfl rfl rfl (fun _ => rfl) (Nat.le_of_ble_eq_true rfl) ⟨rfl, rfl⟩
/-- FormulaShaperModel.open -/
def FM_open  (s : xMs) : Option (xo Unit xMs) := if s.2.1.2.2.2.1 = 12 then (xo_b (FM_bad s.2.1.2.1 s) fun r23 => some (.inl ((), (r23.2.1, (r23.2.2.1.1, (r23.2.2.1.2.1 + 1), r23.2.2.1.2.2.1, (r23.2.2.1.2.2.2.1 + 1), r23.2.2.1.2.2.2.2), r23.2.2.2)))) else (some (.inl ((), (s.1, (s.2.1.1, (s.2.1.2.1 + 1), s.2.1.2.2.1, (s.2.1.2.2.2.1 + 1), s.2.1.2.2.2.2), s.2.2))))
set_option maxRecDepth 20000 in
theorem CM_open {w : xw_G} {h : xw_H} (hb : xMb h)  {s : xMs} {out : (xo Unit xMs)} (hF : FM_open  s = some out) : (s.2.2.1.2.2.2.2.2.2.1 ≤ (xo_s out).2.2.1.2.2.2.2.2.2.1 ∧ s.2.2.1.2.2.2.2.2.2.2 ≤ (xo_s out).2.2.1.2.2.2.2.2.2.2) ∧ xw_C w (mM_open { frames := 7, cells := (xo_s out).2.2.1.2.2.2.2.2.2.1 - s.2.2.1.2.2.2.2.2.2.1, slots := (xo_s out).2.2.1.2.2.2.2.2.2.2 - s.2.2.1.2.2.2.2.2.2.2, locals := 121 }) (xo_P (fun x => none) (fun s => mV s h) out) [.ref 2000] (mV s h) := by
  unfold FM_open at hF
  refine xy_enter (L := [some (.ref 2000)]) (fun _ => rfl) (fun _ => rfl) (fun _ => (show plainName "FormulaShaperModel" = true by decide +kernel)) (fun _ => (Nat.le_of_ble_eq_true rfl)) (fun _ => rfl) ?_
  have hm : s.2.2.1.2.2.2.2.2.2.1 ≤ s.2.2.1.2.2.2.2.2.2.1 ∧ s.2.2.1.2.2.2.2.2.2.2 ≤ s.2.2.1.2.2.2.2.2.2.2 := ⟨Nat.le_refl _, Nat.le_refl _⟩
  refine xy_r (xw_aload_n dM_open_0 rfl) ?_
  refine xy_r (xw_get dM_open_1 fM_243 rfl rfl) ?_
  refine xy_r (xw_bipush (12) dM_open_4 (by decide)) ?_
  refine xy_brn (xw_icmp_ne 17 dM_open_6 (by decide)) (fun c22 => ?_) (fun c22 => ?_)
  · replace hF := xg_f c22 hF
    refine xy_r (xw_aload_n dM_open_17 rfl) ?_
    refine xy_r (xw_dup_r dM_open_18) ?_
    refine xy_r (xw_get dM_open_19 fM_243 rfl rfl) ?_
    refine xy_r (xw_iconst (1) dM_open_22 (by decide)) ?_
    refine xy_r (xw_iadd dM_open_23) ?_
    refine xy_r (xg_put dM_open_24 fM_243 rfl (by decide) (Nat.le_of_ble_eq_true rfl) (fun _ => rfl) (fun _ => rfl) (mV_o (s' := (s.1, (s.2.1.1, s.2.1.2.1, s.2.1.2.2.1, (s.2.1.2.2.2.1 + 1), s.2.1.2.2.2.2), s.2.2)) rfl)) ?_
    refine xy_r (xw_aload_n dM_open_27 rfl) ?_
    refine xy_r (xw_dup_r dM_open_28) ?_
    refine xy_r (xw_get dM_open_29 fM_221 rfl rfl) ?_
    refine xy_r (xw_iconst (1) dM_open_32 (by decide)) ?_
    refine xy_r (xw_iadd dM_open_33) ?_
    refine xy_r (xg_put dM_open_34 fM_221 rfl (by decide) (Nat.le_of_ble_eq_true rfl) (fun _ => rfl) (fun _ => rfl) (mV_o (s' := (s.1, (s.2.1.1, (s.2.1.2.1 + 1), s.2.1.2.2.1, (s.2.1.2.2.2.1 + 1), s.2.1.2.2.2.2), s.2.2)) rfl)) ?_
    obtain rfl := Option.some.inj hF
    exact xy_end (xw_return dM_open_37 rfl (Nat.le_refl _) (Nat.le_refl _) ⟨rfl, rfl⟩)
  · replace hF := xg_t c22 hF
    refine xy_r (xw_aload_n dM_open_9 rfl) ?_
    refine xy_r (xw_aload_n dM_open_10 rfl) ?_
    refine xy_r (xw_get dM_open_11 fM_221 rfl rfl) ?_
    rcases xg_o hF with ⟨r23, er23, hF⟩ | ⟨r23, er23, hF⟩
    · have hm24 : s.2.2.1.2.2.2.2.2.2.1 ≤ r23.2.2.2.1.2.2.2.2.2.2.1 ∧ s.2.2.1.2.2.2.2.2.2.2 ≤ r23.2.2.2.1.2.2.2.2.2.2.2 := xy_le hm (show s.2.2.1.2.2.2.2.2.2.1 ≤ r23.2.2.2.1.2.2.2.2.2.2.1 ∧ s.2.2.1.2.2.2.2.2.2.2 ≤ r23.2.2.2.1.2.2.2.2.2.2.2 from (CM_bad (w := w) (h := h) hb er23).1)
      refine xy_V0 (sm := s.2.2.1.2.2.2.2.2.2.1) (sn := s.2.2.1.2.2.2.2.2.2.2) (tm := r23.2.2.2.1.2.2.2.2.2.2.1) (tn := r23.2.2.2.1.2.2.2.2.2.2.2) (CM_bad hb er23) rfl rfl hm (fun _ => rfl) (fun _ => rfl) (fun _ => rfl) (fun _ => dM_open_14) (fun _ R => kM_239 R) (fun _ => rfl) ⟨(Nat.le_of_ble_eq_true rfl), (Nat.le_of_ble_eq_true rfl)⟩ rfl rfl rfl (fun _ => rfl) (Nat.le_of_ble_eq_true rfl) ?_
      refine xy_r (xw_aload_n dM_open_17 rfl) ?_
      refine xy_r (xw_dup_r dM_open_18) ?_
      refine xy_r (xw_get dM_open_19 fM_243 rfl rfl) ?_
      refine xy_r (xw_iconst (1) dM_open_22 (by decide)) ?_
      refine xy_r (xw_iadd dM_open_23) ?_
      refine xy_r (xg_put dM_open_24 fM_243 rfl (by decide) (Nat.le_of_ble_eq_true rfl) (fun _ => rfl) (fun _ => rfl) (mV_o (s' := (r23.2.1, (r23.2.2.1.1, r23.2.2.1.2.1, r23.2.2.1.2.2.1, (r23.2.2.1.2.2.2.1 + 1), r23.2.2.1.2.2.2.2), r23.2.2.2)) rfl)) ?_
      refine xy_r (xw_aload_n dM_open_27 rfl) ?_
      refine xy_r (xw_dup_r dM_open_28) ?_
      refine xy_r (xw_get dM_open_29 fM_221 rfl rfl) ?_
      refine xy_r (xw_iconst (1) dM_open_32 (by decide)) ?_
      refine xy_r (xw_iadd dM_open_33) ?_
      refine xy_r (xg_put dM_open_34 fM_221 rfl (by decide) (Nat.le_of_ble_eq_true rfl) (fun _ => rfl) (fun _ => rfl) (mV_o (s' := (r23.2.1, (r23.2.2.1.1, (r23.2.2.1.2.1 + 1), r23.2.2.1.2.2.1, (r23.2.2.1.2.2.2.1 + 1), r23.2.2.1.2.2.2.2), r23.2.2.2)) rfl)) ?_
      obtain rfl := Option.some.inj hF
      exact xy_end (xw_return dM_open_37 rfl (Nat.le_refl _) (Nat.le_refl _) ⟨rfl, rfl⟩)
    · subst hF
      exact xy_Vt (sm := s.2.2.1.2.2.2.2.2.2.1) (sn := s.2.2.1.2.2.2.2.2.2.2) (tm := r23.2.2.2.1.2.2.2.2.2.2.1) (tn := r23.2.2.2.1.2.2.2.2.2.2.2) (CM_bad hb er23) rfl rfl hm (fun _ => rfl) (fun _ => rfl) (fun _ => rfl) (fun _ => dM_open_14) (fun _ R => kM_239 R) (fun _ => rfl) ⟨(Nat.le_of_ble_eq_true rfl), (Nat.le_of_ble_eq_true rfl)⟩ rfl rfl rfl (fun _ => rfl) (Nat.le_of_ble_eq_true rfl) ⟨rfl, rfl⟩
/-- FormulaShaperModel.close -/
def FM_close (x0 : Int32) (s : xMs) : Option (xo Unit xMs) := xo_b (FM_expect x0 s) fun r26 => some (.inl ((), (r26.2.1, (r26.2.2.1.1, r26.2.2.1.2.1, r26.2.2.1.2.2.1, (r26.2.2.1.2.2.2.1 - 1), r26.2.2.1.2.2.2.2), r26.2.2.2)))
set_option maxRecDepth 20000 in
theorem CM_close {w : xw_G} {h : xw_H} (hb : xMb h) {x0 : Int32} {s : xMs} {out : (xo Unit xMs)} (hF : FM_close x0 s = some out) : (s.2.2.1.2.2.2.2.2.2.1 ≤ (xo_s out).2.2.1.2.2.2.2.2.2.1 ∧ s.2.2.1.2.2.2.2.2.2.2 ≤ (xo_s out).2.2.1.2.2.2.2.2.2.2) ∧ xw_C w (mM_close { frames := 8, cells := (xo_s out).2.2.1.2.2.2.2.2.2.1 - s.2.2.1.2.2.2.2.2.2.1, slots := (xo_s out).2.2.1.2.2.2.2.2.2.2 - s.2.2.1.2.2.2.2.2.2.2, locals := 142 }) (xo_P (fun x => none) (fun s => mV s h) out) [.ref 2000, .int x0] (mV s h) := by
  unfold FM_close at hF
  refine xy_enter (L := [some (.ref 2000), some (.int x0)]) (fun _ => rfl) (fun _ => rfl) (fun _ => (show plainName "FormulaShaperModel" = true by decide +kernel)) (fun _ => (Nat.le_of_ble_eq_true rfl)) (fun _ => rfl) ?_
  have hm : s.2.2.1.2.2.2.2.2.2.1 ≤ s.2.2.1.2.2.2.2.2.2.1 ∧ s.2.2.1.2.2.2.2.2.2.2 ≤ s.2.2.1.2.2.2.2.2.2.2 := ⟨Nat.le_refl _, Nat.le_refl _⟩
  refine xy_r (xw_aload_n dM_close_0 rfl) ?_
  refine xy_r (xw_iload_n dM_close_1 rfl) ?_
  rcases xg_o hF with ⟨r26, er26, hF⟩ | ⟨r26, er26, hF⟩
  · have hm27 : s.2.2.1.2.2.2.2.2.2.1 ≤ r26.2.2.2.1.2.2.2.2.2.2.1 ∧ s.2.2.1.2.2.2.2.2.2.2 ≤ r26.2.2.2.1.2.2.2.2.2.2.2 := xy_le hm (show s.2.2.1.2.2.2.2.2.2.1 ≤ r26.2.2.2.1.2.2.2.2.2.2.1 ∧ s.2.2.1.2.2.2.2.2.2.2 ≤ r26.2.2.2.1.2.2.2.2.2.2.2 from (CM_expect (w := w) (h := h) hb er26).1)
    refine xy_V0 (sm := s.2.2.1.2.2.2.2.2.2.1) (sn := s.2.2.1.2.2.2.2.2.2.2) (tm := r26.2.2.2.1.2.2.2.2.2.2.1) (tn := r26.2.2.2.1.2.2.2.2.2.2.2) (CM_expect hb er26) rfl rfl hm (fun _ => rfl) (fun _ => rfl) (fun _ => rfl) (fun _ => dM_close_2) (fun _ R => kM_246 R) (fun _ => rfl) ⟨(Nat.le_of_ble_eq_true rfl), (Nat.le_of_ble_eq_true rfl)⟩ rfl rfl rfl (fun _ => rfl) (Nat.le_of_ble_eq_true rfl) ?_
    refine xy_r (xw_aload_n dM_close_5 rfl) ?_
    refine xy_r (xw_dup_r dM_close_6) ?_
    refine xy_r (xw_get dM_close_7 fM_243 rfl rfl) ?_
    refine xy_r (xw_iconst (1) dM_close_10 (by decide)) ?_
    refine xy_r (xw_isub dM_close_11) ?_
    refine xy_r (xg_put dM_close_12 fM_243 rfl (by decide) (Nat.le_of_ble_eq_true rfl) (fun _ => rfl) (fun _ => rfl) (mV_o (s' := (r26.2.1, (r26.2.2.1.1, r26.2.2.1.2.1, r26.2.2.1.2.2.1, (r26.2.2.1.2.2.2.1 - 1), r26.2.2.1.2.2.2.2), r26.2.2.2)) rfl)) ?_
    obtain rfl := Option.some.inj hF
    exact xy_end (xw_return dM_close_15 rfl (Nat.le_refl _) (Nat.le_refl _) ⟨rfl, rfl⟩)
  · subst hF
    exact xy_Vt (sm := s.2.2.1.2.2.2.2.2.2.1) (sn := s.2.2.1.2.2.2.2.2.2.2) (tm := r26.2.2.2.1.2.2.2.2.2.2.1) (tn := r26.2.2.2.1.2.2.2.2.2.2.2) (CM_expect hb er26) rfl rfl hm (fun _ => rfl) (fun _ => rfl) (fun _ => rfl) (fun _ => dM_close_2) (fun _ R => kM_246 R) (fun _ => rfl) ⟨(Nat.le_of_ble_eq_true rfl), (Nat.le_of_ble_eq_true rfl)⟩ rfl rfl rfl (fun _ => rfl) (Nat.le_of_ble_eq_true rfl) ⟨rfl, rfl⟩
/-- FormulaShaperModel$Node.add -/
def FN_add (x9 : Nat) (x0 : Nat) (s : xMs) : Option xMs := if x9 < s.2.2.1.2.2.2.2.1 then (if (s.2.2.1.2.2.2.2.2.1 x9).2.2.2.2.2 = 0 then (some (s.1, s.2.1, (s.2.2.1.1, s.2.2.1.2.1, s.2.2.1.2.2.1, s.2.2.1.2.2.2.1, s.2.2.1.2.2.2.2.1, (va_up (va_up (va_up s.2.2.1.2.2.2.2.2.1 x9 (nFirst (s.2.2.1.2.2.2.2.2.1 x9) (some x0))) x9 (nLast ((va_up s.2.2.1.2.2.2.2.2.1 x9 (nFirst (s.2.2.1.2.2.2.2.2.1 x9) (some x0))) x9) (some x0))) x9 (nCount ((va_up (va_up s.2.2.1.2.2.2.2.2.1 x9 (nFirst (s.2.2.1.2.2.2.2.2.1 x9) (some x0))) x9 (nLast ((va_up s.2.2.1.2.2.2.2.2.1 x9 (nFirst (s.2.2.1.2.2.2.2.2.1 x9) (some x0))) x9) (some x0))) x9) (((va_up (va_up s.2.2.1.2.2.2.2.2.1 x9 (nFirst (s.2.2.1.2.2.2.2.2.1 x9) (some x0))) x9 (nLast ((va_up s.2.2.1.2.2.2.2.2.1 x9 (nFirst (s.2.2.1.2.2.2.2.2.1 x9) (some x0))) x9) (some x0))) x9).2.2.2.2.2 + 1))), s.2.2.1.2.2.2.2.2.2), s.2.2.2)) else (((s.2.2.1.2.2.2.2.2.1 x9).2.2.2.1).bind fun i31 => if i31 < s.2.2.1.2.2.2.2.1 then (some (s.1, s.2.1, (s.2.2.1.1, s.2.2.1.2.1, s.2.2.1.2.2.1, s.2.2.1.2.2.2.1, s.2.2.1.2.2.2.2.1, (va_up (va_up (va_up s.2.2.1.2.2.2.2.2.1 i31 (nNext (s.2.2.1.2.2.2.2.2.1 i31) (some x0))) x9 (nLast ((va_up s.2.2.1.2.2.2.2.2.1 i31 (nNext (s.2.2.1.2.2.2.2.2.1 i31) (some x0))) x9) (some x0))) x9 (nCount ((va_up (va_up s.2.2.1.2.2.2.2.2.1 i31 (nNext (s.2.2.1.2.2.2.2.2.1 i31) (some x0))) x9 (nLast ((va_up s.2.2.1.2.2.2.2.2.1 i31 (nNext (s.2.2.1.2.2.2.2.2.1 i31) (some x0))) x9) (some x0))) x9) (((va_up (va_up s.2.2.1.2.2.2.2.2.1 i31 (nNext (s.2.2.1.2.2.2.2.2.1 i31) (some x0))) x9 (nLast ((va_up s.2.2.1.2.2.2.2.2.1 i31 (nNext (s.2.2.1.2.2.2.2.2.1 i31) (some x0))) x9) (some x0))) x9).2.2.2.2.2 + 1))), s.2.2.1.2.2.2.2.2.2), s.2.2.2)) else none)) else none
set_option maxRecDepth 20000 in
theorem CN_add {w : xw_G} {h : xw_H} (hb : xMb h) {x9 : Nat} {x0 : Nat} {s : xMs} {out : xMs} (hF : FN_add x9 x0 s = some out) : (s.2.2.1.2.2.2.2.2.2.1 ≤ out.2.2.1.2.2.2.2.2.2.1 ∧ s.2.2.1.2.2.2.2.2.2.2 ≤ out.2.2.1.2.2.2.2.2.2.2) ∧ xw_C w (mN_add { frames := 0, cells := out.2.2.1.2.2.2.2.2.2.1 - s.2.2.1.2.2.2.2.2.2.1, slots := out.2.2.1.2.2.2.2.2.2.2 - s.2.2.1.2.2.2.2.2.2.2, locals := 0 }) (xw_R none (mV out h)) [.ref (xn x9), .ref (xn x0)] (mV s h) := by
  unfold FN_add at hF
  refine xy_enter (L := [some (.ref (xn x9)), some (.ref (xn x0))]) (fun _ => rfl) (fun _ => rfl) (fun _ => (show plainName "FormulaShaperModel$Node" = true by decide +kernel)) (fun _ => (Nat.le_of_ble_eq_true rfl)) (fun _ => rfl) ?_
  have hm : s.2.2.1.2.2.2.2.2.2.1 ≤ s.2.2.1.2.2.2.2.2.2.1 ∧ s.2.2.1.2.2.2.2.2.2.2 ≤ s.2.2.1.2.2.2.2.2.2.2 := ⟨Nat.le_refl _, Nat.le_refl _⟩
  refine xy_r (xw_aload_n dN_add_0 rfl) ?_
  obtain ⟨g29, hF⟩ := xg_g hF
  refine xy_r (xw_get dN_add_1 fN_7 (mV_n g29) rfl) ?_
  refine xy_brn (xw_if_ne 15 dN_add_4 (by decide)) (fun c30 => ?_) (fun c30 => ?_)
  · replace hF := xg_f c30 hF
    refine xy_r (xw_aload_n dN_add_15 rfl) ?_
    refine xy_r (xw_get dN_add_16 fN_17 (mV_n g29) rfl) ?_
    refine xy_r (xw_aload_n dN_add_19 rfl) ?_
    obtain ⟨i31, ei31, hF⟩ := xg_b hF
    refine xy_r (xw_Sn (st' := [.ref (xn x0), .ref (xn i31)]) (by first | (rw [ei31]; done) | (rw [ei31]; rfl))) ?_
    obtain ⟨g32, hF⟩ := xg_g hF
    refine xy_r (xg_put dN_add_20 fN_20 (mV_n g32) (xn_le _) (Nat.le_of_ble_eq_true rfl) (fun _ => rfl) (fun _ => rfl) (mV_pn (q := (nNext (s.2.2.1.2.2.2.2.2.1 i31) (some x0))) g32)) ?_
    refine xy_r (xw_aload_n dN_add_23 rfl) ?_
    refine xy_r (xw_aload_n dN_add_24 rfl) ?_
    refine xy_r (xg_put dN_add_25 fN_17 (mV_n g29) (xn_le _) (Nat.le_of_ble_eq_true rfl) (fun _ => rfl) (fun _ => rfl) (mV_pn (q := (nLast ((va_up s.2.2.1.2.2.2.2.2.1 i31 (nNext (s.2.2.1.2.2.2.2.2.1 i31) (some x0))) x9) (some x0))) g29)) ?_
    refine xy_r (xw_aload_n dN_add_28 rfl) ?_
    refine xy_r (xw_dup_r dN_add_29) ?_
    refine xy_r (xw_get dN_add_30 fN_7 (mV_n g29) rfl) ?_
    refine xy_r (xw_iconst (1) dN_add_33 (by decide)) ?_
    refine xy_r (xw_iadd dN_add_34) ?_
    refine xy_r (xg_put dN_add_35 fN_7 (mV_n g29) (xn_le _) (Nat.le_of_ble_eq_true rfl) (fun _ => rfl) (fun _ => rfl) (mV_pn (q := (nCount ((va_up (va_up s.2.2.1.2.2.2.2.2.1 i31 (nNext (s.2.2.1.2.2.2.2.2.1 i31) (some x0))) x9 (nLast ((va_up s.2.2.1.2.2.2.2.2.1 i31 (nNext (s.2.2.1.2.2.2.2.2.1 i31) (some x0))) x9) (some x0))) x9) (((va_up (va_up s.2.2.1.2.2.2.2.2.1 i31 (nNext (s.2.2.1.2.2.2.2.2.1 i31) (some x0))) x9 (nLast ((va_up s.2.2.1.2.2.2.2.2.1 i31 (nNext (s.2.2.1.2.2.2.2.2.1 i31) (some x0))) x9) (some x0))) x9).2.2.2.2.2 + 1))) g29)) ?_
    obtain rfl := Option.some.inj hF
    exact xy_end (xw_return dN_add_38 rfl (Nat.le_refl _) (Nat.le_refl _) ⟨rfl, rfl⟩)
  · replace hF := xg_t c30 hF
    refine xy_r (xw_aload_n dN_add_7 rfl) ?_
    refine xy_r (xw_aload_n dN_add_8 rfl) ?_
    refine xy_r (xg_put dN_add_9 fN_13 (mV_n g29) (xn_le _) (Nat.le_of_ble_eq_true rfl) (fun _ => rfl) (fun _ => rfl) (mV_pn (q := (nFirst (s.2.2.1.2.2.2.2.2.1 x9) (some x0))) g29)) ?_
    refine xy_r (xw_goto 23 dN_add_12 (by decide)) ?_
    refine xy_r (xw_aload_n dN_add_23 rfl) ?_
    refine xy_r (xw_aload_n dN_add_24 rfl) ?_
    refine xy_r (xg_put dN_add_25 fN_17 (mV_n g29) (xn_le _) (Nat.le_of_ble_eq_true rfl) (fun _ => rfl) (fun _ => rfl) (mV_pn (q := (nLast ((va_up s.2.2.1.2.2.2.2.2.1 x9 (nFirst (s.2.2.1.2.2.2.2.2.1 x9) (some x0))) x9) (some x0))) g29)) ?_
    refine xy_r (xw_aload_n dN_add_28 rfl) ?_
    refine xy_r (xw_dup_r dN_add_29) ?_
    refine xy_r (xw_get dN_add_30 fN_7 (mV_n g29) rfl) ?_
    refine xy_r (xw_iconst (1) dN_add_33 (by decide)) ?_
    refine xy_r (xw_iadd dN_add_34) ?_
    refine xy_r (xg_put dN_add_35 fN_7 (mV_n g29) (xn_le _) (Nat.le_of_ble_eq_true rfl) (fun _ => rfl) (fun _ => rfl) (mV_pn (q := (nCount ((va_up (va_up s.2.2.1.2.2.2.2.2.1 x9 (nFirst (s.2.2.1.2.2.2.2.2.1 x9) (some x0))) x9 (nLast ((va_up s.2.2.1.2.2.2.2.2.1 x9 (nFirst (s.2.2.1.2.2.2.2.2.1 x9) (some x0))) x9) (some x0))) x9) (((va_up (va_up s.2.2.1.2.2.2.2.2.1 x9 (nFirst (s.2.2.1.2.2.2.2.2.1 x9) (some x0))) x9 (nLast ((va_up s.2.2.1.2.2.2.2.2.1 x9 (nFirst (s.2.2.1.2.2.2.2.2.1 x9) (some x0))) x9) (some x0))) x9).2.2.2.2.2 + 1))) g29)) ?_
    obtain rfl := Option.some.inj hF
    exact xy_end (xw_return dN_add_38 rfl (Nat.le_refl _) (Nat.le_refl _) ⟨rfl, rfl⟩)
def FN_part_7 : Nat → Int32 → Option Nat → Int32 → xMs → Option (Option Nat)
  | 0, _, _, _, _ => none
  | fu + 1, l1, l2, l3, s => if l1 ≤ l3 then (some l2) else ((l2).bind fun i35 => if i35 < s.2.2.1.2.2.2.2.1 then (FN_part_7 fu l1 (s.2.2.1.2.2.2.2.2.1 i35).2.2.2.2.1 (l3 + 1) s) else none)
/-- FormulaShaperModel$Node.part -/
def FN_part (x9 : Nat) (x0 : Int32) (s : xMs) : Option (Option Nat) := if x9 < s.2.2.1.2.2.2.2.1 then (FN_part_7 xFuel x0 (s.2.2.1.2.2.2.2.2.1 x9).2.2.1 0 s) else none
set_option maxRecDepth 20000 in
theorem CN_part_7 {w : xw_G} {h : xw_H}  : ∀ (fu : Nat) {l1 : Int32} {l2 : Option Nat} {l3 : Int32} {s : xMs} {out : (Option Nat)} {h0 : xw_H}, FN_part_7 fu l1 l2 l3 s = some out → xw_X w (mN_part { frames := 0, cells := 0, slots := 0, locals := 0 }) (xw_R (some (xw_rf out)) (mV s h)) h0 0 0 7 [none, some (.int l1), some (xw_rf l2), some (.int l3)] [] (mV s h) := by
  intro fu
  induction fu with
  | zero =>
    intro l1 l2 l3 s out h0 hF
    rw [FN_part_7] at hF
    cases hF
  | succ fu ih =>
    intro l1 l2 l3 s out h0 hF
    rw [FN_part_7] at hF
    refine xw_iload_n dN_part_7 rfl ?_
    refine xw_iload_n dN_part_8 rfl ?_
    refine xw_icmp_ge 23 dN_part_9 (by decide) (fun c34 => ?_) (fun c34 => ?_)
    · replace hF := xg_t c34 hF
      refine xg_aload_n dN_part_23 rfl ?_
      obtain rfl := Option.some.inj hF
      exact xg_areturn dN_part_24 rfl (Nat.le_of_ble_eq_true rfl) (Nat.le_of_ble_eq_true rfl) ⟨rfl, rfl⟩
    · replace hF := xg_f c34 hF
      refine xg_aload_n dN_part_12 rfl ?_
      obtain ⟨i35, ei35, hF⟩ := xg_b hF
      refine xw_Ln (L' := [none, some (.int l1), some (.ref (xn i35)), some (.int l3)]) (by first | (rw [ei35]; done) | (rw [ei35]; rfl)) ?_
      refine xw_Sn (st' := [.ref (xn i35)]) (by first | (rw [ei35]; done) | (rw [ei35]; rfl)) ?_
      obtain ⟨g36, hF⟩ := xg_g hF
      refine xw_get dN_part_13 fN_20 (mV_n g36) rfl ?_
      refine xg_astore_n dN_part_16 (Nat.le_of_ble_eq_true rfl) ?_
      refine xw_Ln (L' := [none, some (.int l1), some (xw_rf (s.2.2.1.2.2.2.2.2.1 i35).2.2.2.2.1), some (.int l3)]) rfl ?_
      refine xw_iinc ((l3 + 1)) dN_part_17 rfl rfl (Nat.le_of_ble_eq_true rfl) ?_
      refine xw_Ln (L' := [none, some (.int l1), some (xw_rf (s.2.2.1.2.2.2.2.2.1 i35).2.2.2.2.1), some (.int (l3 + 1))]) rfl ?_
      refine xw_goto 7 dN_part_20 (by decide) ?_
      exact ih hF
set_option maxRecDepth 20000 in
theorem CN_part {w : xw_G} {h : xw_H} {x9 : Nat} {x0 : Int32} {s : xMs} {out : (Option Nat)} (hF : FN_part x9 x0 s = some out) : xw_C w (mN_part { frames := 0, cells := 0, slots := 0, locals := 0 }) (xw_R (some (xw_rf out)) (mV s h)) [.ref (xn x9), .int x0] (mV s h) := by
  unfold FN_part at hF
  refine xw_enter rfl (show plainName "FormulaShaperModel$Node" = true by decide +kernel) (Nat.le_of_ble_eq_true rfl) ?_
  refine xw_aload_n dN_part_0 rfl ?_
  obtain ⟨g33, hF⟩ := xg_g hF
  refine xw_get dN_part_1 fN_13 (mV_n g33) rfl ?_
  refine xg_astore_n dN_part_4 (Nat.le_of_ble_eq_true rfl) ?_
  refine xw_Ln (L' := [some (.ref (xn x9)), some (.int x0), some (xw_rf (s.2.2.1.2.2.2.2.2.1 x9).2.2.1), none]) rfl ?_
  refine xw_iconst (0) dN_part_5 (by decide) ?_
  refine xw_istore_n dN_part_6 (Nat.le_of_ble_eq_true rfl) ?_
  refine xw_Ln (L' := [some (.ref (xn x9)), some (.int x0), some (xw_rf (s.2.2.1.2.2.2.2.2.1 x9).2.2.1), some (.int 0)]) rfl ?_
  refine xw_drop (L' := [none, some (.int x0), some (xw_rf (s.2.2.1.2.2.2.2.2.1 x9).2.2.1), some (.int 0)]) ⟨rfl, ⟨rfl, ⟨rfl, trivial⟩⟩⟩ ?_
  exact CN_part_7 xFuel hF
def FM_node_52 (l1 : Int32) (s : xMs) : Option (Nat × xMs) := if (0 ≤ s.2.2.1.1 ∧ s.2.2.1.1 < nI (256 * 2 ^ s.2.2.1.2.1)) ∧ s.2.2.1.2.1 < s.2.2.1.2.2.1 ∧ s.2.2.1.2.1 < 8 then (xm (s.2.2.1.2.2.2.1 s.2.2.1.2.1 (s.2.2.1.1).toNatClampNeg) ((((va_up s.2.2.1.2.2.2.1 s.2.2.1.2.1 (va_up (s.2.2.1.2.2.2.1 s.2.2.1.2.1) (s.2.2.1.1).toNatClampNeg (some s.2.2.1.2.2.2.2.1))) s.2.2.1.2.1 (s.2.2.1.1).toNatClampNeg)).bind fun i43 => if i43 < (s.2.2.1.2.2.2.2.1 + 1) then (some (i43, (s.1, s.2.1, ((s.2.2.1.1 + 1), s.2.2.1.2.1, s.2.2.1.2.2.1, (va_up s.2.2.1.2.2.2.1 s.2.2.1.2.1 (va_up (s.2.2.1.2.2.2.1 s.2.2.1.2.1) (s.2.2.1.1).toNatClampNeg (some s.2.2.1.2.2.2.2.1))), (s.2.2.1.2.2.2.2.1 + 1), (va_up (va_up (va_up (va_up (va_up (va_up (va_up (va_up (va_up s.2.2.1.2.2.2.2.2.1 s.2.2.1.2.2.2.2.1 xN0) i43 (nKind ((va_up s.2.2.1.2.2.2.2.2.1 s.2.2.1.2.2.2.2.1 xN0) i43) l1)) i43 (nA ((va_up (va_up s.2.2.1.2.2.2.2.2.1 s.2.2.1.2.2.2.2.1 xN0) i43 (nKind ((va_up s.2.2.1.2.2.2.2.2.1 s.2.2.1.2.2.2.2.1 xN0) i43) l1)) i43) 0)) i43 (nB ((va_up (va_up (va_up s.2.2.1.2.2.2.2.2.1 s.2.2.1.2.2.2.2.1 xN0) i43 (nKind ((va_up s.2.2.1.2.2.2.2.2.1 s.2.2.1.2.2.2.2.1 xN0) i43) l1)) i43 (nA ((va_up (va_up s.2.2.1.2.2.2.2.2.1 s.2.2.1.2.2.2.2.1 xN0) i43 (nKind ((va_up s.2.2.1.2.2.2.2.2.1 s.2.2.1.2.2.2.2.1 xN0) i43) l1)) i43) 0)) i43) 0)) i43 (nNumber ((va_up (va_up (va_up (va_up s.2.2.1.2.2.2.2.2.1 s.2.2.1.2.2.2.2.1 xN0) i43 (nKind ((va_up s.2.2.1.2.2.2.2.2.1 s.2.2.1.2.2.2.2.1 xN0) i43) l1)) i43 (nA ((va_up (va_up s.2.2.1.2.2.2.2.2.1 s.2.2.1.2.2.2.2.1 xN0) i43 (nKind ((va_up s.2.2.1.2.2.2.2.2.1 s.2.2.1.2.2.2.2.1 xN0) i43) l1)) i43) 0)) i43 (nB ((va_up (va_up (va_up s.2.2.1.2.2.2.2.2.1 s.2.2.1.2.2.2.2.1 xN0) i43 (nKind ((va_up s.2.2.1.2.2.2.2.2.1 s.2.2.1.2.2.2.2.1 xN0) i43) l1)) i43 (nA ((va_up (va_up s.2.2.1.2.2.2.2.2.1 s.2.2.1.2.2.2.2.1 xN0) i43 (nKind ((va_up s.2.2.1.2.2.2.2.2.1 s.2.2.1.2.2.2.2.1 xN0) i43) l1)) i43) 0)) i43) 0)) i43) 0)) i43 (nFirst ((va_up (va_up (va_up (va_up (va_up s.2.2.1.2.2.2.2.2.1 s.2.2.1.2.2.2.2.1 xN0) i43 (nKind ((va_up s.2.2.1.2.2.2.2.2.1 s.2.2.1.2.2.2.2.1 xN0) i43) l1)) i43 (nA ((va_up (va_up s.2.2.1.2.2.2.2.2.1 s.2.2.1.2.2.2.2.1 xN0) i43 (nKind ((va_up s.2.2.1.2.2.2.2.2.1 s.2.2.1.2.2.2.2.1 xN0) i43) l1)) i43) 0)) i43 (nB ((va_up (va_up (va_up s.2.2.1.2.2.2.2.2.1 s.2.2.1.2.2.2.2.1 xN0) i43 (nKind ((va_up s.2.2.1.2.2.2.2.2.1 s.2.2.1.2.2.2.2.1 xN0) i43) l1)) i43 (nA ((va_up (va_up s.2.2.1.2.2.2.2.2.1 s.2.2.1.2.2.2.2.1 xN0) i43 (nKind ((va_up s.2.2.1.2.2.2.2.2.1 s.2.2.1.2.2.2.2.1 xN0) i43) l1)) i43) 0)) i43) 0)) i43 (nNumber ((va_up (va_up (va_up (va_up s.2.2.1.2.2.2.2.2.1 s.2.2.1.2.2.2.2.1 xN0) i43 (nKind ((va_up s.2.2.1.2.2.2.2.2.1 s.2.2.1.2.2.2.2.1 xN0) i43) l1)) i43 (nA ((va_up (va_up s.2.2.1.2.2.2.2.2.1 s.2.2.1.2.2.2.2.1 xN0) i43 (nKind ((va_up s.2.2.1.2.2.2.2.2.1 s.2.2.1.2.2.2.2.1 xN0) i43) l1)) i43) 0)) i43 (nB ((va_up (va_up (va_up s.2.2.1.2.2.2.2.2.1 s.2.2.1.2.2.2.2.1 xN0) i43 (nKind ((va_up s.2.2.1.2.2.2.2.2.1 s.2.2.1.2.2.2.2.1 xN0) i43) l1)) i43 (nA ((va_up (va_up s.2.2.1.2.2.2.2.2.1 s.2.2.1.2.2.2.2.1 xN0) i43 (nKind ((va_up s.2.2.1.2.2.2.2.2.1 s.2.2.1.2.2.2.2.1 xN0) i43) l1)) i43) 0)) i43) 0)) i43) 0)) i43) none)) i43 (nLast ((va_up (va_up (va_up (va_up (va_up (va_up s.2.2.1.2.2.2.2.2.1 s.2.2.1.2.2.2.2.1 xN0) i43 (nKind ((va_up s.2.2.1.2.2.2.2.2.1 s.2.2.1.2.2.2.2.1 xN0) i43) l1)) i43 (nA ((va_up (va_up s.2.2.1.2.2.2.2.2.1 s.2.2.1.2.2.2.2.1 xN0) i43 (nKind ((va_up s.2.2.1.2.2.2.2.2.1 s.2.2.1.2.2.2.2.1 xN0) i43) l1)) i43) 0)) i43 (nB ((va_up (va_up (va_up s.2.2.1.2.2.2.2.2.1 s.2.2.1.2.2.2.2.1 xN0) i43 (nKind ((va_up s.2.2.1.2.2.2.2.2.1 s.2.2.1.2.2.2.2.1 xN0) i43) l1)) i43 (nA ((va_up (va_up s.2.2.1.2.2.2.2.2.1 s.2.2.1.2.2.2.2.1 xN0) i43 (nKind ((va_up s.2.2.1.2.2.2.2.2.1 s.2.2.1.2.2.2.2.1 xN0) i43) l1)) i43) 0)) i43) 0)) i43 (nNumber ((va_up (va_up (va_up (va_up s.2.2.1.2.2.2.2.2.1 s.2.2.1.2.2.2.2.1 xN0) i43 (nKind ((va_up s.2.2.1.2.2.2.2.2.1 s.2.2.1.2.2.2.2.1 xN0) i43) l1)) i43 (nA ((va_up (va_up s.2.2.1.2.2.2.2.2.1 s.2.2.1.2.2.2.2.1 xN0) i43 (nKind ((va_up s.2.2.1.2.2.2.2.2.1 s.2.2.1.2.2.2.2.1 xN0) i43) l1)) i43) 0)) i43 (nB ((va_up (va_up (va_up s.2.2.1.2.2.2.2.2.1 s.2.2.1.2.2.2.2.1 xN0) i43 (nKind ((va_up s.2.2.1.2.2.2.2.2.1 s.2.2.1.2.2.2.2.1 xN0) i43) l1)) i43 (nA ((va_up (va_up s.2.2.1.2.2.2.2.2.1 s.2.2.1.2.2.2.2.1 xN0) i43 (nKind ((va_up s.2.2.1.2.2.2.2.2.1 s.2.2.1.2.2.2.2.1 xN0) i43) l1)) i43) 0)) i43) 0)) i43) 0)) i43 (nFirst ((va_up (va_up (va_up (va_up (va_up s.2.2.1.2.2.2.2.2.1 s.2.2.1.2.2.2.2.1 xN0) i43 (nKind ((va_up s.2.2.1.2.2.2.2.2.1 s.2.2.1.2.2.2.2.1 xN0) i43) l1)) i43 (nA ((va_up (va_up s.2.2.1.2.2.2.2.2.1 s.2.2.1.2.2.2.2.1 xN0) i43 (nKind ((va_up s.2.2.1.2.2.2.2.2.1 s.2.2.1.2.2.2.2.1 xN0) i43) l1)) i43) 0)) i43 (nB ((va_up (va_up (va_up s.2.2.1.2.2.2.2.2.1 s.2.2.1.2.2.2.2.1 xN0) i43 (nKind ((va_up s.2.2.1.2.2.2.2.2.1 s.2.2.1.2.2.2.2.1 xN0) i43) l1)) i43 (nA ((va_up (va_up s.2.2.1.2.2.2.2.2.1 s.2.2.1.2.2.2.2.1 xN0) i43 (nKind ((va_up s.2.2.1.2.2.2.2.2.1 s.2.2.1.2.2.2.2.1 xN0) i43) l1)) i43) 0)) i43) 0)) i43 (nNumber ((va_up (va_up (va_up (va_up s.2.2.1.2.2.2.2.2.1 s.2.2.1.2.2.2.2.1 xN0) i43 (nKind ((va_up s.2.2.1.2.2.2.2.2.1 s.2.2.1.2.2.2.2.1 xN0) i43) l1)) i43 (nA ((va_up (va_up s.2.2.1.2.2.2.2.2.1 s.2.2.1.2.2.2.2.1 xN0) i43 (nKind ((va_up s.2.2.1.2.2.2.2.2.1 s.2.2.1.2.2.2.2.1 xN0) i43) l1)) i43) 0)) i43 (nB ((va_up (va_up (va_up s.2.2.1.2.2.2.2.2.1 s.2.2.1.2.2.2.2.1 xN0) i43 (nKind ((va_up s.2.2.1.2.2.2.2.2.1 s.2.2.1.2.2.2.2.1 xN0) i43) l1)) i43 (nA ((va_up (va_up s.2.2.1.2.2.2.2.2.1 s.2.2.1.2.2.2.2.1 xN0) i43 (nKind ((va_up s.2.2.1.2.2.2.2.2.1 s.2.2.1.2.2.2.2.1 xN0) i43) l1)) i43) 0)) i43) 0)) i43) 0)) i43) none)) i43) none)) i43 (nNext ((va_up (va_up (va_up (va_up (va_up (va_up (va_up s.2.2.1.2.2.2.2.2.1 s.2.2.1.2.2.2.2.1 xN0) i43 (nKind ((va_up s.2.2.1.2.2.2.2.2.1 s.2.2.1.2.2.2.2.1 xN0) i43) l1)) i43 (nA ((va_up (va_up s.2.2.1.2.2.2.2.2.1 s.2.2.1.2.2.2.2.1 xN0) i43 (nKind ((va_up s.2.2.1.2.2.2.2.2.1 s.2.2.1.2.2.2.2.1 xN0) i43) l1)) i43) 0)) i43 (nB ((va_up (va_up (va_up s.2.2.1.2.2.2.2.2.1 s.2.2.1.2.2.2.2.1 xN0) i43 (nKind ((va_up s.2.2.1.2.2.2.2.2.1 s.2.2.1.2.2.2.2.1 xN0) i43) l1)) i43 (nA ((va_up (va_up s.2.2.1.2.2.2.2.2.1 s.2.2.1.2.2.2.2.1 xN0) i43 (nKind ((va_up s.2.2.1.2.2.2.2.2.1 s.2.2.1.2.2.2.2.1 xN0) i43) l1)) i43) 0)) i43) 0)) i43 (nNumber ((va_up (va_up (va_up (va_up s.2.2.1.2.2.2.2.2.1 s.2.2.1.2.2.2.2.1 xN0) i43 (nKind ((va_up s.2.2.1.2.2.2.2.2.1 s.2.2.1.2.2.2.2.1 xN0) i43) l1)) i43 (nA ((va_up (va_up s.2.2.1.2.2.2.2.2.1 s.2.2.1.2.2.2.2.1 xN0) i43 (nKind ((va_up s.2.2.1.2.2.2.2.2.1 s.2.2.1.2.2.2.2.1 xN0) i43) l1)) i43) 0)) i43 (nB ((va_up (va_up (va_up s.2.2.1.2.2.2.2.2.1 s.2.2.1.2.2.2.2.1 xN0) i43 (nKind ((va_up s.2.2.1.2.2.2.2.2.1 s.2.2.1.2.2.2.2.1 xN0) i43) l1)) i43 (nA ((va_up (va_up s.2.2.1.2.2.2.2.2.1 s.2.2.1.2.2.2.2.1 xN0) i43 (nKind ((va_up s.2.2.1.2.2.2.2.2.1 s.2.2.1.2.2.2.2.1 xN0) i43) l1)) i43) 0)) i43) 0)) i43) 0)) i43 (nFirst ((va_up (va_up (va_up (va_up (va_up s.2.2.1.2.2.2.2.2.1 s.2.2.1.2.2.2.2.1 xN0) i43 (nKind ((va_up s.2.2.1.2.2.2.2.2.1 s.2.2.1.2.2.2.2.1 xN0) i43) l1)) i43 (nA ((va_up (va_up s.2.2.1.2.2.2.2.2.1 s.2.2.1.2.2.2.2.1 xN0) i43 (nKind ((va_up s.2.2.1.2.2.2.2.2.1 s.2.2.1.2.2.2.2.1 xN0) i43) l1)) i43) 0)) i43 (nB ((va_up (va_up (va_up s.2.2.1.2.2.2.2.2.1 s.2.2.1.2.2.2.2.1 xN0) i43 (nKind ((va_up s.2.2.1.2.2.2.2.2.1 s.2.2.1.2.2.2.2.1 xN0) i43) l1)) i43 (nA ((va_up (va_up s.2.2.1.2.2.2.2.2.1 s.2.2.1.2.2.2.2.1 xN0) i43 (nKind ((va_up s.2.2.1.2.2.2.2.2.1 s.2.2.1.2.2.2.2.1 xN0) i43) l1)) i43) 0)) i43) 0)) i43 (nNumber ((va_up (va_up (va_up (va_up s.2.2.1.2.2.2.2.2.1 s.2.2.1.2.2.2.2.1 xN0) i43 (nKind ((va_up s.2.2.1.2.2.2.2.2.1 s.2.2.1.2.2.2.2.1 xN0) i43) l1)) i43 (nA ((va_up (va_up s.2.2.1.2.2.2.2.2.1 s.2.2.1.2.2.2.2.1 xN0) i43 (nKind ((va_up s.2.2.1.2.2.2.2.2.1 s.2.2.1.2.2.2.2.1 xN0) i43) l1)) i43) 0)) i43 (nB ((va_up (va_up (va_up s.2.2.1.2.2.2.2.2.1 s.2.2.1.2.2.2.2.1 xN0) i43 (nKind ((va_up s.2.2.1.2.2.2.2.2.1 s.2.2.1.2.2.2.2.1 xN0) i43) l1)) i43 (nA ((va_up (va_up s.2.2.1.2.2.2.2.2.1 s.2.2.1.2.2.2.2.1 xN0) i43 (nKind ((va_up s.2.2.1.2.2.2.2.2.1 s.2.2.1.2.2.2.2.1 xN0) i43) l1)) i43) 0)) i43) 0)) i43) 0)) i43) none)) i43 (nLast ((va_up (va_up (va_up (va_up (va_up (va_up s.2.2.1.2.2.2.2.2.1 s.2.2.1.2.2.2.2.1 xN0) i43 (nKind ((va_up s.2.2.1.2.2.2.2.2.1 s.2.2.1.2.2.2.2.1 xN0) i43) l1)) i43 (nA ((va_up (va_up s.2.2.1.2.2.2.2.2.1 s.2.2.1.2.2.2.2.1 xN0) i43 (nKind ((va_up s.2.2.1.2.2.2.2.2.1 s.2.2.1.2.2.2.2.1 xN0) i43) l1)) i43) 0)) i43 (nB ((va_up (va_up (va_up s.2.2.1.2.2.2.2.2.1 s.2.2.1.2.2.2.2.1 xN0) i43 (nKind ((va_up s.2.2.1.2.2.2.2.2.1 s.2.2.1.2.2.2.2.1 xN0) i43) l1)) i43 (nA ((va_up (va_up s.2.2.1.2.2.2.2.2.1 s.2.2.1.2.2.2.2.1 xN0) i43 (nKind ((va_up s.2.2.1.2.2.2.2.2.1 s.2.2.1.2.2.2.2.1 xN0) i43) l1)) i43) 0)) i43) 0)) i43 (nNumber ((va_up (va_up (va_up (va_up s.2.2.1.2.2.2.2.2.1 s.2.2.1.2.2.2.2.1 xN0) i43 (nKind ((va_up s.2.2.1.2.2.2.2.2.1 s.2.2.1.2.2.2.2.1 xN0) i43) l1)) i43 (nA ((va_up (va_up s.2.2.1.2.2.2.2.2.1 s.2.2.1.2.2.2.2.1 xN0) i43 (nKind ((va_up s.2.2.1.2.2.2.2.2.1 s.2.2.1.2.2.2.2.1 xN0) i43) l1)) i43) 0)) i43 (nB ((va_up (va_up (va_up s.2.2.1.2.2.2.2.2.1 s.2.2.1.2.2.2.2.1 xN0) i43 (nKind ((va_up s.2.2.1.2.2.2.2.2.1 s.2.2.1.2.2.2.2.1 xN0) i43) l1)) i43 (nA ((va_up (va_up s.2.2.1.2.2.2.2.2.1 s.2.2.1.2.2.2.2.1 xN0) i43 (nKind ((va_up s.2.2.1.2.2.2.2.2.1 s.2.2.1.2.2.2.2.1 xN0) i43) l1)) i43) 0)) i43) 0)) i43) 0)) i43 (nFirst ((va_up (va_up (va_up (va_up (va_up s.2.2.1.2.2.2.2.2.1 s.2.2.1.2.2.2.2.1 xN0) i43 (nKind ((va_up s.2.2.1.2.2.2.2.2.1 s.2.2.1.2.2.2.2.1 xN0) i43) l1)) i43 (nA ((va_up (va_up s.2.2.1.2.2.2.2.2.1 s.2.2.1.2.2.2.2.1 xN0) i43 (nKind ((va_up s.2.2.1.2.2.2.2.2.1 s.2.2.1.2.2.2.2.1 xN0) i43) l1)) i43) 0)) i43 (nB ((va_up (va_up (va_up s.2.2.1.2.2.2.2.2.1 s.2.2.1.2.2.2.2.1 xN0) i43 (nKind ((va_up s.2.2.1.2.2.2.2.2.1 s.2.2.1.2.2.2.2.1 xN0) i43) l1)) i43 (nA ((va_up (va_up s.2.2.1.2.2.2.2.2.1 s.2.2.1.2.2.2.2.1 xN0) i43 (nKind ((va_up s.2.2.1.2.2.2.2.2.1 s.2.2.1.2.2.2.2.1 xN0) i43) l1)) i43) 0)) i43) 0)) i43 (nNumber ((va_up (va_up (va_up (va_up s.2.2.1.2.2.2.2.2.1 s.2.2.1.2.2.2.2.1 xN0) i43 (nKind ((va_up s.2.2.1.2.2.2.2.2.1 s.2.2.1.2.2.2.2.1 xN0) i43) l1)) i43 (nA ((va_up (va_up s.2.2.1.2.2.2.2.2.1 s.2.2.1.2.2.2.2.1 xN0) i43 (nKind ((va_up s.2.2.1.2.2.2.2.2.1 s.2.2.1.2.2.2.2.1 xN0) i43) l1)) i43) 0)) i43 (nB ((va_up (va_up (va_up s.2.2.1.2.2.2.2.2.1 s.2.2.1.2.2.2.2.1 xN0) i43 (nKind ((va_up s.2.2.1.2.2.2.2.2.1 s.2.2.1.2.2.2.2.1 xN0) i43) l1)) i43 (nA ((va_up (va_up s.2.2.1.2.2.2.2.2.1 s.2.2.1.2.2.2.2.1 xN0) i43 (nKind ((va_up s.2.2.1.2.2.2.2.2.1 s.2.2.1.2.2.2.2.1 xN0) i43) l1)) i43) 0)) i43) 0)) i43) 0)) i43) none)) i43) none)) i43) none)) i43 (nCount ((va_up (va_up (va_up (va_up (va_up (va_up (va_up (va_up s.2.2.1.2.2.2.2.2.1 s.2.2.1.2.2.2.2.1 xN0) i43 (nKind ((va_up s.2.2.1.2.2.2.2.2.1 s.2.2.1.2.2.2.2.1 xN0) i43) l1)) i43 (nA ((va_up (va_up s.2.2.1.2.2.2.2.2.1 s.2.2.1.2.2.2.2.1 xN0) i43 (nKind ((va_up s.2.2.1.2.2.2.2.2.1 s.2.2.1.2.2.2.2.1 xN0) i43) l1)) i43) 0)) i43 (nB ((va_up (va_up (va_up s.2.2.1.2.2.2.2.2.1 s.2.2.1.2.2.2.2.1 xN0) i43 (nKind ((va_up s.2.2.1.2.2.2.2.2.1 s.2.2.1.2.2.2.2.1 xN0) i43) l1)) i43 (nA ((va_up (va_up s.2.2.1.2.2.2.2.2.1 s.2.2.1.2.2.2.2.1 xN0) i43 (nKind ((va_up s.2.2.1.2.2.2.2.2.1 s.2.2.1.2.2.2.2.1 xN0) i43) l1)) i43) 0)) i43) 0)) i43 (nNumber ((va_up (va_up (va_up (va_up s.2.2.1.2.2.2.2.2.1 s.2.2.1.2.2.2.2.1 xN0) i43 (nKind ((va_up s.2.2.1.2.2.2.2.2.1 s.2.2.1.2.2.2.2.1 xN0) i43) l1)) i43 (nA ((va_up (va_up s.2.2.1.2.2.2.2.2.1 s.2.2.1.2.2.2.2.1 xN0) i43 (nKind ((va_up s.2.2.1.2.2.2.2.2.1 s.2.2.1.2.2.2.2.1 xN0) i43) l1)) i43) 0)) i43 (nB ((va_up (va_up (va_up s.2.2.1.2.2.2.2.2.1 s.2.2.1.2.2.2.2.1 xN0) i43 (nKind ((va_up s.2.2.1.2.2.2.2.2.1 s.2.2.1.2.2.2.2.1 xN0) i43) l1)) i43 (nA ((va_up (va_up s.2.2.1.2.2.2.2.2.1 s.2.2.1.2.2.2.2.1 xN0) i43 (nKind ((va_up s.2.2.1.2.2.2.2.2.1 s.2.2.1.2.2.2.2.1 xN0) i43) l1)) i43) 0)) i43) 0)) i43) 0)) i43 (nFirst ((va_up (va_up (va_up (va_up (va_up s.2.2.1.2.2.2.2.2.1 s.2.2.1.2.2.2.2.1 xN0) i43 (nKind ((va_up s.2.2.1.2.2.2.2.2.1 s.2.2.1.2.2.2.2.1 xN0) i43) l1)) i43 (nA ((va_up (va_up s.2.2.1.2.2.2.2.2.1 s.2.2.1.2.2.2.2.1 xN0) i43 (nKind ((va_up s.2.2.1.2.2.2.2.2.1 s.2.2.1.2.2.2.2.1 xN0) i43) l1)) i43) 0)) i43 (nB ((va_up (va_up (va_up s.2.2.1.2.2.2.2.2.1 s.2.2.1.2.2.2.2.1 xN0) i43 (nKind ((va_up s.2.2.1.2.2.2.2.2.1 s.2.2.1.2.2.2.2.1 xN0) i43) l1)) i43 (nA ((va_up (va_up s.2.2.1.2.2.2.2.2.1 s.2.2.1.2.2.2.2.1 xN0) i43 (nKind ((va_up s.2.2.1.2.2.2.2.2.1 s.2.2.1.2.2.2.2.1 xN0) i43) l1)) i43) 0)) i43) 0)) i43 (nNumber ((va_up (va_up (va_up (va_up s.2.2.1.2.2.2.2.2.1 s.2.2.1.2.2.2.2.1 xN0) i43 (nKind ((va_up s.2.2.1.2.2.2.2.2.1 s.2.2.1.2.2.2.2.1 xN0) i43) l1)) i43 (nA ((va_up (va_up s.2.2.1.2.2.2.2.2.1 s.2.2.1.2.2.2.2.1 xN0) i43 (nKind ((va_up s.2.2.1.2.2.2.2.2.1 s.2.2.1.2.2.2.2.1 xN0) i43) l1)) i43) 0)) i43 (nB ((va_up (va_up (va_up s.2.2.1.2.2.2.2.2.1 s.2.2.1.2.2.2.2.1 xN0) i43 (nKind ((va_up s.2.2.1.2.2.2.2.2.1 s.2.2.1.2.2.2.2.1 xN0) i43) l1)) i43 (nA ((va_up (va_up s.2.2.1.2.2.2.2.2.1 s.2.2.1.2.2.2.2.1 xN0) i43 (nKind ((va_up s.2.2.1.2.2.2.2.2.1 s.2.2.1.2.2.2.2.1 xN0) i43) l1)) i43) 0)) i43) 0)) i43) 0)) i43) none)) i43 (nLast ((va_up (va_up (va_up (va_up (va_up (va_up s.2.2.1.2.2.2.2.2.1 s.2.2.1.2.2.2.2.1 xN0) i43 (nKind ((va_up s.2.2.1.2.2.2.2.2.1 s.2.2.1.2.2.2.2.1 xN0) i43) l1)) i43 (nA ((va_up (va_up s.2.2.1.2.2.2.2.2.1 s.2.2.1.2.2.2.2.1 xN0) i43 (nKind ((va_up s.2.2.1.2.2.2.2.2.1 s.2.2.1.2.2.2.2.1 xN0) i43) l1)) i43) 0)) i43 (nB ((va_up (va_up (va_up s.2.2.1.2.2.2.2.2.1 s.2.2.1.2.2.2.2.1 xN0) i43 (nKind ((va_up s.2.2.1.2.2.2.2.2.1 s.2.2.1.2.2.2.2.1 xN0) i43) l1)) i43 (nA ((va_up (va_up s.2.2.1.2.2.2.2.2.1 s.2.2.1.2.2.2.2.1 xN0) i43 (nKind ((va_up s.2.2.1.2.2.2.2.2.1 s.2.2.1.2.2.2.2.1 xN0) i43) l1)) i43) 0)) i43) 0)) i43 (nNumber ((va_up (va_up (va_up (va_up s.2.2.1.2.2.2.2.2.1 s.2.2.1.2.2.2.2.1 xN0) i43 (nKind ((va_up s.2.2.1.2.2.2.2.2.1 s.2.2.1.2.2.2.2.1 xN0) i43) l1)) i43 (nA ((va_up (va_up s.2.2.1.2.2.2.2.2.1 s.2.2.1.2.2.2.2.1 xN0) i43 (nKind ((va_up s.2.2.1.2.2.2.2.2.1 s.2.2.1.2.2.2.2.1 xN0) i43) l1)) i43) 0)) i43 (nB ((va_up (va_up (va_up s.2.2.1.2.2.2.2.2.1 s.2.2.1.2.2.2.2.1 xN0) i43 (nKind ((va_up s.2.2.1.2.2.2.2.2.1 s.2.2.1.2.2.2.2.1 xN0) i43) l1)) i43 (nA ((va_up (va_up s.2.2.1.2.2.2.2.2.1 s.2.2.1.2.2.2.2.1 xN0) i43 (nKind ((va_up s.2.2.1.2.2.2.2.2.1 s.2.2.1.2.2.2.2.1 xN0) i43) l1)) i43) 0)) i43) 0)) i43) 0)) i43 (nFirst ((va_up (va_up (va_up (va_up (va_up s.2.2.1.2.2.2.2.2.1 s.2.2.1.2.2.2.2.1 xN0) i43 (nKind ((va_up s.2.2.1.2.2.2.2.2.1 s.2.2.1.2.2.2.2.1 xN0) i43) l1)) i43 (nA ((va_up (va_up s.2.2.1.2.2.2.2.2.1 s.2.2.1.2.2.2.2.1 xN0) i43 (nKind ((va_up s.2.2.1.2.2.2.2.2.1 s.2.2.1.2.2.2.2.1 xN0) i43) l1)) i43) 0)) i43 (nB ((va_up (va_up (va_up s.2.2.1.2.2.2.2.2.1 s.2.2.1.2.2.2.2.1 xN0) i43 (nKind ((va_up s.2.2.1.2.2.2.2.2.1 s.2.2.1.2.2.2.2.1 xN0) i43) l1)) i43 (nA ((va_up (va_up s.2.2.1.2.2.2.2.2.1 s.2.2.1.2.2.2.2.1 xN0) i43 (nKind ((va_up s.2.2.1.2.2.2.2.2.1 s.2.2.1.2.2.2.2.1 xN0) i43) l1)) i43) 0)) i43) 0)) i43 (nNumber ((va_up (va_up (va_up (va_up s.2.2.1.2.2.2.2.2.1 s.2.2.1.2.2.2.2.1 xN0) i43 (nKind ((va_up s.2.2.1.2.2.2.2.2.1 s.2.2.1.2.2.2.2.1 xN0) i43) l1)) i43 (nA ((va_up (va_up s.2.2.1.2.2.2.2.2.1 s.2.2.1.2.2.2.2.1 xN0) i43 (nKind ((va_up s.2.2.1.2.2.2.2.2.1 s.2.2.1.2.2.2.2.1 xN0) i43) l1)) i43) 0)) i43 (nB ((va_up (va_up (va_up s.2.2.1.2.2.2.2.2.1 s.2.2.1.2.2.2.2.1 xN0) i43 (nKind ((va_up s.2.2.1.2.2.2.2.2.1 s.2.2.1.2.2.2.2.1 xN0) i43) l1)) i43 (nA ((va_up (va_up s.2.2.1.2.2.2.2.2.1 s.2.2.1.2.2.2.2.1 xN0) i43 (nKind ((va_up s.2.2.1.2.2.2.2.2.1 s.2.2.1.2.2.2.2.1 xN0) i43) l1)) i43) 0)) i43) 0)) i43) 0)) i43) none)) i43) none)) i43 (nNext ((va_up (va_up (va_up (va_up (va_up (va_up (va_up s.2.2.1.2.2.2.2.2.1 s.2.2.1.2.2.2.2.1 xN0) i43 (nKind ((va_up s.2.2.1.2.2.2.2.2.1 s.2.2.1.2.2.2.2.1 xN0) i43) l1)) i43 (nA ((va_up (va_up s.2.2.1.2.2.2.2.2.1 s.2.2.1.2.2.2.2.1 xN0) i43 (nKind ((va_up s.2.2.1.2.2.2.2.2.1 s.2.2.1.2.2.2.2.1 xN0) i43) l1)) i43) 0)) i43 (nB ((va_up (va_up (va_up s.2.2.1.2.2.2.2.2.1 s.2.2.1.2.2.2.2.1 xN0) i43 (nKind ((va_up s.2.2.1.2.2.2.2.2.1 s.2.2.1.2.2.2.2.1 xN0) i43) l1)) i43 (nA ((va_up (va_up s.2.2.1.2.2.2.2.2.1 s.2.2.1.2.2.2.2.1 xN0) i43 (nKind ((va_up s.2.2.1.2.2.2.2.2.1 s.2.2.1.2.2.2.2.1 xN0) i43) l1)) i43) 0)) i43) 0)) i43 (nNumber ((va_up (va_up (va_up (va_up s.2.2.1.2.2.2.2.2.1 s.2.2.1.2.2.2.2.1 xN0) i43 (nKind ((va_up s.2.2.1.2.2.2.2.2.1 s.2.2.1.2.2.2.2.1 xN0) i43) l1)) i43 (nA ((va_up (va_up s.2.2.1.2.2.2.2.2.1 s.2.2.1.2.2.2.2.1 xN0) i43 (nKind ((va_up s.2.2.1.2.2.2.2.2.1 s.2.2.1.2.2.2.2.1 xN0) i43) l1)) i43) 0)) i43 (nB ((va_up (va_up (va_up s.2.2.1.2.2.2.2.2.1 s.2.2.1.2.2.2.2.1 xN0) i43 (nKind ((va_up s.2.2.1.2.2.2.2.2.1 s.2.2.1.2.2.2.2.1 xN0) i43) l1)) i43 (nA ((va_up (va_up s.2.2.1.2.2.2.2.2.1 s.2.2.1.2.2.2.2.1 xN0) i43 (nKind ((va_up s.2.2.1.2.2.2.2.2.1 s.2.2.1.2.2.2.2.1 xN0) i43) l1)) i43) 0)) i43) 0)) i43) 0)) i43 (nFirst ((va_up (va_up (va_up (va_up (va_up s.2.2.1.2.2.2.2.2.1 s.2.2.1.2.2.2.2.1 xN0) i43 (nKind ((va_up s.2.2.1.2.2.2.2.2.1 s.2.2.1.2.2.2.2.1 xN0) i43) l1)) i43 (nA ((va_up (va_up s.2.2.1.2.2.2.2.2.1 s.2.2.1.2.2.2.2.1 xN0) i43 (nKind ((va_up s.2.2.1.2.2.2.2.2.1 s.2.2.1.2.2.2.2.1 xN0) i43) l1)) i43) 0)) i43 (nB ((va_up (va_up (va_up s.2.2.1.2.2.2.2.2.1 s.2.2.1.2.2.2.2.1 xN0) i43 (nKind ((va_up s.2.2.1.2.2.2.2.2.1 s.2.2.1.2.2.2.2.1 xN0) i43) l1)) i43 (nA ((va_up (va_up s.2.2.1.2.2.2.2.2.1 s.2.2.1.2.2.2.2.1 xN0) i43 (nKind ((va_up s.2.2.1.2.2.2.2.2.1 s.2.2.1.2.2.2.2.1 xN0) i43) l1)) i43) 0)) i43) 0)) i43 (nNumber ((va_up (va_up (va_up (va_up s.2.2.1.2.2.2.2.2.1 s.2.2.1.2.2.2.2.1 xN0) i43 (nKind ((va_up s.2.2.1.2.2.2.2.2.1 s.2.2.1.2.2.2.2.1 xN0) i43) l1)) i43 (nA ((va_up (va_up s.2.2.1.2.2.2.2.2.1 s.2.2.1.2.2.2.2.1 xN0) i43 (nKind ((va_up s.2.2.1.2.2.2.2.2.1 s.2.2.1.2.2.2.2.1 xN0) i43) l1)) i43) 0)) i43 (nB ((va_up (va_up (va_up s.2.2.1.2.2.2.2.2.1 s.2.2.1.2.2.2.2.1 xN0) i43 (nKind ((va_up s.2.2.1.2.2.2.2.2.1 s.2.2.1.2.2.2.2.1 xN0) i43) l1)) i43 (nA ((va_up (va_up s.2.2.1.2.2.2.2.2.1 s.2.2.1.2.2.2.2.1 xN0) i43 (nKind ((va_up s.2.2.1.2.2.2.2.2.1 s.2.2.1.2.2.2.2.1 xN0) i43) l1)) i43) 0)) i43) 0)) i43) 0)) i43) none)) i43 (nLast ((va_up (va_up (va_up (va_up (va_up (va_up s.2.2.1.2.2.2.2.2.1 s.2.2.1.2.2.2.2.1 xN0) i43 (nKind ((va_up s.2.2.1.2.2.2.2.2.1 s.2.2.1.2.2.2.2.1 xN0) i43) l1)) i43 (nA ((va_up (va_up s.2.2.1.2.2.2.2.2.1 s.2.2.1.2.2.2.2.1 xN0) i43 (nKind ((va_up s.2.2.1.2.2.2.2.2.1 s.2.2.1.2.2.2.2.1 xN0) i43) l1)) i43) 0)) i43 (nB ((va_up (va_up (va_up s.2.2.1.2.2.2.2.2.1 s.2.2.1.2.2.2.2.1 xN0) i43 (nKind ((va_up s.2.2.1.2.2.2.2.2.1 s.2.2.1.2.2.2.2.1 xN0) i43) l1)) i43 (nA ((va_up (va_up s.2.2.1.2.2.2.2.2.1 s.2.2.1.2.2.2.2.1 xN0) i43 (nKind ((va_up s.2.2.1.2.2.2.2.2.1 s.2.2.1.2.2.2.2.1 xN0) i43) l1)) i43) 0)) i43) 0)) i43 (nNumber ((va_up (va_up (va_up (va_up s.2.2.1.2.2.2.2.2.1 s.2.2.1.2.2.2.2.1 xN0) i43 (nKind ((va_up s.2.2.1.2.2.2.2.2.1 s.2.2.1.2.2.2.2.1 xN0) i43) l1)) i43 (nA ((va_up (va_up s.2.2.1.2.2.2.2.2.1 s.2.2.1.2.2.2.2.1 xN0) i43 (nKind ((va_up s.2.2.1.2.2.2.2.2.1 s.2.2.1.2.2.2.2.1 xN0) i43) l1)) i43) 0)) i43 (nB ((va_up (va_up (va_up s.2.2.1.2.2.2.2.2.1 s.2.2.1.2.2.2.2.1 xN0) i43 (nKind ((va_up s.2.2.1.2.2.2.2.2.1 s.2.2.1.2.2.2.2.1 xN0) i43) l1)) i43 (nA ((va_up (va_up s.2.2.1.2.2.2.2.2.1 s.2.2.1.2.2.2.2.1 xN0) i43 (nKind ((va_up s.2.2.1.2.2.2.2.2.1 s.2.2.1.2.2.2.2.1 xN0) i43) l1)) i43) 0)) i43) 0)) i43) 0)) i43 (nFirst ((va_up (va_up (va_up (va_up (va_up s.2.2.1.2.2.2.2.2.1 s.2.2.1.2.2.2.2.1 xN0) i43 (nKind ((va_up s.2.2.1.2.2.2.2.2.1 s.2.2.1.2.2.2.2.1 xN0) i43) l1)) i43 (nA ((va_up (va_up s.2.2.1.2.2.2.2.2.1 s.2.2.1.2.2.2.2.1 xN0) i43 (nKind ((va_up s.2.2.1.2.2.2.2.2.1 s.2.2.1.2.2.2.2.1 xN0) i43) l1)) i43) 0)) i43 (nB ((va_up (va_up (va_up s.2.2.1.2.2.2.2.2.1 s.2.2.1.2.2.2.2.1 xN0) i43 (nKind ((va_up s.2.2.1.2.2.2.2.2.1 s.2.2.1.2.2.2.2.1 xN0) i43) l1)) i43 (nA ((va_up (va_up s.2.2.1.2.2.2.2.2.1 s.2.2.1.2.2.2.2.1 xN0) i43 (nKind ((va_up s.2.2.1.2.2.2.2.2.1 s.2.2.1.2.2.2.2.1 xN0) i43) l1)) i43) 0)) i43) 0)) i43 (nNumber ((va_up (va_up (va_up (va_up s.2.2.1.2.2.2.2.2.1 s.2.2.1.2.2.2.2.1 xN0) i43 (nKind ((va_up s.2.2.1.2.2.2.2.2.1 s.2.2.1.2.2.2.2.1 xN0) i43) l1)) i43 (nA ((va_up (va_up s.2.2.1.2.2.2.2.2.1 s.2.2.1.2.2.2.2.1 xN0) i43 (nKind ((va_up s.2.2.1.2.2.2.2.2.1 s.2.2.1.2.2.2.2.1 xN0) i43) l1)) i43) 0)) i43 (nB ((va_up (va_up (va_up s.2.2.1.2.2.2.2.2.1 s.2.2.1.2.2.2.2.1 xN0) i43 (nKind ((va_up s.2.2.1.2.2.2.2.2.1 s.2.2.1.2.2.2.2.1 xN0) i43) l1)) i43 (nA ((va_up (va_up s.2.2.1.2.2.2.2.2.1 s.2.2.1.2.2.2.2.1 xN0) i43 (nKind ((va_up s.2.2.1.2.2.2.2.2.1 s.2.2.1.2.2.2.2.1 xN0) i43) l1)) i43) 0)) i43) 0)) i43) 0)) i43) none)) i43) none)) i43) none)) i43) 0)), (s.2.2.1.2.2.2.2.2.2.1 + 1), (s.2.2.1.2.2.2.2.2.2.2 + 16)), s.2.2.2))) else none) (fun i40 => ((s.2.2.1.2.2.2.1 s.2.2.1.2.1 (s.2.2.1.1).toNatClampNeg)).bind fun i45 => if i45 < s.2.2.1.2.2.2.2.1 then (some (i45, (s.1, s.2.1, ((s.2.2.1.1 + 1), s.2.2.1.2.1, s.2.2.1.2.2.1, s.2.2.1.2.2.2.1, s.2.2.1.2.2.2.2.1, (va_up (va_up (va_up (va_up (va_up (va_up (va_up (va_up s.2.2.1.2.2.2.2.2.1 i45 (nKind (s.2.2.1.2.2.2.2.2.1 i45) l1)) i45 (nA ((va_up s.2.2.1.2.2.2.2.2.1 i45 (nKind (s.2.2.1.2.2.2.2.2.1 i45) l1)) i45) 0)) i45 (nB ((va_up (va_up s.2.2.1.2.2.2.2.2.1 i45 (nKind (s.2.2.1.2.2.2.2.2.1 i45) l1)) i45 (nA ((va_up s.2.2.1.2.2.2.2.2.1 i45 (nKind (s.2.2.1.2.2.2.2.2.1 i45) l1)) i45) 0)) i45) 0)) i45 (nNumber ((va_up (va_up (va_up s.2.2.1.2.2.2.2.2.1 i45 (nKind (s.2.2.1.2.2.2.2.2.1 i45) l1)) i45 (nA ((va_up s.2.2.1.2.2.2.2.2.1 i45 (nKind (s.2.2.1.2.2.2.2.2.1 i45) l1)) i45) 0)) i45 (nB ((va_up (va_up s.2.2.1.2.2.2.2.2.1 i45 (nKind (s.2.2.1.2.2.2.2.2.1 i45) l1)) i45 (nA ((va_up s.2.2.1.2.2.2.2.2.1 i45 (nKind (s.2.2.1.2.2.2.2.2.1 i45) l1)) i45) 0)) i45) 0)) i45) 0)) i45 (nFirst ((va_up (va_up (va_up (va_up s.2.2.1.2.2.2.2.2.1 i45 (nKind (s.2.2.1.2.2.2.2.2.1 i45) l1)) i45 (nA ((va_up s.2.2.1.2.2.2.2.2.1 i45 (nKind (s.2.2.1.2.2.2.2.2.1 i45) l1)) i45) 0)) i45 (nB ((va_up (va_up s.2.2.1.2.2.2.2.2.1 i45 (nKind (s.2.2.1.2.2.2.2.2.1 i45) l1)) i45 (nA ((va_up s.2.2.1.2.2.2.2.2.1 i45 (nKind (s.2.2.1.2.2.2.2.2.1 i45) l1)) i45) 0)) i45) 0)) i45 (nNumber ((va_up (va_up (va_up s.2.2.1.2.2.2.2.2.1 i45 (nKind (s.2.2.1.2.2.2.2.2.1 i45) l1)) i45 (nA ((va_up s.2.2.1.2.2.2.2.2.1 i45 (nKind (s.2.2.1.2.2.2.2.2.1 i45) l1)) i45) 0)) i45 (nB ((va_up (va_up s.2.2.1.2.2.2.2.2.1 i45 (nKind (s.2.2.1.2.2.2.2.2.1 i45) l1)) i45 (nA ((va_up s.2.2.1.2.2.2.2.2.1 i45 (nKind (s.2.2.1.2.2.2.2.2.1 i45) l1)) i45) 0)) i45) 0)) i45) 0)) i45) none)) i45 (nLast ((va_up (va_up (va_up (va_up (va_up s.2.2.1.2.2.2.2.2.1 i45 (nKind (s.2.2.1.2.2.2.2.2.1 i45) l1)) i45 (nA ((va_up s.2.2.1.2.2.2.2.2.1 i45 (nKind (s.2.2.1.2.2.2.2.2.1 i45) l1)) i45) 0)) i45 (nB ((va_up (va_up s.2.2.1.2.2.2.2.2.1 i45 (nKind (s.2.2.1.2.2.2.2.2.1 i45) l1)) i45 (nA ((va_up s.2.2.1.2.2.2.2.2.1 i45 (nKind (s.2.2.1.2.2.2.2.2.1 i45) l1)) i45) 0)) i45) 0)) i45 (nNumber ((va_up (va_up (va_up s.2.2.1.2.2.2.2.2.1 i45 (nKind (s.2.2.1.2.2.2.2.2.1 i45) l1)) i45 (nA ((va_up s.2.2.1.2.2.2.2.2.1 i45 (nKind (s.2.2.1.2.2.2.2.2.1 i45) l1)) i45) 0)) i45 (nB ((va_up (va_up s.2.2.1.2.2.2.2.2.1 i45 (nKind (s.2.2.1.2.2.2.2.2.1 i45) l1)) i45 (nA ((va_up s.2.2.1.2.2.2.2.2.1 i45 (nKind (s.2.2.1.2.2.2.2.2.1 i45) l1)) i45) 0)) i45) 0)) i45) 0)) i45 (nFirst ((va_up (va_up (va_up (va_up s.2.2.1.2.2.2.2.2.1 i45 (nKind (s.2.2.1.2.2.2.2.2.1 i45) l1)) i45 (nA ((va_up s.2.2.1.2.2.2.2.2.1 i45 (nKind (s.2.2.1.2.2.2.2.2.1 i45) l1)) i45) 0)) i45 (nB ((va_up (va_up s.2.2.1.2.2.2.2.2.1 i45 (nKind (s.2.2.1.2.2.2.2.2.1 i45) l1)) i45 (nA ((va_up s.2.2.1.2.2.2.2.2.1 i45 (nKind (s.2.2.1.2.2.2.2.2.1 i45) l1)) i45) 0)) i45) 0)) i45 (nNumber ((va_up (va_up (va_up s.2.2.1.2.2.2.2.2.1 i45 (nKind (s.2.2.1.2.2.2.2.2.1 i45) l1)) i45 (nA ((va_up s.2.2.1.2.2.2.2.2.1 i45 (nKind (s.2.2.1.2.2.2.2.2.1 i45) l1)) i45) 0)) i45 (nB ((va_up (va_up s.2.2.1.2.2.2.2.2.1 i45 (nKind (s.2.2.1.2.2.2.2.2.1 i45) l1)) i45 (nA ((va_up s.2.2.1.2.2.2.2.2.1 i45 (nKind (s.2.2.1.2.2.2.2.2.1 i45) l1)) i45) 0)) i45) 0)) i45) 0)) i45) none)) i45) none)) i45 (nNext ((va_up (va_up (va_up (va_up (va_up (va_up s.2.2.1.2.2.2.2.2.1 i45 (nKind (s.2.2.1.2.2.2.2.2.1 i45) l1)) i45 (nA ((va_up s.2.2.1.2.2.2.2.2.1 i45 (nKind (s.2.2.1.2.2.2.2.2.1 i45) l1)) i45) 0)) i45 (nB ((va_up (va_up s.2.2.1.2.2.2.2.2.1 i45 (nKind (s.2.2.1.2.2.2.2.2.1 i45) l1)) i45 (nA ((va_up s.2.2.1.2.2.2.2.2.1 i45 (nKind (s.2.2.1.2.2.2.2.2.1 i45) l1)) i45) 0)) i45) 0)) i45 (nNumber ((va_up (va_up (va_up s.2.2.1.2.2.2.2.2.1 i45 (nKind (s.2.2.1.2.2.2.2.2.1 i45) l1)) i45 (nA ((va_up s.2.2.1.2.2.2.2.2.1 i45 (nKind (s.2.2.1.2.2.2.2.2.1 i45) l1)) i45) 0)) i45 (nB ((va_up (va_up s.2.2.1.2.2.2.2.2.1 i45 (nKind (s.2.2.1.2.2.2.2.2.1 i45) l1)) i45 (nA ((va_up s.2.2.1.2.2.2.2.2.1 i45 (nKind (s.2.2.1.2.2.2.2.2.1 i45) l1)) i45) 0)) i45) 0)) i45) 0)) i45 (nFirst ((va_up (va_up (va_up (va_up s.2.2.1.2.2.2.2.2.1 i45 (nKind (s.2.2.1.2.2.2.2.2.1 i45) l1)) i45 (nA ((va_up s.2.2.1.2.2.2.2.2.1 i45 (nKind (s.2.2.1.2.2.2.2.2.1 i45) l1)) i45) 0)) i45 (nB ((va_up (va_up s.2.2.1.2.2.2.2.2.1 i45 (nKind (s.2.2.1.2.2.2.2.2.1 i45) l1)) i45 (nA ((va_up s.2.2.1.2.2.2.2.2.1 i45 (nKind (s.2.2.1.2.2.2.2.2.1 i45) l1)) i45) 0)) i45) 0)) i45 (nNumber ((va_up (va_up (va_up s.2.2.1.2.2.2.2.2.1 i45 (nKind (s.2.2.1.2.2.2.2.2.1 i45) l1)) i45 (nA ((va_up s.2.2.1.2.2.2.2.2.1 i45 (nKind (s.2.2.1.2.2.2.2.2.1 i45) l1)) i45) 0)) i45 (nB ((va_up (va_up s.2.2.1.2.2.2.2.2.1 i45 (nKind (s.2.2.1.2.2.2.2.2.1 i45) l1)) i45 (nA ((va_up s.2.2.1.2.2.2.2.2.1 i45 (nKind (s.2.2.1.2.2.2.2.2.1 i45) l1)) i45) 0)) i45) 0)) i45) 0)) i45) none)) i45 (nLast ((va_up (va_up (va_up (va_up (va_up s.2.2.1.2.2.2.2.2.1 i45 (nKind (s.2.2.1.2.2.2.2.2.1 i45) l1)) i45 (nA ((va_up s.2.2.1.2.2.2.2.2.1 i45 (nKind (s.2.2.1.2.2.2.2.2.1 i45) l1)) i45) 0)) i45 (nB ((va_up (va_up s.2.2.1.2.2.2.2.2.1 i45 (nKind (s.2.2.1.2.2.2.2.2.1 i45) l1)) i45 (nA ((va_up s.2.2.1.2.2.2.2.2.1 i45 (nKind (s.2.2.1.2.2.2.2.2.1 i45) l1)) i45) 0)) i45) 0)) i45 (nNumber ((va_up (va_up (va_up s.2.2.1.2.2.2.2.2.1 i45 (nKind (s.2.2.1.2.2.2.2.2.1 i45) l1)) i45 (nA ((va_up s.2.2.1.2.2.2.2.2.1 i45 (nKind (s.2.2.1.2.2.2.2.2.1 i45) l1)) i45) 0)) i45 (nB ((va_up (va_up s.2.2.1.2.2.2.2.2.1 i45 (nKind (s.2.2.1.2.2.2.2.2.1 i45) l1)) i45 (nA ((va_up s.2.2.1.2.2.2.2.2.1 i45 (nKind (s.2.2.1.2.2.2.2.2.1 i45) l1)) i45) 0)) i45) 0)) i45) 0)) i45 (nFirst ((va_up (va_up (va_up (va_up s.2.2.1.2.2.2.2.2.1 i45 (nKind (s.2.2.1.2.2.2.2.2.1 i45) l1)) i45 (nA ((va_up s.2.2.1.2.2.2.2.2.1 i45 (nKind (s.2.2.1.2.2.2.2.2.1 i45) l1)) i45) 0)) i45 (nB ((va_up (va_up s.2.2.1.2.2.2.2.2.1 i45 (nKind (s.2.2.1.2.2.2.2.2.1 i45) l1)) i45 (nA ((va_up s.2.2.1.2.2.2.2.2.1 i45 (nKind (s.2.2.1.2.2.2.2.2.1 i45) l1)) i45) 0)) i45) 0)) i45 (nNumber ((va_up (va_up (va_up s.2.2.1.2.2.2.2.2.1 i45 (nKind (s.2.2.1.2.2.2.2.2.1 i45) l1)) i45 (nA ((va_up s.2.2.1.2.2.2.2.2.1 i45 (nKind (s.2.2.1.2.2.2.2.2.1 i45) l1)) i45) 0)) i45 (nB ((va_up (va_up s.2.2.1.2.2.2.2.2.1 i45 (nKind (s.2.2.1.2.2.2.2.2.1 i45) l1)) i45 (nA ((va_up s.2.2.1.2.2.2.2.2.1 i45 (nKind (s.2.2.1.2.2.2.2.2.1 i45) l1)) i45) 0)) i45) 0)) i45) 0)) i45) none)) i45) none)) i45) none)) i45 (nCount ((va_up (va_up (va_up (va_up (va_up (va_up (va_up s.2.2.1.2.2.2.2.2.1 i45 (nKind (s.2.2.1.2.2.2.2.2.1 i45) l1)) i45 (nA ((va_up s.2.2.1.2.2.2.2.2.1 i45 (nKind (s.2.2.1.2.2.2.2.2.1 i45) l1)) i45) 0)) i45 (nB ((va_up (va_up s.2.2.1.2.2.2.2.2.1 i45 (nKind (s.2.2.1.2.2.2.2.2.1 i45) l1)) i45 (nA ((va_up s.2.2.1.2.2.2.2.2.1 i45 (nKind (s.2.2.1.2.2.2.2.2.1 i45) l1)) i45) 0)) i45) 0)) i45 (nNumber ((va_up (va_up (va_up s.2.2.1.2.2.2.2.2.1 i45 (nKind (s.2.2.1.2.2.2.2.2.1 i45) l1)) i45 (nA ((va_up s.2.2.1.2.2.2.2.2.1 i45 (nKind (s.2.2.1.2.2.2.2.2.1 i45) l1)) i45) 0)) i45 (nB ((va_up (va_up s.2.2.1.2.2.2.2.2.1 i45 (nKind (s.2.2.1.2.2.2.2.2.1 i45) l1)) i45 (nA ((va_up s.2.2.1.2.2.2.2.2.1 i45 (nKind (s.2.2.1.2.2.2.2.2.1 i45) l1)) i45) 0)) i45) 0)) i45) 0)) i45 (nFirst ((va_up (va_up (va_up (va_up s.2.2.1.2.2.2.2.2.1 i45 (nKind (s.2.2.1.2.2.2.2.2.1 i45) l1)) i45 (nA ((va_up s.2.2.1.2.2.2.2.2.1 i45 (nKind (s.2.2.1.2.2.2.2.2.1 i45) l1)) i45) 0)) i45 (nB ((va_up (va_up s.2.2.1.2.2.2.2.2.1 i45 (nKind (s.2.2.1.2.2.2.2.2.1 i45) l1)) i45 (nA ((va_up s.2.2.1.2.2.2.2.2.1 i45 (nKind (s.2.2.1.2.2.2.2.2.1 i45) l1)) i45) 0)) i45) 0)) i45 (nNumber ((va_up (va_up (va_up s.2.2.1.2.2.2.2.2.1 i45 (nKind (s.2.2.1.2.2.2.2.2.1 i45) l1)) i45 (nA ((va_up s.2.2.1.2.2.2.2.2.1 i45 (nKind (s.2.2.1.2.2.2.2.2.1 i45) l1)) i45) 0)) i45 (nB ((va_up (va_up s.2.2.1.2.2.2.2.2.1 i45 (nKind (s.2.2.1.2.2.2.2.2.1 i45) l1)) i45 (nA ((va_up s.2.2.1.2.2.2.2.2.1 i45 (nKind (s.2.2.1.2.2.2.2.2.1 i45) l1)) i45) 0)) i45) 0)) i45) 0)) i45) none)) i45 (nLast ((va_up (va_up (va_up (va_up (va_up s.2.2.1.2.2.2.2.2.1 i45 (nKind (s.2.2.1.2.2.2.2.2.1 i45) l1)) i45 (nA ((va_up s.2.2.1.2.2.2.2.2.1 i45 (nKind (s.2.2.1.2.2.2.2.2.1 i45) l1)) i45) 0)) i45 (nB ((va_up (va_up s.2.2.1.2.2.2.2.2.1 i45 (nKind (s.2.2.1.2.2.2.2.2.1 i45) l1)) i45 (nA ((va_up s.2.2.1.2.2.2.2.2.1 i45 (nKind (s.2.2.1.2.2.2.2.2.1 i45) l1)) i45) 0)) i45) 0)) i45 (nNumber ((va_up (va_up (va_up s.2.2.1.2.2.2.2.2.1 i45 (nKind (s.2.2.1.2.2.2.2.2.1 i45) l1)) i45 (nA ((va_up s.2.2.1.2.2.2.2.2.1 i45 (nKind (s.2.2.1.2.2.2.2.2.1 i45) l1)) i45) 0)) i45 (nB ((va_up (va_up s.2.2.1.2.2.2.2.2.1 i45 (nKind (s.2.2.1.2.2.2.2.2.1 i45) l1)) i45 (nA ((va_up s.2.2.1.2.2.2.2.2.1 i45 (nKind (s.2.2.1.2.2.2.2.2.1 i45) l1)) i45) 0)) i45) 0)) i45) 0)) i45 (nFirst ((va_up (va_up (va_up (va_up s.2.2.1.2.2.2.2.2.1 i45 (nKind (s.2.2.1.2.2.2.2.2.1 i45) l1)) i45 (nA ((va_up s.2.2.1.2.2.2.2.2.1 i45 (nKind (s.2.2.1.2.2.2.2.2.1 i45) l1)) i45) 0)) i45 (nB ((va_up (va_up s.2.2.1.2.2.2.2.2.1 i45 (nKind (s.2.2.1.2.2.2.2.2.1 i45) l1)) i45 (nA ((va_up s.2.2.1.2.2.2.2.2.1 i45 (nKind (s.2.2.1.2.2.2.2.2.1 i45) l1)) i45) 0)) i45) 0)) i45 (nNumber ((va_up (va_up (va_up s.2.2.1.2.2.2.2.2.1 i45 (nKind (s.2.2.1.2.2.2.2.2.1 i45) l1)) i45 (nA ((va_up s.2.2.1.2.2.2.2.2.1 i45 (nKind (s.2.2.1.2.2.2.2.2.1 i45) l1)) i45) 0)) i45 (nB ((va_up (va_up s.2.2.1.2.2.2.2.2.1 i45 (nKind (s.2.2.1.2.2.2.2.2.1 i45) l1)) i45 (nA ((va_up s.2.2.1.2.2.2.2.2.1 i45 (nKind (s.2.2.1.2.2.2.2.2.1 i45) l1)) i45) 0)) i45) 0)) i45) 0)) i45) none)) i45) none)) i45 (nNext ((va_up (va_up (va_up (va_up (va_up (va_up s.2.2.1.2.2.2.2.2.1 i45 (nKind (s.2.2.1.2.2.2.2.2.1 i45) l1)) i45 (nA ((va_up s.2.2.1.2.2.2.2.2.1 i45 (nKind (s.2.2.1.2.2.2.2.2.1 i45) l1)) i45) 0)) i45 (nB ((va_up (va_up s.2.2.1.2.2.2.2.2.1 i45 (nKind (s.2.2.1.2.2.2.2.2.1 i45) l1)) i45 (nA ((va_up s.2.2.1.2.2.2.2.2.1 i45 (nKind (s.2.2.1.2.2.2.2.2.1 i45) l1)) i45) 0)) i45) 0)) i45 (nNumber ((va_up (va_up (va_up s.2.2.1.2.2.2.2.2.1 i45 (nKind (s.2.2.1.2.2.2.2.2.1 i45) l1)) i45 (nA ((va_up s.2.2.1.2.2.2.2.2.1 i45 (nKind (s.2.2.1.2.2.2.2.2.1 i45) l1)) i45) 0)) i45 (nB ((va_up (va_up s.2.2.1.2.2.2.2.2.1 i45 (nKind (s.2.2.1.2.2.2.2.2.1 i45) l1)) i45 (nA ((va_up s.2.2.1.2.2.2.2.2.1 i45 (nKind (s.2.2.1.2.2.2.2.2.1 i45) l1)) i45) 0)) i45) 0)) i45) 0)) i45 (nFirst ((va_up (va_up (va_up (va_up s.2.2.1.2.2.2.2.2.1 i45 (nKind (s.2.2.1.2.2.2.2.2.1 i45) l1)) i45 (nA ((va_up s.2.2.1.2.2.2.2.2.1 i45 (nKind (s.2.2.1.2.2.2.2.2.1 i45) l1)) i45) 0)) i45 (nB ((va_up (va_up s.2.2.1.2.2.2.2.2.1 i45 (nKind (s.2.2.1.2.2.2.2.2.1 i45) l1)) i45 (nA ((va_up s.2.2.1.2.2.2.2.2.1 i45 (nKind (s.2.2.1.2.2.2.2.2.1 i45) l1)) i45) 0)) i45) 0)) i45 (nNumber ((va_up (va_up (va_up s.2.2.1.2.2.2.2.2.1 i45 (nKind (s.2.2.1.2.2.2.2.2.1 i45) l1)) i45 (nA ((va_up s.2.2.1.2.2.2.2.2.1 i45 (nKind (s.2.2.1.2.2.2.2.2.1 i45) l1)) i45) 0)) i45 (nB ((va_up (va_up s.2.2.1.2.2.2.2.2.1 i45 (nKind (s.2.2.1.2.2.2.2.2.1 i45) l1)) i45 (nA ((va_up s.2.2.1.2.2.2.2.2.1 i45 (nKind (s.2.2.1.2.2.2.2.2.1 i45) l1)) i45) 0)) i45) 0)) i45) 0)) i45) none)) i45 (nLast ((va_up (va_up (va_up (va_up (va_up s.2.2.1.2.2.2.2.2.1 i45 (nKind (s.2.2.1.2.2.2.2.2.1 i45) l1)) i45 (nA ((va_up s.2.2.1.2.2.2.2.2.1 i45 (nKind (s.2.2.1.2.2.2.2.2.1 i45) l1)) i45) 0)) i45 (nB ((va_up (va_up s.2.2.1.2.2.2.2.2.1 i45 (nKind (s.2.2.1.2.2.2.2.2.1 i45) l1)) i45 (nA ((va_up s.2.2.1.2.2.2.2.2.1 i45 (nKind (s.2.2.1.2.2.2.2.2.1 i45) l1)) i45) 0)) i45) 0)) i45 (nNumber ((va_up (va_up (va_up s.2.2.1.2.2.2.2.2.1 i45 (nKind (s.2.2.1.2.2.2.2.2.1 i45) l1)) i45 (nA ((va_up s.2.2.1.2.2.2.2.2.1 i45 (nKind (s.2.2.1.2.2.2.2.2.1 i45) l1)) i45) 0)) i45 (nB ((va_up (va_up s.2.2.1.2.2.2.2.2.1 i45 (nKind (s.2.2.1.2.2.2.2.2.1 i45) l1)) i45 (nA ((va_up s.2.2.1.2.2.2.2.2.1 i45 (nKind (s.2.2.1.2.2.2.2.2.1 i45) l1)) i45) 0)) i45) 0)) i45) 0)) i45 (nFirst ((va_up (va_up (va_up (va_up s.2.2.1.2.2.2.2.2.1 i45 (nKind (s.2.2.1.2.2.2.2.2.1 i45) l1)) i45 (nA ((va_up s.2.2.1.2.2.2.2.2.1 i45 (nKind (s.2.2.1.2.2.2.2.2.1 i45) l1)) i45) 0)) i45 (nB ((va_up (va_up s.2.2.1.2.2.2.2.2.1 i45 (nKind (s.2.2.1.2.2.2.2.2.1 i45) l1)) i45 (nA ((va_up s.2.2.1.2.2.2.2.2.1 i45 (nKind (s.2.2.1.2.2.2.2.2.1 i45) l1)) i45) 0)) i45) 0)) i45 (nNumber ((va_up (va_up (va_up s.2.2.1.2.2.2.2.2.1 i45 (nKind (s.2.2.1.2.2.2.2.2.1 i45) l1)) i45 (nA ((va_up s.2.2.1.2.2.2.2.2.1 i45 (nKind (s.2.2.1.2.2.2.2.2.1 i45) l1)) i45) 0)) i45 (nB ((va_up (va_up s.2.2.1.2.2.2.2.2.1 i45 (nKind (s.2.2.1.2.2.2.2.2.1 i45) l1)) i45 (nA ((va_up s.2.2.1.2.2.2.2.2.1 i45 (nKind (s.2.2.1.2.2.2.2.2.1 i45) l1)) i45) 0)) i45) 0)) i45) 0)) i45) none)) i45) none)) i45) none)) i45) 0)), s.2.2.1.2.2.2.2.2.2), s.2.2.2))) else none)) else none
def FM_node_24 : Nat → Int32 → Nat → Int32 → xMs → Option (Nat × xMs)
  | 0, _, _, _, _ => none
  | fu + 1, l1, l2, l3, s => if s.2.2.1.1 ≤ l3 then (FM_node_52 l1 (s.1, s.2.1, (s.2.2.1.1, l2, s.2.2.1.2.2), s.2.2.2)) else (if (0 ≤ l3 ∧ l3 < nI (256 * 2 ^ s.2.2.1.2.1)) ∧ s.2.2.1.2.1 < s.2.2.1.2.2.1 ∧ s.2.2.1.2.1 < 8 then (((s.2.2.1.2.2.2.1 s.2.2.1.2.1 (l3).toNatClampNeg)).bind fun i51 => if i51 < s.2.2.1.2.2.2.2.1 then (if (0 ≤ l3 ∧ l3 < nI (256 * 2 ^ l2)) ∧ l2 < s.2.2.1.2.2.1 ∧ l2 < 8 then (FM_node_24 fu l1 l2 (l3 + 1) (s.1, s.2.1, (s.2.2.1.1, s.2.2.1.2.1, s.2.2.1.2.2.1, (va_up s.2.2.1.2.2.2.1 l2 (va_up (s.2.2.1.2.2.2.1 l2) (l3).toNatClampNeg (some i51))), s.2.2.1.2.2.2.2), s.2.2.2)) else none) else none) else none)
/-- FormulaShaperModel.node -/
def FM_node (x0 : Int32) (s : xMs) : Option (Nat × xMs) := if s.2.2.1.2.1 < s.2.2.1.2.2.1 then (if s.2.2.1.1 = (nI (256 * 2 ^ s.2.2.1.2.1)) then (if (2 * s.2.2.1.1) = nI (256 * 2 ^ s.2.2.1.2.2.1) ∧ s.2.2.1.2.2.1 < 8 then (FM_node_24 xFuel x0 s.2.2.1.2.2.1 0 (s.1, s.2.1, (s.2.2.1.1, s.2.2.1.2.1, (s.2.2.1.2.2.1 + 1), (va_up s.2.2.1.2.2.2.1 s.2.2.1.2.2.1 (fun _ => none)), s.2.2.1.2.2.2.2.1, s.2.2.1.2.2.2.2.2.1, (s.2.2.1.2.2.2.2.2.2.1 + 1), (s.2.2.1.2.2.2.2.2.2.2 + 256 * 2 ^ s.2.2.1.2.2.1)), s.2.2.2)) else none) else (FM_node_52 x0 s)) else none
set_option maxRecDepth 20000 in
theorem CM_node_52 {w : xw_G} {h : xw_H} (hb : xMb h)  {l1 : Int32} {s : xMs} {out : (Nat × xMs)} {h0 : xw_H} {m0 n0 : Nat} (hm : m0 ≤ s.2.2.1.2.2.2.2.2.2.1 ∧ n0 ≤ s.2.2.1.2.2.2.2.2.2.2) (hF : FM_node_52 l1 s = some out) : xw_Y w mM_node 2 60 (xw_R (some (.ref (xn out.1))) (mV out.2 h)) h0 m0 n0 s.2.2.1.2.2.2.2.2.2.1 s.2.2.1.2.2.2.2.2.2.2 out.2.2.2.1.2.2.2.2.2.2.1 out.2.2.2.1.2.2.2.2.2.2.2 52 [some (.ref 2000), some (.int l1), none, none] [] (mV s h) := by
  unfold FM_node_52 at hF
  refine xy_r (xw_aload_n dM_node_52 rfl) ?_
  refine xy_r (xw_get dM_node_53 fM_25 rfl rfl) ?_
  refine xy_r (xw_aload_n dM_node_56 rfl) ?_
  refine xy_r (xw_get dM_node_57 fM_188 rfl rfl) ?_
  obtain ⟨g39, hF⟩ := xg_g hF
  refine xy_r (xg_naload g39.1 (xlev g39.2.2) dM_node_60 (mV_d g39.2.1)) ?_
  rcases xg_m hF with ⟨ei40, hF⟩ | ⟨i40, ei40, hF⟩
  · refine xy_r (xw_Sn (st' := [.null]) (by first | (rw [ei40]; done) | (rw [ei40]; rfl))) ?_
    refine xy_r (xw_ifnonnull_n dM_node_61) ?_
    refine xy_r (xw_aload_n dM_node_64 rfl) ?_
    refine xy_r (xw_get dM_node_65 fM_25 rfl rfl) ?_
    refine xy_r (xw_aload_n dM_node_68 rfl) ?_
    refine xy_r (xw_get dM_node_69 fM_188 rfl rfl) ?_
    refine xy_new (xn s.2.2.1.2.2.2.2.1) (fun _ => rfl) (fun _ => dM_node_72) (fun _ => nM_23) (mV_nf hb) (xn_le _) hm (mV_nn (q := xN0) (k := (s.2.2.1.2.2.2.2.2.2.1 + 1)) (m := (s.2.2.1.2.2.2.2.2.2.2 + 16))) ?_
    have hm41 : m0 ≤ (s.2.2.1.2.2.2.2.2.2.1 + 1) ∧ n0 ≤ (s.2.2.1.2.2.2.2.2.2.2 + 16) := ⟨by omega, by omega⟩
    have g42 : s.2.2.1.2.2.2.2.1 < (s.2.2.1.2.2.2.2.1 + 1) := by omega
    refine xy_r (xw_dup_r dM_node_75) ?_
    refine xy_q (fun hq => xg_N0 (k1 := _) (n1 := _) (CN_init (a := xn s.2.2.1.2.2.2.2.1) w) rfl rfl rfl dM_node_76 (nM_191 _) ⟨Nat.le_of_ble_eq_true rfl, Nat.le_of_ble_eq_true rfl⟩ rfl rfl (Nat.le_of_ble_eq_true rfl) (Nat.le_refl _) (Nat.le_refl _) (Nat.sub_le_sub_right hq.1 _) (Nat.sub_le_sub_right hq.2 _)) ?_
    refine xy_r (xg_nastore (f := (s.2.2.1.2.2.2.1 s.2.2.1.2.1)) g39.1 (xlev g39.2.2) dM_node_79 (mV_d g39.2.1) (xna_le _) (mV_n g42) (mV_pd g39.2.1)) ?_
    refine xy_r (xw_aload_n dM_node_80 rfl) ?_
    refine xy_r (xw_get dM_node_81 fM_25 rfl rfl) ?_
    refine xy_r (xw_aload_n dM_node_84 rfl) ?_
    refine xy_r (xw_get dM_node_85 fM_188 rfl rfl) ?_
    refine xy_r (xg_naload g39.1 (xlev g39.2.2) dM_node_88 (mV_d g39.2.1)) ?_
    refine xy_r (xg_astore_n dM_node_89 (Nat.le_of_ble_eq_true rfl)) ?_
    refine xy_r (xw_Ln (L' := [some (.ref 2000), some (.int l1), some (xw_rf ((va_up s.2.2.1.2.2.2.1 s.2.2.1.2.1 (va_up (s.2.2.1.2.2.2.1 s.2.2.1.2.1) (s.2.2.1.1).toNatClampNeg (some s.2.2.1.2.2.2.2.1))) s.2.2.1.2.1 (s.2.2.1.1).toNatClampNeg)), none]) rfl) ?_
    refine xy_r (xw_aload_n dM_node_90 rfl) ?_
    refine xy_r (xw_dup_r dM_node_91) ?_
    refine xy_r (xw_get dM_node_92 fM_188 rfl rfl) ?_
    refine xy_r (xw_iconst (1) dM_node_95 (by decide)) ?_
    refine xy_r (xw_iadd dM_node_96) ?_
    refine xy_r (xg_put dM_node_97 fM_188 rfl (by decide) (Nat.le_of_ble_eq_true rfl) (fun _ => rfl) (fun _ => rfl) (mV_o (s' := (s.1, s.2.1, ((s.2.2.1.1 + 1), s.2.2.1.2.1, s.2.2.1.2.2.1, (va_up s.2.2.1.2.2.2.1 s.2.2.1.2.1 (va_up (s.2.2.1.2.2.2.1 s.2.2.1.2.1) (s.2.2.1.1).toNatClampNeg (some s.2.2.1.2.2.2.2.1))), (s.2.2.1.2.2.2.2.1 + 1), (va_up s.2.2.1.2.2.2.2.2.1 s.2.2.1.2.2.2.2.1 xN0), (s.2.2.1.2.2.2.2.2.2.1 + 1), (s.2.2.1.2.2.2.2.2.2.2 + 16)), s.2.2.2)) rfl)) ?_
    refine xy_r (xg_aload_n dM_node_100 rfl) ?_
    refine xy_r (xw_iload_n dM_node_101 rfl) ?_
    obtain ⟨i43, ei43, hF⟩ := xg_b hF
    refine xy_r (xw_Ln (L' := [some (.ref 2000), some (.int l1), some (.ref (xn i43)), none]) (by first | (rw [ei43]; done) | (rw [ei43]; rfl))) ?_
    refine xy_r (xw_Sn (st' := [.int l1, .ref (xn i43)]) (by first | (rw [ei43]; done) | (rw [ei43]; rfl))) ?_
    obtain ⟨g44, hF⟩ := xg_g hF
    refine xy_r (xg_put dM_node_102 fM_192 (mV_n g44) (xn_le _) (Nat.le_of_ble_eq_true rfl) (fun _ => rfl) (fun _ => rfl) (mV_pn (q := (nKind ((va_up s.2.2.1.2.2.2.2.2.1 s.2.2.1.2.2.2.2.1 xN0) i43) l1)) g44)) ?_
    refine xy_r (xw_aload_n dM_node_105 rfl) ?_
    refine xy_r (xw_iconst (0) dM_node_106 (by decide)) ?_
    refine xy_r (xg_put dM_node_107 fM_195 (mV_n g44) (xn_le _) (Nat.le_of_ble_eq_true rfl) (fun _ => rfl) (fun _ => rfl) (mV_pn (q := (nA ((va_up (va_up s.2.2.1.2.2.2.2.2.1 s.2.2.1.2.2.2.2.1 xN0) i43 (nKind ((va_up s.2.2.1.2.2.2.2.2.1 s.2.2.1.2.2.2.2.1 xN0) i43) l1)) i43) 0)) g44)) ?_
    refine xy_r (xw_aload_n dM_node_110 rfl) ?_
    refine xy_r (xw_iconst (0) dM_node_111 (by decide)) ?_
    refine xy_r (xg_put dM_node_112 fM_198 (mV_n g44) (xn_le _) (Nat.le_of_ble_eq_true rfl) (fun _ => rfl) (fun _ => rfl) (mV_pn (q := (nB ((va_up (va_up (va_up s.2.2.1.2.2.2.2.2.1 s.2.2.1.2.2.2.2.1 xN0) i43 (nKind ((va_up s.2.2.1.2.2.2.2.2.1 s.2.2.1.2.2.2.2.1 xN0) i43) l1)) i43 (nA ((va_up (va_up s.2.2.1.2.2.2.2.2.1 s.2.2.1.2.2.2.2.1 xN0) i43 (nKind ((va_up s.2.2.1.2.2.2.2.2.1 s.2.2.1.2.2.2.2.1 xN0) i43) l1)) i43) 0)) i43) 0)) g44)) ?_
    refine xy_r (xw_aload_n dM_node_115 rfl) ?_
    refine xy_r (xw_lconst (0) dM_node_116 (by decide)) ?_
    refine xy_r (xg_put dM_node_117 fM_201 (mV_n g44) (xn_le _) (Nat.le_of_ble_eq_true rfl) (fun _ => rfl) (fun _ => rfl) (mV_pn (q := (nNumber ((va_up (va_up (va_up (va_up s.2.2.1.2.2.2.2.2.1 s.2.2.1.2.2.2.2.1 xN0) i43 (nKind ((va_up s.2.2.1.2.2.2.2.2.1 s.2.2.1.2.2.2.2.1 xN0) i43) l1)) i43 (nA ((va_up (va_up s.2.2.1.2.2.2.2.2.1 s.2.2.1.2.2.2.2.1 xN0) i43 (nKind ((va_up s.2.2.1.2.2.2.2.2.1 s.2.2.1.2.2.2.2.1 xN0) i43) l1)) i43) 0)) i43 (nB ((va_up (va_up (va_up s.2.2.1.2.2.2.2.2.1 s.2.2.1.2.2.2.2.1 xN0) i43 (nKind ((va_up s.2.2.1.2.2.2.2.2.1 s.2.2.1.2.2.2.2.1 xN0) i43) l1)) i43 (nA ((va_up (va_up s.2.2.1.2.2.2.2.2.1 s.2.2.1.2.2.2.2.1 xN0) i43 (nKind ((va_up s.2.2.1.2.2.2.2.2.1 s.2.2.1.2.2.2.2.1 xN0) i43) l1)) i43) 0)) i43) 0)) i43) 0)) g44)) ?_
    refine xy_r (xw_aload_n dM_node_120 rfl) ?_
    refine xy_r (xw_null dM_node_121) ?_
    refine xy_r (xg_put dM_node_122 fM_205 (mV_n g44) (xn_le _) (Nat.le_of_ble_eq_true rfl) (fun _ => rfl) (fun _ => rfl) (mV_pn (q := (nFirst ((va_up (va_up (va_up (va_up (va_up s.2.2.1.2.2.2.2.2.1 s.2.2.1.2.2.2.2.1 xN0) i43 (nKind ((va_up s.2.2.1.2.2.2.2.2.1 s.2.2.1.2.2.2.2.1 xN0) i43) l1)) i43 (nA ((va_up (va_up s.2.2.1.2.2.2.2.2.1 s.2.2.1.2.2.2.2.1 xN0) i43 (nKind ((va_up s.2.2.1.2.2.2.2.2.1 s.2.2.1.2.2.2.2.1 xN0) i43) l1)) i43) 0)) i43 (nB ((va_up (va_up (va_up s.2.2.1.2.2.2.2.2.1 s.2.2.1.2.2.2.2.1 xN0) i43 (nKind ((va_up s.2.2.1.2.2.2.2.2.1 s.2.2.1.2.2.2.2.1 xN0) i43) l1)) i43 (nA ((va_up (va_up s.2.2.1.2.2.2.2.2.1 s.2.2.1.2.2.2.2.1 xN0) i43 (nKind ((va_up s.2.2.1.2.2.2.2.2.1 s.2.2.1.2.2.2.2.1 xN0) i43) l1)) i43) 0)) i43) 0)) i43 (nNumber ((va_up (va_up (va_up (va_up s.2.2.1.2.2.2.2.2.1 s.2.2.1.2.2.2.2.1 xN0) i43 (nKind ((va_up s.2.2.1.2.2.2.2.2.1 s.2.2.1.2.2.2.2.1 xN0) i43) l1)) i43 (nA ((va_up (va_up s.2.2.1.2.2.2.2.2.1 s.2.2.1.2.2.2.2.1 xN0) i43 (nKind ((va_up s.2.2.1.2.2.2.2.2.1 s.2.2.1.2.2.2.2.1 xN0) i43) l1)) i43) 0)) i43 (nB ((va_up (va_up (va_up s.2.2.1.2.2.2.2.2.1 s.2.2.1.2.2.2.2.1 xN0) i43 (nKind ((va_up s.2.2.1.2.2.2.2.2.1 s.2.2.1.2.2.2.2.1 xN0) i43) l1)) i43 (nA ((va_up (va_up s.2.2.1.2.2.2.2.2.1 s.2.2.1.2.2.2.2.1 xN0) i43 (nKind ((va_up s.2.2.1.2.2.2.2.2.1 s.2.2.1.2.2.2.2.1 xN0) i43) l1)) i43) 0)) i43) 0)) i43) 0)) i43) none)) g44)) ?_
    refine xy_r (xw_aload_n dM_node_125 rfl) ?_
    refine xy_r (xw_null dM_node_126) ?_
    refine xy_r (xg_put dM_node_127 fM_209 (mV_n g44) (xn_le _) (Nat.le_of_ble_eq_true rfl) (fun _ => rfl) (fun _ => rfl) (mV_pn (q := (nLast ((va_up (va_up (va_up (va_up (va_up (va_up s.2.2.1.2.2.2.2.2.1 s.2.2.1.2.2.2.2.1 xN0) i43 (nKind ((va_up s.2.2.1.2.2.2.2.2.1 s.2.2.1.2.2.2.2.1 xN0) i43) l1)) i43 (nA ((va_up (va_up s.2.2.1.2.2.2.2.2.1 s.2.2.1.2.2.2.2.1 xN0) i43 (nKind ((va_up s.2.2.1.2.2.2.2.2.1 s.2.2.1.2.2.2.2.1 xN0) i43) l1)) i43) 0)) i43 (nB ((va_up (va_up (va_up s.2.2.1.2.2.2.2.2.1 s.2.2.1.2.2.2.2.1 xN0) i43 (nKind ((va_up s.2.2.1.2.2.2.2.2.1 s.2.2.1.2.2.2.2.1 xN0) i43) l1)) i43 (nA ((va_up (va_up s.2.2.1.2.2.2.2.2.1 s.2.2.1.2.2.2.2.1 xN0) i43 (nKind ((va_up s.2.2.1.2.2.2.2.2.1 s.2.2.1.2.2.2.2.1 xN0) i43) l1)) i43) 0)) i43) 0)) i43 (nNumber ((va_up (va_up (va_up (va_up s.2.2.1.2.2.2.2.2.1 s.2.2.1.2.2.2.2.1 xN0) i43 (nKind ((va_up s.2.2.1.2.2.2.2.2.1 s.2.2.1.2.2.2.2.1 xN0) i43) l1)) i43 (nA ((va_up (va_up s.2.2.1.2.2.2.2.2.1 s.2.2.1.2.2.2.2.1 xN0) i43 (nKind ((va_up s.2.2.1.2.2.2.2.2.1 s.2.2.1.2.2.2.2.1 xN0) i43) l1)) i43) 0)) i43 (nB ((va_up (va_up (va_up s.2.2.1.2.2.2.2.2.1 s.2.2.1.2.2.2.2.1 xN0) i43 (nKind ((va_up s.2.2.1.2.2.2.2.2.1 s.2.2.1.2.2.2.2.1 xN0) i43) l1)) i43 (nA ((va_up (va_up s.2.2.1.2.2.2.2.2.1 s.2.2.1.2.2.2.2.1 xN0) i43 (nKind ((va_up s.2.2.1.2.2.2.2.2.1 s.2.2.1.2.2.2.2.1 xN0) i43) l1)) i43) 0)) i43) 0)) i43) 0)) i43 (nFirst ((va_up (va_up (va_up (va_up (va_up s.2.2.1.2.2.2.2.2.1 s.2.2.1.2.2.2.2.1 xN0) i43 (nKind ((va_up s.2.2.1.2.2.2.2.2.1 s.2.2.1.2.2.2.2.1 xN0) i43) l1)) i43 (nA ((va_up (va_up s.2.2.1.2.2.2.2.2.1 s.2.2.1.2.2.2.2.1 xN0) i43 (nKind ((va_up s.2.2.1.2.2.2.2.2.1 s.2.2.1.2.2.2.2.1 xN0) i43) l1)) i43) 0)) i43 (nB ((va_up (va_up (va_up s.2.2.1.2.2.2.2.2.1 s.2.2.1.2.2.2.2.1 xN0) i43 (nKind ((va_up s.2.2.1.2.2.2.2.2.1 s.2.2.1.2.2.2.2.1 xN0) i43) l1)) i43 (nA ((va_up (va_up s.2.2.1.2.2.2.2.2.1 s.2.2.1.2.2.2.2.1 xN0) i43 (nKind ((va_up s.2.2.1.2.2.2.2.2.1 s.2.2.1.2.2.2.2.1 xN0) i43) l1)) i43) 0)) i43) 0)) i43 (nNumber ((va_up (va_up (va_up (va_up s.2.2.1.2.2.2.2.2.1 s.2.2.1.2.2.2.2.1 xN0) i43 (nKind ((va_up s.2.2.1.2.2.2.2.2.1 s.2.2.1.2.2.2.2.1 xN0) i43) l1)) i43 (nA ((va_up (va_up s.2.2.1.2.2.2.2.2.1 s.2.2.1.2.2.2.2.1 xN0) i43 (nKind ((va_up s.2.2.1.2.2.2.2.2.1 s.2.2.1.2.2.2.2.1 xN0) i43) l1)) i43) 0)) i43 (nB ((va_up (va_up (va_up s.2.2.1.2.2.2.2.2.1 s.2.2.1.2.2.2.2.1 xN0) i43 (nKind ((va_up s.2.2.1.2.2.2.2.2.1 s.2.2.1.2.2.2.2.1 xN0) i43) l1)) i43 (nA ((va_up (va_up s.2.2.1.2.2.2.2.2.1 s.2.2.1.2.2.2.2.1 xN0) i43 (nKind ((va_up s.2.2.1.2.2.2.2.2.1 s.2.2.1.2.2.2.2.1 xN0) i43) l1)) i43) 0)) i43) 0)) i43) 0)) i43) none)) i43) none)) g44)) ?_
    refine xy_r (xw_aload_n dM_node_130 rfl) ?_
    refine xy_r (xw_null dM_node_131) ?_
    refine xy_r (xg_put dM_node_132 fM_212 (mV_n g44) (xn_le _) (Nat.le_of_ble_eq_true rfl) (fun _ => rfl) (fun _ => rfl) (mV_pn (q := (nNext ((va_up (va_up (va_up (va_up (va_up (va_up (va_up s.2.2.1.2.2.2.2.2.1 s.2.2.1.2.2.2.2.1 xN0) i43 (nKind ((va_up s.2.2.1.2.2.2.2.2.1 s.2.2.1.2.2.2.2.1 xN0) i43) l1)) i43 (nA ((va_up (va_up s.2.2.1.2.2.2.2.2.1 s.2.2.1.2.2.2.2.1 xN0) i43 (nKind ((va_up s.2.2.1.2.2.2.2.2.1 s.2.2.1.2.2.2.2.1 xN0) i43) l1)) i43) 0)) i43 (nB ((va_up (va_up (va_up s.2.2.1.2.2.2.2.2.1 s.2.2.1.2.2.2.2.1 xN0) i43 (nKind ((va_up s.2.2.1.2.2.2.2.2.1 s.2.2.1.2.2.2.2.1 xN0) i43) l1)) i43 (nA ((va_up (va_up s.2.2.1.2.2.2.2.2.1 s.2.2.1.2.2.2.2.1 xN0) i43 (nKind ((va_up s.2.2.1.2.2.2.2.2.1 s.2.2.1.2.2.2.2.1 xN0) i43) l1)) i43) 0)) i43) 0)) i43 (nNumber ((va_up (va_up (va_up (va_up s.2.2.1.2.2.2.2.2.1 s.2.2.1.2.2.2.2.1 xN0) i43 (nKind ((va_up s.2.2.1.2.2.2.2.2.1 s.2.2.1.2.2.2.2.1 xN0) i43) l1)) i43 (nA ((va_up (va_up s.2.2.1.2.2.2.2.2.1 s.2.2.1.2.2.2.2.1 xN0) i43 (nKind ((va_up s.2.2.1.2.2.2.2.2.1 s.2.2.1.2.2.2.2.1 xN0) i43) l1)) i43) 0)) i43 (nB ((va_up (va_up (va_up s.2.2.1.2.2.2.2.2.1 s.2.2.1.2.2.2.2.1 xN0) i43 (nKind ((va_up s.2.2.1.2.2.2.2.2.1 s.2.2.1.2.2.2.2.1 xN0) i43) l1)) i43 (nA ((va_up (va_up s.2.2.1.2.2.2.2.2.1 s.2.2.1.2.2.2.2.1 xN0) i43 (nKind ((va_up s.2.2.1.2.2.2.2.2.1 s.2.2.1.2.2.2.2.1 xN0) i43) l1)) i43) 0)) i43) 0)) i43) 0)) i43 (nFirst ((va_up (va_up (va_up (va_up (va_up s.2.2.1.2.2.2.2.2.1 s.2.2.1.2.2.2.2.1 xN0) i43 (nKind ((va_up s.2.2.1.2.2.2.2.2.1 s.2.2.1.2.2.2.2.1 xN0) i43) l1)) i43 (nA ((va_up (va_up s.2.2.1.2.2.2.2.2.1 s.2.2.1.2.2.2.2.1 xN0) i43 (nKind ((va_up s.2.2.1.2.2.2.2.2.1 s.2.2.1.2.2.2.2.1 xN0) i43) l1)) i43) 0)) i43 (nB ((va_up (va_up (va_up s.2.2.1.2.2.2.2.2.1 s.2.2.1.2.2.2.2.1 xN0) i43 (nKind ((va_up s.2.2.1.2.2.2.2.2.1 s.2.2.1.2.2.2.2.1 xN0) i43) l1)) i43 (nA ((va_up (va_up s.2.2.1.2.2.2.2.2.1 s.2.2.1.2.2.2.2.1 xN0) i43 (nKind ((va_up s.2.2.1.2.2.2.2.2.1 s.2.2.1.2.2.2.2.1 xN0) i43) l1)) i43) 0)) i43) 0)) i43 (nNumber ((va_up (va_up (va_up (va_up s.2.2.1.2.2.2.2.2.1 s.2.2.1.2.2.2.2.1 xN0) i43 (nKind ((va_up s.2.2.1.2.2.2.2.2.1 s.2.2.1.2.2.2.2.1 xN0) i43) l1)) i43 (nA ((va_up (va_up s.2.2.1.2.2.2.2.2.1 s.2.2.1.2.2.2.2.1 xN0) i43 (nKind ((va_up s.2.2.1.2.2.2.2.2.1 s.2.2.1.2.2.2.2.1 xN0) i43) l1)) i43) 0)) i43 (nB ((va_up (va_up (va_up s.2.2.1.2.2.2.2.2.1 s.2.2.1.2.2.2.2.1 xN0) i43 (nKind ((va_up s.2.2.1.2.2.2.2.2.1 s.2.2.1.2.2.2.2.1 xN0) i43) l1)) i43 (nA ((va_up (va_up s.2.2.1.2.2.2.2.2.1 s.2.2.1.2.2.2.2.1 xN0) i43 (nKind ((va_up s.2.2.1.2.2.2.2.2.1 s.2.2.1.2.2.2.2.1 xN0) i43) l1)) i43) 0)) i43) 0)) i43) 0)) i43) none)) i43 (nLast ((va_up (va_up (va_up (va_up (va_up (va_up s.2.2.1.2.2.2.2.2.1 s.2.2.1.2.2.2.2.1 xN0) i43 (nKind ((va_up s.2.2.1.2.2.2.2.2.1 s.2.2.1.2.2.2.2.1 xN0) i43) l1)) i43 (nA ((va_up (va_up s.2.2.1.2.2.2.2.2.1 s.2.2.1.2.2.2.2.1 xN0) i43 (nKind ((va_up s.2.2.1.2.2.2.2.2.1 s.2.2.1.2.2.2.2.1 xN0) i43) l1)) i43) 0)) i43 (nB ((va_up (va_up (va_up s.2.2.1.2.2.2.2.2.1 s.2.2.1.2.2.2.2.1 xN0) i43 (nKind ((va_up s.2.2.1.2.2.2.2.2.1 s.2.2.1.2.2.2.2.1 xN0) i43) l1)) i43 (nA ((va_up (va_up s.2.2.1.2.2.2.2.2.1 s.2.2.1.2.2.2.2.1 xN0) i43 (nKind ((va_up s.2.2.1.2.2.2.2.2.1 s.2.2.1.2.2.2.2.1 xN0) i43) l1)) i43) 0)) i43) 0)) i43 (nNumber ((va_up (va_up (va_up (va_up s.2.2.1.2.2.2.2.2.1 s.2.2.1.2.2.2.2.1 xN0) i43 (nKind ((va_up s.2.2.1.2.2.2.2.2.1 s.2.2.1.2.2.2.2.1 xN0) i43) l1)) i43 (nA ((va_up (va_up s.2.2.1.2.2.2.2.2.1 s.2.2.1.2.2.2.2.1 xN0) i43 (nKind ((va_up s.2.2.1.2.2.2.2.2.1 s.2.2.1.2.2.2.2.1 xN0) i43) l1)) i43) 0)) i43 (nB ((va_up (va_up (va_up s.2.2.1.2.2.2.2.2.1 s.2.2.1.2.2.2.2.1 xN0) i43 (nKind ((va_up s.2.2.1.2.2.2.2.2.1 s.2.2.1.2.2.2.2.1 xN0) i43) l1)) i43 (nA ((va_up (va_up s.2.2.1.2.2.2.2.2.1 s.2.2.1.2.2.2.2.1 xN0) i43 (nKind ((va_up s.2.2.1.2.2.2.2.2.1 s.2.2.1.2.2.2.2.1 xN0) i43) l1)) i43) 0)) i43) 0)) i43) 0)) i43 (nFirst ((va_up (va_up (va_up (va_up (va_up s.2.2.1.2.2.2.2.2.1 s.2.2.1.2.2.2.2.1 xN0) i43 (nKind ((va_up s.2.2.1.2.2.2.2.2.1 s.2.2.1.2.2.2.2.1 xN0) i43) l1)) i43 (nA ((va_up (va_up s.2.2.1.2.2.2.2.2.1 s.2.2.1.2.2.2.2.1 xN0) i43 (nKind ((va_up s.2.2.1.2.2.2.2.2.1 s.2.2.1.2.2.2.2.1 xN0) i43) l1)) i43) 0)) i43 (nB ((va_up (va_up (va_up s.2.2.1.2.2.2.2.2.1 s.2.2.1.2.2.2.2.1 xN0) i43 (nKind ((va_up s.2.2.1.2.2.2.2.2.1 s.2.2.1.2.2.2.2.1 xN0) i43) l1)) i43 (nA ((va_up (va_up s.2.2.1.2.2.2.2.2.1 s.2.2.1.2.2.2.2.1 xN0) i43 (nKind ((va_up s.2.2.1.2.2.2.2.2.1 s.2.2.1.2.2.2.2.1 xN0) i43) l1)) i43) 0)) i43) 0)) i43 (nNumber ((va_up (va_up (va_up (va_up s.2.2.1.2.2.2.2.2.1 s.2.2.1.2.2.2.2.1 xN0) i43 (nKind ((va_up s.2.2.1.2.2.2.2.2.1 s.2.2.1.2.2.2.2.1 xN0) i43) l1)) i43 (nA ((va_up (va_up s.2.2.1.2.2.2.2.2.1 s.2.2.1.2.2.2.2.1 xN0) i43 (nKind ((va_up s.2.2.1.2.2.2.2.2.1 s.2.2.1.2.2.2.2.1 xN0) i43) l1)) i43) 0)) i43 (nB ((va_up (va_up (va_up s.2.2.1.2.2.2.2.2.1 s.2.2.1.2.2.2.2.1 xN0) i43 (nKind ((va_up s.2.2.1.2.2.2.2.2.1 s.2.2.1.2.2.2.2.1 xN0) i43) l1)) i43 (nA ((va_up (va_up s.2.2.1.2.2.2.2.2.1 s.2.2.1.2.2.2.2.1 xN0) i43 (nKind ((va_up s.2.2.1.2.2.2.2.2.1 s.2.2.1.2.2.2.2.1 xN0) i43) l1)) i43) 0)) i43) 0)) i43) 0)) i43) none)) i43) none)) i43) none)) g44)) ?_
    refine xy_r (xw_aload_n dM_node_135 rfl) ?_
    refine xy_r (xw_iconst (0) dM_node_136 (by decide)) ?_
    refine xy_r (xg_put dM_node_137 fM_215 (mV_n g44) (xn_le _) (Nat.le_of_ble_eq_true rfl) (fun _ => rfl) (fun _ => rfl) (mV_pn (q := (nCount ((va_up (va_up (va_up (va_up (va_up (va_up (va_up (va_up s.2.2.1.2.2.2.2.2.1 s.2.2.1.2.2.2.2.1 xN0) i43 (nKind ((va_up s.2.2.1.2.2.2.2.2.1 s.2.2.1.2.2.2.2.1 xN0) i43) l1)) i43 (nA ((va_up (va_up s.2.2.1.2.2.2.2.2.1 s.2.2.1.2.2.2.2.1 xN0) i43 (nKind ((va_up s.2.2.1.2.2.2.2.2.1 s.2.2.1.2.2.2.2.1 xN0) i43) l1)) i43) 0)) i43 (nB ((va_up (va_up (va_up s.2.2.1.2.2.2.2.2.1 s.2.2.1.2.2.2.2.1 xN0) i43 (nKind ((va_up s.2.2.1.2.2.2.2.2.1 s.2.2.1.2.2.2.2.1 xN0) i43) l1)) i43 (nA ((va_up (va_up s.2.2.1.2.2.2.2.2.1 s.2.2.1.2.2.2.2.1 xN0) i43 (nKind ((va_up s.2.2.1.2.2.2.2.2.1 s.2.2.1.2.2.2.2.1 xN0) i43) l1)) i43) 0)) i43) 0)) i43 (nNumber ((va_up (va_up (va_up (va_up s.2.2.1.2.2.2.2.2.1 s.2.2.1.2.2.2.2.1 xN0) i43 (nKind ((va_up s.2.2.1.2.2.2.2.2.1 s.2.2.1.2.2.2.2.1 xN0) i43) l1)) i43 (nA ((va_up (va_up s.2.2.1.2.2.2.2.2.1 s.2.2.1.2.2.2.2.1 xN0) i43 (nKind ((va_up s.2.2.1.2.2.2.2.2.1 s.2.2.1.2.2.2.2.1 xN0) i43) l1)) i43) 0)) i43 (nB ((va_up (va_up (va_up s.2.2.1.2.2.2.2.2.1 s.2.2.1.2.2.2.2.1 xN0) i43 (nKind ((va_up s.2.2.1.2.2.2.2.2.1 s.2.2.1.2.2.2.2.1 xN0) i43) l1)) i43 (nA ((va_up (va_up s.2.2.1.2.2.2.2.2.1 s.2.2.1.2.2.2.2.1 xN0) i43 (nKind ((va_up s.2.2.1.2.2.2.2.2.1 s.2.2.1.2.2.2.2.1 xN0) i43) l1)) i43) 0)) i43) 0)) i43) 0)) i43 (nFirst ((va_up (va_up (va_up (va_up (va_up s.2.2.1.2.2.2.2.2.1 s.2.2.1.2.2.2.2.1 xN0) i43 (nKind ((va_up s.2.2.1.2.2.2.2.2.1 s.2.2.1.2.2.2.2.1 xN0) i43) l1)) i43 (nA ((va_up (va_up s.2.2.1.2.2.2.2.2.1 s.2.2.1.2.2.2.2.1 xN0) i43 (nKind ((va_up s.2.2.1.2.2.2.2.2.1 s.2.2.1.2.2.2.2.1 xN0) i43) l1)) i43) 0)) i43 (nB ((va_up (va_up (va_up s.2.2.1.2.2.2.2.2.1 s.2.2.1.2.2.2.2.1 xN0) i43 (nKind ((va_up s.2.2.1.2.2.2.2.2.1 s.2.2.1.2.2.2.2.1 xN0) i43) l1)) i43 (nA ((va_up (va_up s.2.2.1.2.2.2.2.2.1 s.2.2.1.2.2.2.2.1 xN0) i43 (nKind ((va_up s.2.2.1.2.2.2.2.2.1 s.2.2.1.2.2.2.2.1 xN0) i43) l1)) i43) 0)) i43) 0)) i43 (nNumber ((va_up (va_up (va_up (va_up s.2.2.1.2.2.2.2.2.1 s.2.2.1.2.2.2.2.1 xN0) i43 (nKind ((va_up s.2.2.1.2.2.2.2.2.1 s.2.2.1.2.2.2.2.1 xN0) i43) l1)) i43 (nA ((va_up (va_up s.2.2.1.2.2.2.2.2.1 s.2.2.1.2.2.2.2.1 xN0) i43 (nKind ((va_up s.2.2.1.2.2.2.2.2.1 s.2.2.1.2.2.2.2.1 xN0) i43) l1)) i43) 0)) i43 (nB ((va_up (va_up (va_up s.2.2.1.2.2.2.2.2.1 s.2.2.1.2.2.2.2.1 xN0) i43 (nKind ((va_up s.2.2.1.2.2.2.2.2.1 s.2.2.1.2.2.2.2.1 xN0) i43) l1)) i43 (nA ((va_up (va_up s.2.2.1.2.2.2.2.2.1 s.2.2.1.2.2.2.2.1 xN0) i43 (nKind ((va_up s.2.2.1.2.2.2.2.2.1 s.2.2.1.2.2.2.2.1 xN0) i43) l1)) i43) 0)) i43) 0)) i43) 0)) i43) none)) i43 (nLast ((va_up (va_up (va_up (va_up (va_up (va_up s.2.2.1.2.2.2.2.2.1 s.2.2.1.2.2.2.2.1 xN0) i43 (nKind ((va_up s.2.2.1.2.2.2.2.2.1 s.2.2.1.2.2.2.2.1 xN0) i43) l1)) i43 (nA ((va_up (va_up s.2.2.1.2.2.2.2.2.1 s.2.2.1.2.2.2.2.1 xN0) i43 (nKind ((va_up s.2.2.1.2.2.2.2.2.1 s.2.2.1.2.2.2.2.1 xN0) i43) l1)) i43) 0)) i43 (nB ((va_up (va_up (va_up s.2.2.1.2.2.2.2.2.1 s.2.2.1.2.2.2.2.1 xN0) i43 (nKind ((va_up s.2.2.1.2.2.2.2.2.1 s.2.2.1.2.2.2.2.1 xN0) i43) l1)) i43 (nA ((va_up (va_up s.2.2.1.2.2.2.2.2.1 s.2.2.1.2.2.2.2.1 xN0) i43 (nKind ((va_up s.2.2.1.2.2.2.2.2.1 s.2.2.1.2.2.2.2.1 xN0) i43) l1)) i43) 0)) i43) 0)) i43 (nNumber ((va_up (va_up (va_up (va_up s.2.2.1.2.2.2.2.2.1 s.2.2.1.2.2.2.2.1 xN0) i43 (nKind ((va_up s.2.2.1.2.2.2.2.2.1 s.2.2.1.2.2.2.2.1 xN0) i43) l1)) i43 (nA ((va_up (va_up s.2.2.1.2.2.2.2.2.1 s.2.2.1.2.2.2.2.1 xN0) i43 (nKind ((va_up s.2.2.1.2.2.2.2.2.1 s.2.2.1.2.2.2.2.1 xN0) i43) l1)) i43) 0)) i43 (nB ((va_up (va_up (va_up s.2.2.1.2.2.2.2.2.1 s.2.2.1.2.2.2.2.1 xN0) i43 (nKind ((va_up s.2.2.1.2.2.2.2.2.1 s.2.2.1.2.2.2.2.1 xN0) i43) l1)) i43 (nA ((va_up (va_up s.2.2.1.2.2.2.2.2.1 s.2.2.1.2.2.2.2.1 xN0) i43 (nKind ((va_up s.2.2.1.2.2.2.2.2.1 s.2.2.1.2.2.2.2.1 xN0) i43) l1)) i43) 0)) i43) 0)) i43) 0)) i43 (nFirst ((va_up (va_up (va_up (va_up (va_up s.2.2.1.2.2.2.2.2.1 s.2.2.1.2.2.2.2.1 xN0) i43 (nKind ((va_up s.2.2.1.2.2.2.2.2.1 s.2.2.1.2.2.2.2.1 xN0) i43) l1)) i43 (nA ((va_up (va_up s.2.2.1.2.2.2.2.2.1 s.2.2.1.2.2.2.2.1 xN0) i43 (nKind ((va_up s.2.2.1.2.2.2.2.2.1 s.2.2.1.2.2.2.2.1 xN0) i43) l1)) i43) 0)) i43 (nB ((va_up (va_up (va_up s.2.2.1.2.2.2.2.2.1 s.2.2.1.2.2.2.2.1 xN0) i43 (nKind ((va_up s.2.2.1.2.2.2.2.2.1 s.2.2.1.2.2.2.2.1 xN0) i43) l1)) i43 (nA ((va_up (va_up s.2.2.1.2.2.2.2.2.1 s.2.2.1.2.2.2.2.1 xN0) i43 (nKind ((va_up s.2.2.1.2.2.2.2.2.1 s.2.2.1.2.2.2.2.1 xN0) i43) l1)) i43) 0)) i43) 0)) i43 (nNumber ((va_up (va_up (va_up (va_up s.2.2.1.2.2.2.2.2.1 s.2.2.1.2.2.2.2.1 xN0) i43 (nKind ((va_up s.2.2.1.2.2.2.2.2.1 s.2.2.1.2.2.2.2.1 xN0) i43) l1)) i43 (nA ((va_up (va_up s.2.2.1.2.2.2.2.2.1 s.2.2.1.2.2.2.2.1 xN0) i43 (nKind ((va_up s.2.2.1.2.2.2.2.2.1 s.2.2.1.2.2.2.2.1 xN0) i43) l1)) i43) 0)) i43 (nB ((va_up (va_up (va_up s.2.2.1.2.2.2.2.2.1 s.2.2.1.2.2.2.2.1 xN0) i43 (nKind ((va_up s.2.2.1.2.2.2.2.2.1 s.2.2.1.2.2.2.2.1 xN0) i43) l1)) i43 (nA ((va_up (va_up s.2.2.1.2.2.2.2.2.1 s.2.2.1.2.2.2.2.1 xN0) i43 (nKind ((va_up s.2.2.1.2.2.2.2.2.1 s.2.2.1.2.2.2.2.1 xN0) i43) l1)) i43) 0)) i43) 0)) i43) 0)) i43) none)) i43) none)) i43 (nNext ((va_up (va_up (va_up (va_up (va_up (va_up (va_up s.2.2.1.2.2.2.2.2.1 s.2.2.1.2.2.2.2.1 xN0) i43 (nKind ((va_up s.2.2.1.2.2.2.2.2.1 s.2.2.1.2.2.2.2.1 xN0) i43) l1)) i43 (nA ((va_up (va_up s.2.2.1.2.2.2.2.2.1 s.2.2.1.2.2.2.2.1 xN0) i43 (nKind ((va_up s.2.2.1.2.2.2.2.2.1 s.2.2.1.2.2.2.2.1 xN0) i43) l1)) i43) 0)) i43 (nB ((va_up (va_up (va_up s.2.2.1.2.2.2.2.2.1 s.2.2.1.2.2.2.2.1 xN0) i43 (nKind ((va_up s.2.2.1.2.2.2.2.2.1 s.2.2.1.2.2.2.2.1 xN0) i43) l1)) i43 (nA ((va_up (va_up s.2.2.1.2.2.2.2.2.1 s.2.2.1.2.2.2.2.1 xN0) i43 (nKind ((va_up s.2.2.1.2.2.2.2.2.1 s.2.2.1.2.2.2.2.1 xN0) i43) l1)) i43) 0)) i43) 0)) i43 (nNumber ((va_up (va_up (va_up (va_up s.2.2.1.2.2.2.2.2.1 s.2.2.1.2.2.2.2.1 xN0) i43 (nKind ((va_up s.2.2.1.2.2.2.2.2.1 s.2.2.1.2.2.2.2.1 xN0) i43) l1)) i43 (nA ((va_up (va_up s.2.2.1.2.2.2.2.2.1 s.2.2.1.2.2.2.2.1 xN0) i43 (nKind ((va_up s.2.2.1.2.2.2.2.2.1 s.2.2.1.2.2.2.2.1 xN0) i43) l1)) i43) 0)) i43 (nB ((va_up (va_up (va_up s.2.2.1.2.2.2.2.2.1 s.2.2.1.2.2.2.2.1 xN0) i43 (nKind ((va_up s.2.2.1.2.2.2.2.2.1 s.2.2.1.2.2.2.2.1 xN0) i43) l1)) i43 (nA ((va_up (va_up s.2.2.1.2.2.2.2.2.1 s.2.2.1.2.2.2.2.1 xN0) i43 (nKind ((va_up s.2.2.1.2.2.2.2.2.1 s.2.2.1.2.2.2.2.1 xN0) i43) l1)) i43) 0)) i43) 0)) i43) 0)) i43 (nFirst ((va_up (va_up (va_up (va_up (va_up s.2.2.1.2.2.2.2.2.1 s.2.2.1.2.2.2.2.1 xN0) i43 (nKind ((va_up s.2.2.1.2.2.2.2.2.1 s.2.2.1.2.2.2.2.1 xN0) i43) l1)) i43 (nA ((va_up (va_up s.2.2.1.2.2.2.2.2.1 s.2.2.1.2.2.2.2.1 xN0) i43 (nKind ((va_up s.2.2.1.2.2.2.2.2.1 s.2.2.1.2.2.2.2.1 xN0) i43) l1)) i43) 0)) i43 (nB ((va_up (va_up (va_up s.2.2.1.2.2.2.2.2.1 s.2.2.1.2.2.2.2.1 xN0) i43 (nKind ((va_up s.2.2.1.2.2.2.2.2.1 s.2.2.1.2.2.2.2.1 xN0) i43) l1)) i43 (nA ((va_up (va_up s.2.2.1.2.2.2.2.2.1 s.2.2.1.2.2.2.2.1 xN0) i43 (nKind ((va_up s.2.2.1.2.2.2.2.2.1 s.2.2.1.2.2.2.2.1 xN0) i43) l1)) i43) 0)) i43) 0)) i43 (nNumber ((va_up (va_up (va_up (va_up s.2.2.1.2.2.2.2.2.1 s.2.2.1.2.2.2.2.1 xN0) i43 (nKind ((va_up s.2.2.1.2.2.2.2.2.1 s.2.2.1.2.2.2.2.1 xN0) i43) l1)) i43 (nA ((va_up (va_up s.2.2.1.2.2.2.2.2.1 s.2.2.1.2.2.2.2.1 xN0) i43 (nKind ((va_up s.2.2.1.2.2.2.2.2.1 s.2.2.1.2.2.2.2.1 xN0) i43) l1)) i43) 0)) i43 (nB ((va_up (va_up (va_up s.2.2.1.2.2.2.2.2.1 s.2.2.1.2.2.2.2.1 xN0) i43 (nKind ((va_up s.2.2.1.2.2.2.2.2.1 s.2.2.1.2.2.2.2.1 xN0) i43) l1)) i43 (nA ((va_up (va_up s.2.2.1.2.2.2.2.2.1 s.2.2.1.2.2.2.2.1 xN0) i43 (nKind ((va_up s.2.2.1.2.2.2.2.2.1 s.2.2.1.2.2.2.2.1 xN0) i43) l1)) i43) 0)) i43) 0)) i43) 0)) i43) none)) i43 (nLast ((va_up (va_up (va_up (va_up (va_up (va_up s.2.2.1.2.2.2.2.2.1 s.2.2.1.2.2.2.2.1 xN0) i43 (nKind ((va_up s.2.2.1.2.2.2.2.2.1 s.2.2.1.2.2.2.2.1 xN0) i43) l1)) i43 (nA ((va_up (va_up s.2.2.1.2.2.2.2.2.1 s.2.2.1.2.2.2.2.1 xN0) i43 (nKind ((va_up s.2.2.1.2.2.2.2.2.1 s.2.2.1.2.2.2.2.1 xN0) i43) l1)) i43) 0)) i43 (nB ((va_up (va_up (va_up s.2.2.1.2.2.2.2.2.1 s.2.2.1.2.2.2.2.1 xN0) i43 (nKind ((va_up s.2.2.1.2.2.2.2.2.1 s.2.2.1.2.2.2.2.1 xN0) i43) l1)) i43 (nA ((va_up (va_up s.2.2.1.2.2.2.2.2.1 s.2.2.1.2.2.2.2.1 xN0) i43 (nKind ((va_up s.2.2.1.2.2.2.2.2.1 s.2.2.1.2.2.2.2.1 xN0) i43) l1)) i43) 0)) i43) 0)) i43 (nNumber ((va_up (va_up (va_up (va_up s.2.2.1.2.2.2.2.2.1 s.2.2.1.2.2.2.2.1 xN0) i43 (nKind ((va_up s.2.2.1.2.2.2.2.2.1 s.2.2.1.2.2.2.2.1 xN0) i43) l1)) i43 (nA ((va_up (va_up s.2.2.1.2.2.2.2.2.1 s.2.2.1.2.2.2.2.1 xN0) i43 (nKind ((va_up s.2.2.1.2.2.2.2.2.1 s.2.2.1.2.2.2.2.1 xN0) i43) l1)) i43) 0)) i43 (nB ((va_up (va_up (va_up s.2.2.1.2.2.2.2.2.1 s.2.2.1.2.2.2.2.1 xN0) i43 (nKind ((va_up s.2.2.1.2.2.2.2.2.1 s.2.2.1.2.2.2.2.1 xN0) i43) l1)) i43 (nA ((va_up (va_up s.2.2.1.2.2.2.2.2.1 s.2.2.1.2.2.2.2.1 xN0) i43 (nKind ((va_up s.2.2.1.2.2.2.2.2.1 s.2.2.1.2.2.2.2.1 xN0) i43) l1)) i43) 0)) i43) 0)) i43) 0)) i43 (nFirst ((va_up (va_up (va_up (va_up (va_up s.2.2.1.2.2.2.2.2.1 s.2.2.1.2.2.2.2.1 xN0) i43 (nKind ((va_up s.2.2.1.2.2.2.2.2.1 s.2.2.1.2.2.2.2.1 xN0) i43) l1)) i43 (nA ((va_up (va_up s.2.2.1.2.2.2.2.2.1 s.2.2.1.2.2.2.2.1 xN0) i43 (nKind ((va_up s.2.2.1.2.2.2.2.2.1 s.2.2.1.2.2.2.2.1 xN0) i43) l1)) i43) 0)) i43 (nB ((va_up (va_up (va_up s.2.2.1.2.2.2.2.2.1 s.2.2.1.2.2.2.2.1 xN0) i43 (nKind ((va_up s.2.2.1.2.2.2.2.2.1 s.2.2.1.2.2.2.2.1 xN0) i43) l1)) i43 (nA ((va_up (va_up s.2.2.1.2.2.2.2.2.1 s.2.2.1.2.2.2.2.1 xN0) i43 (nKind ((va_up s.2.2.1.2.2.2.2.2.1 s.2.2.1.2.2.2.2.1 xN0) i43) l1)) i43) 0)) i43) 0)) i43 (nNumber ((va_up (va_up (va_up (va_up s.2.2.1.2.2.2.2.2.1 s.2.2.1.2.2.2.2.1 xN0) i43 (nKind ((va_up s.2.2.1.2.2.2.2.2.1 s.2.2.1.2.2.2.2.1 xN0) i43) l1)) i43 (nA ((va_up (va_up s.2.2.1.2.2.2.2.2.1 s.2.2.1.2.2.2.2.1 xN0) i43 (nKind ((va_up s.2.2.1.2.2.2.2.2.1 s.2.2.1.2.2.2.2.1 xN0) i43) l1)) i43) 0)) i43 (nB ((va_up (va_up (va_up s.2.2.1.2.2.2.2.2.1 s.2.2.1.2.2.2.2.1 xN0) i43 (nKind ((va_up s.2.2.1.2.2.2.2.2.1 s.2.2.1.2.2.2.2.1 xN0) i43) l1)) i43 (nA ((va_up (va_up s.2.2.1.2.2.2.2.2.1 s.2.2.1.2.2.2.2.1 xN0) i43 (nKind ((va_up s.2.2.1.2.2.2.2.2.1 s.2.2.1.2.2.2.2.1 xN0) i43) l1)) i43) 0)) i43) 0)) i43) 0)) i43) none)) i43) none)) i43) none)) i43) 0)) g44)) ?_
    refine xy_r (xw_aload_n dM_node_140 rfl) ?_
    obtain rfl := Option.some.inj hF
    exact xy_end (xw_areturn dM_node_141 rfl (Or.inl ⟨_, rfl⟩) (Nat.le_refl _) (Nat.le_refl _) ⟨rfl, rfl⟩)
  · refine xy_r (xw_Sn (st' := [.ref (xn i40)]) (by first | (rw [ei40]; done) | (rw [ei40]; rfl))) ?_
    refine xy_r (xw_ifnonnull_r 80 dM_node_61 (by decide)) ?_
    refine xy_r (xw_aload_n dM_node_80 rfl) ?_
    refine xy_r (xw_get dM_node_81 fM_25 rfl rfl) ?_
    refine xy_r (xw_aload_n dM_node_84 rfl) ?_
    refine xy_r (xw_get dM_node_85 fM_188 rfl rfl) ?_
    refine xy_r (xg_naload g39.1 (xlev g39.2.2) dM_node_88 (mV_d g39.2.1)) ?_
    refine xy_r (xg_astore_n dM_node_89 (Nat.le_of_ble_eq_true rfl)) ?_
    refine xy_r (xw_Ln (L' := [some (.ref 2000), some (.int l1), some (xw_rf (s.2.2.1.2.2.2.1 s.2.2.1.2.1 (s.2.2.1.1).toNatClampNeg)), none]) rfl) ?_
    refine xy_r (xw_aload_n dM_node_90 rfl) ?_
    refine xy_r (xw_dup_r dM_node_91) ?_
    refine xy_r (xw_get dM_node_92 fM_188 rfl rfl) ?_
    refine xy_r (xw_iconst (1) dM_node_95 (by decide)) ?_
    refine xy_r (xw_iadd dM_node_96) ?_
    refine xy_r (xg_put dM_node_97 fM_188 rfl (by decide) (Nat.le_of_ble_eq_true rfl) (fun _ => rfl) (fun _ => rfl) (mV_o (s' := (s.1, s.2.1, ((s.2.2.1.1 + 1), s.2.2.1.2), s.2.2.2)) rfl)) ?_
    refine xy_r (xg_aload_n dM_node_100 rfl) ?_
    refine xy_r (xw_iload_n dM_node_101 rfl) ?_
    obtain ⟨i45, ei45, hF⟩ := xg_b hF
    refine xy_r (xw_Ln (L' := [some (.ref 2000), some (.int l1), some (.ref (xn i45)), none]) (by first | (rw [ei45]; done) | (rw [ei45]; rfl))) ?_
    refine xy_r (xw_Sn (st' := [.int l1, .ref (xn i45)]) (by first | (rw [ei45]; done) | (rw [ei45]; rfl))) ?_
    obtain ⟨g46, hF⟩ := xg_g hF
    refine xy_r (xg_put dM_node_102 fM_192 (mV_n g46) (xn_le _) (Nat.le_of_ble_eq_true rfl) (fun _ => rfl) (fun _ => rfl) (mV_pn (q := (nKind (s.2.2.1.2.2.2.2.2.1 i45) l1)) g46)) ?_
    refine xy_r (xw_aload_n dM_node_105 rfl) ?_
    refine xy_r (xw_iconst (0) dM_node_106 (by decide)) ?_
    refine xy_r (xg_put dM_node_107 fM_195 (mV_n g46) (xn_le _) (Nat.le_of_ble_eq_true rfl) (fun _ => rfl) (fun _ => rfl) (mV_pn (q := (nA ((va_up s.2.2.1.2.2.2.2.2.1 i45 (nKind (s.2.2.1.2.2.2.2.2.1 i45) l1)) i45) 0)) g46)) ?_
    refine xy_r (xw_aload_n dM_node_110 rfl) ?_
    refine xy_r (xw_iconst (0) dM_node_111 (by decide)) ?_
    refine xy_r (xg_put dM_node_112 fM_198 (mV_n g46) (xn_le _) (Nat.le_of_ble_eq_true rfl) (fun _ => rfl) (fun _ => rfl) (mV_pn (q := (nB ((va_up (va_up s.2.2.1.2.2.2.2.2.1 i45 (nKind (s.2.2.1.2.2.2.2.2.1 i45) l1)) i45 (nA ((va_up s.2.2.1.2.2.2.2.2.1 i45 (nKind (s.2.2.1.2.2.2.2.2.1 i45) l1)) i45) 0)) i45) 0)) g46)) ?_
    refine xy_r (xw_aload_n dM_node_115 rfl) ?_
    refine xy_r (xw_lconst (0) dM_node_116 (by decide)) ?_
    refine xy_r (xg_put dM_node_117 fM_201 (mV_n g46) (xn_le _) (Nat.le_of_ble_eq_true rfl) (fun _ => rfl) (fun _ => rfl) (mV_pn (q := (nNumber ((va_up (va_up (va_up s.2.2.1.2.2.2.2.2.1 i45 (nKind (s.2.2.1.2.2.2.2.2.1 i45) l1)) i45 (nA ((va_up s.2.2.1.2.2.2.2.2.1 i45 (nKind (s.2.2.1.2.2.2.2.2.1 i45) l1)) i45) 0)) i45 (nB ((va_up (va_up s.2.2.1.2.2.2.2.2.1 i45 (nKind (s.2.2.1.2.2.2.2.2.1 i45) l1)) i45 (nA ((va_up s.2.2.1.2.2.2.2.2.1 i45 (nKind (s.2.2.1.2.2.2.2.2.1 i45) l1)) i45) 0)) i45) 0)) i45) 0)) g46)) ?_
    refine xy_r (xw_aload_n dM_node_120 rfl) ?_
    refine xy_r (xw_null dM_node_121) ?_
    refine xy_r (xg_put dM_node_122 fM_205 (mV_n g46) (xn_le _) (Nat.le_of_ble_eq_true rfl) (fun _ => rfl) (fun _ => rfl) (mV_pn (q := (nFirst ((va_up (va_up (va_up (va_up s.2.2.1.2.2.2.2.2.1 i45 (nKind (s.2.2.1.2.2.2.2.2.1 i45) l1)) i45 (nA ((va_up s.2.2.1.2.2.2.2.2.1 i45 (nKind (s.2.2.1.2.2.2.2.2.1 i45) l1)) i45) 0)) i45 (nB ((va_up (va_up s.2.2.1.2.2.2.2.2.1 i45 (nKind (s.2.2.1.2.2.2.2.2.1 i45) l1)) i45 (nA ((va_up s.2.2.1.2.2.2.2.2.1 i45 (nKind (s.2.2.1.2.2.2.2.2.1 i45) l1)) i45) 0)) i45) 0)) i45 (nNumber ((va_up (va_up (va_up s.2.2.1.2.2.2.2.2.1 i45 (nKind (s.2.2.1.2.2.2.2.2.1 i45) l1)) i45 (nA ((va_up s.2.2.1.2.2.2.2.2.1 i45 (nKind (s.2.2.1.2.2.2.2.2.1 i45) l1)) i45) 0)) i45 (nB ((va_up (va_up s.2.2.1.2.2.2.2.2.1 i45 (nKind (s.2.2.1.2.2.2.2.2.1 i45) l1)) i45 (nA ((va_up s.2.2.1.2.2.2.2.2.1 i45 (nKind (s.2.2.1.2.2.2.2.2.1 i45) l1)) i45) 0)) i45) 0)) i45) 0)) i45) none)) g46)) ?_
    refine xy_r (xw_aload_n dM_node_125 rfl) ?_
    refine xy_r (xw_null dM_node_126) ?_
    refine xy_r (xg_put dM_node_127 fM_209 (mV_n g46) (xn_le _) (Nat.le_of_ble_eq_true rfl) (fun _ => rfl) (fun _ => rfl) (mV_pn (q := (nLast ((va_up (va_up (va_up (va_up (va_up s.2.2.1.2.2.2.2.2.1 i45 (nKind (s.2.2.1.2.2.2.2.2.1 i45) l1)) i45 (nA ((va_up s.2.2.1.2.2.2.2.2.1 i45 (nKind (s.2.2.1.2.2.2.2.2.1 i45) l1)) i45) 0)) i45 (nB ((va_up (va_up s.2.2.1.2.2.2.2.2.1 i45 (nKind (s.2.2.1.2.2.2.2.2.1 i45) l1)) i45 (nA ((va_up s.2.2.1.2.2.2.2.2.1 i45 (nKind (s.2.2.1.2.2.2.2.2.1 i45) l1)) i45) 0)) i45) 0)) i45 (nNumber ((va_up (va_up (va_up s.2.2.1.2.2.2.2.2.1 i45 (nKind (s.2.2.1.2.2.2.2.2.1 i45) l1)) i45 (nA ((va_up s.2.2.1.2.2.2.2.2.1 i45 (nKind (s.2.2.1.2.2.2.2.2.1 i45) l1)) i45) 0)) i45 (nB ((va_up (va_up s.2.2.1.2.2.2.2.2.1 i45 (nKind (s.2.2.1.2.2.2.2.2.1 i45) l1)) i45 (nA ((va_up s.2.2.1.2.2.2.2.2.1 i45 (nKind (s.2.2.1.2.2.2.2.2.1 i45) l1)) i45) 0)) i45) 0)) i45) 0)) i45 (nFirst ((va_up (va_up (va_up (va_up s.2.2.1.2.2.2.2.2.1 i45 (nKind (s.2.2.1.2.2.2.2.2.1 i45) l1)) i45 (nA ((va_up s.2.2.1.2.2.2.2.2.1 i45 (nKind (s.2.2.1.2.2.2.2.2.1 i45) l1)) i45) 0)) i45 (nB ((va_up (va_up s.2.2.1.2.2.2.2.2.1 i45 (nKind (s.2.2.1.2.2.2.2.2.1 i45) l1)) i45 (nA ((va_up s.2.2.1.2.2.2.2.2.1 i45 (nKind (s.2.2.1.2.2.2.2.2.1 i45) l1)) i45) 0)) i45) 0)) i45 (nNumber ((va_up (va_up (va_up s.2.2.1.2.2.2.2.2.1 i45 (nKind (s.2.2.1.2.2.2.2.2.1 i45) l1)) i45 (nA ((va_up s.2.2.1.2.2.2.2.2.1 i45 (nKind (s.2.2.1.2.2.2.2.2.1 i45) l1)) i45) 0)) i45 (nB ((va_up (va_up s.2.2.1.2.2.2.2.2.1 i45 (nKind (s.2.2.1.2.2.2.2.2.1 i45) l1)) i45 (nA ((va_up s.2.2.1.2.2.2.2.2.1 i45 (nKind (s.2.2.1.2.2.2.2.2.1 i45) l1)) i45) 0)) i45) 0)) i45) 0)) i45) none)) i45) none)) g46)) ?_
    refine xy_r (xw_aload_n dM_node_130 rfl) ?_
    refine xy_r (xw_null dM_node_131) ?_
    refine xy_r (xg_put dM_node_132 fM_212 (mV_n g46) (xn_le _) (Nat.le_of_ble_eq_true rfl) (fun _ => rfl) (fun _ => rfl) (mV_pn (q := (nNext ((va_up (va_up (va_up (va_up (va_up (va_up s.2.2.1.2.2.2.2.2.1 i45 (nKind (s.2.2.1.2.2.2.2.2.1 i45) l1)) i45 (nA ((va_up s.2.2.1.2.2.2.2.2.1 i45 (nKind (s.2.2.1.2.2.2.2.2.1 i45) l1)) i45) 0)) i45 (nB ((va_up (va_up s.2.2.1.2.2.2.2.2.1 i45 (nKind (s.2.2.1.2.2.2.2.2.1 i45) l1)) i45 (nA ((va_up s.2.2.1.2.2.2.2.2.1 i45 (nKind (s.2.2.1.2.2.2.2.2.1 i45) l1)) i45) 0)) i45) 0)) i45 (nNumber ((va_up (va_up (va_up s.2.2.1.2.2.2.2.2.1 i45 (nKind (s.2.2.1.2.2.2.2.2.1 i45) l1)) i45 (nA ((va_up s.2.2.1.2.2.2.2.2.1 i45 (nKind (s.2.2.1.2.2.2.2.2.1 i45) l1)) i45) 0)) i45 (nB ((va_up (va_up s.2.2.1.2.2.2.2.2.1 i45 (nKind (s.2.2.1.2.2.2.2.2.1 i45) l1)) i45 (nA ((va_up s.2.2.1.2.2.2.2.2.1 i45 (nKind (s.2.2.1.2.2.2.2.2.1 i45) l1)) i45) 0)) i45) 0)) i45) 0)) i45 (nFirst ((va_up (va_up (va_up (va_up s.2.2.1.2.2.2.2.2.1 i45 (nKind (s.2.2.1.2.2.2.2.2.1 i45) l1)) i45 (nA ((va_up s.2.2.1.2.2.2.2.2.1 i45 (nKind (s.2.2.1.2.2.2.2.2.1 i45) l1)) i45) 0)) i45 (nB ((va_up (va_up s.2.2.1.2.2.2.2.2.1 i45 (nKind (s.2.2.1.2.2.2.2.2.1 i45) l1)) i45 (nA ((va_up s.2.2.1.2.2.2.2.2.1 i45 (nKind (s.2.2.1.2.2.2.2.2.1 i45) l1)) i45) 0)) i45) 0)) i45 (nNumber ((va_up (va_up (va_up s.2.2.1.2.2.2.2.2.1 i45 (nKind (s.2.2.1.2.2.2.2.2.1 i45) l1)) i45 (nA ((va_up s.2.2.1.2.2.2.2.2.1 i45 (nKind (s.2.2.1.2.2.2.2.2.1 i45) l1)) i45) 0)) i45 (nB ((va_up (va_up s.2.2.1.2.2.2.2.2.1 i45 (nKind (s.2.2.1.2.2.2.2.2.1 i45) l1)) i45 (nA ((va_up s.2.2.1.2.2.2.2.2.1 i45 (nKind (s.2.2.1.2.2.2.2.2.1 i45) l1)) i45) 0)) i45) 0)) i45) 0)) i45) none)) i45 (nLast ((va_up (va_up (va_up (va_up (va_up s.2.2.1.2.2.2.2.2.1 i45 (nKind (s.2.2.1.2.2.2.2.2.1 i45) l1)) i45 (nA ((va_up s.2.2.1.2.2.2.2.2.1 i45 (nKind (s.2.2.1.2.2.2.2.2.1 i45) l1)) i45) 0)) i45 (nB ((va_up (va_up s.2.2.1.2.2.2.2.2.1 i45 (nKind (s.2.2.1.2.2.2.2.2.1 i45) l1)) i45 (nA ((va_up s.2.2.1.2.2.2.2.2.1 i45 (nKind (s.2.2.1.2.2.2.2.2.1 i45) l1)) i45) 0)) i45) 0)) i45 (nNumber ((va_up (va_up (va_up s.2.2.1.2.2.2.2.2.1 i45 (nKind (s.2.2.1.2.2.2.2.2.1 i45) l1)) i45 (nA ((va_up s.2.2.1.2.2.2.2.2.1 i45 (nKind (s.2.2.1.2.2.2.2.2.1 i45) l1)) i45) 0)) i45 (nB ((va_up (va_up s.2.2.1.2.2.2.2.2.1 i45 (nKind (s.2.2.1.2.2.2.2.2.1 i45) l1)) i45 (nA ((va_up s.2.2.1.2.2.2.2.2.1 i45 (nKind (s.2.2.1.2.2.2.2.2.1 i45) l1)) i45) 0)) i45) 0)) i45) 0)) i45 (nFirst ((va_up (va_up (va_up (va_up s.2.2.1.2.2.2.2.2.1 i45 (nKind (s.2.2.1.2.2.2.2.2.1 i45) l1)) i45 (nA ((va_up s.2.2.1.2.2.2.2.2.1 i45 (nKind (s.2.2.1.2.2.2.2.2.1 i45) l1)) i45) 0)) i45 (nB ((va_up (va_up s.2.2.1.2.2.2.2.2.1 i45 (nKind (s.2.2.1.2.2.2.2.2.1 i45) l1)) i45 (nA ((va_up s.2.2.1.2.2.2.2.2.1 i45 (nKind (s.2.2.1.2.2.2.2.2.1 i45) l1)) i45) 0)) i45) 0)) i45 (nNumber ((va_up (va_up (va_up s.2.2.1.2.2.2.2.2.1 i45 (nKind (s.2.2.1.2.2.2.2.2.1 i45) l1)) i45 (nA ((va_up s.2.2.1.2.2.2.2.2.1 i45 (nKind (s.2.2.1.2.2.2.2.2.1 i45) l1)) i45) 0)) i45 (nB ((va_up (va_up s.2.2.1.2.2.2.2.2.1 i45 (nKind (s.2.2.1.2.2.2.2.2.1 i45) l1)) i45 (nA ((va_up s.2.2.1.2.2.2.2.2.1 i45 (nKind (s.2.2.1.2.2.2.2.2.1 i45) l1)) i45) 0)) i45) 0)) i45) 0)) i45) none)) i45) none)) i45) none)) g46)) ?_
    refine xy_r (xw_aload_n dM_node_135 rfl) ?_
    refine xy_r (xw_iconst (0) dM_node_136 (by decide)) ?_
    refine xy_r (xg_put dM_node_137 fM_215 (mV_n g46) (xn_le _) (Nat.le_of_ble_eq_true rfl) (fun _ => rfl) (fun _ => rfl) (mV_pn (q := (nCount ((va_up (va_up (va_up (va_up (va_up (va_up (va_up s.2.2.1.2.2.2.2.2.1 i45 (nKind (s.2.2.1.2.2.2.2.2.1 i45) l1)) i45 (nA ((va_up s.2.2.1.2.2.2.2.2.1 i45 (nKind (s.2.2.1.2.2.2.2.2.1 i45) l1)) i45) 0)) i45 (nB ((va_up (va_up s.2.2.1.2.2.2.2.2.1 i45 (nKind (s.2.2.1.2.2.2.2.2.1 i45) l1)) i45 (nA ((va_up s.2.2.1.2.2.2.2.2.1 i45 (nKind (s.2.2.1.2.2.2.2.2.1 i45) l1)) i45) 0)) i45) 0)) i45 (nNumber ((va_up (va_up (va_up s.2.2.1.2.2.2.2.2.1 i45 (nKind (s.2.2.1.2.2.2.2.2.1 i45) l1)) i45 (nA ((va_up s.2.2.1.2.2.2.2.2.1 i45 (nKind (s.2.2.1.2.2.2.2.2.1 i45) l1)) i45) 0)) i45 (nB ((va_up (va_up s.2.2.1.2.2.2.2.2.1 i45 (nKind (s.2.2.1.2.2.2.2.2.1 i45) l1)) i45 (nA ((va_up s.2.2.1.2.2.2.2.2.1 i45 (nKind (s.2.2.1.2.2.2.2.2.1 i45) l1)) i45) 0)) i45) 0)) i45) 0)) i45 (nFirst ((va_up (va_up (va_up (va_up s.2.2.1.2.2.2.2.2.1 i45 (nKind (s.2.2.1.2.2.2.2.2.1 i45) l1)) i45 (nA ((va_up s.2.2.1.2.2.2.2.2.1 i45 (nKind (s.2.2.1.2.2.2.2.2.1 i45) l1)) i45) 0)) i45 (nB ((va_up (va_up s.2.2.1.2.2.2.2.2.1 i45 (nKind (s.2.2.1.2.2.2.2.2.1 i45) l1)) i45 (nA ((va_up s.2.2.1.2.2.2.2.2.1 i45 (nKind (s.2.2.1.2.2.2.2.2.1 i45) l1)) i45) 0)) i45) 0)) i45 (nNumber ((va_up (va_up (va_up s.2.2.1.2.2.2.2.2.1 i45 (nKind (s.2.2.1.2.2.2.2.2.1 i45) l1)) i45 (nA ((va_up s.2.2.1.2.2.2.2.2.1 i45 (nKind (s.2.2.1.2.2.2.2.2.1 i45) l1)) i45) 0)) i45 (nB ((va_up (va_up s.2.2.1.2.2.2.2.2.1 i45 (nKind (s.2.2.1.2.2.2.2.2.1 i45) l1)) i45 (nA ((va_up s.2.2.1.2.2.2.2.2.1 i45 (nKind (s.2.2.1.2.2.2.2.2.1 i45) l1)) i45) 0)) i45) 0)) i45) 0)) i45) none)) i45 (nLast ((va_up (va_up (va_up (va_up (va_up s.2.2.1.2.2.2.2.2.1 i45 (nKind (s.2.2.1.2.2.2.2.2.1 i45) l1)) i45 (nA ((va_up s.2.2.1.2.2.2.2.2.1 i45 (nKind (s.2.2.1.2.2.2.2.2.1 i45) l1)) i45) 0)) i45 (nB ((va_up (va_up s.2.2.1.2.2.2.2.2.1 i45 (nKind (s.2.2.1.2.2.2.2.2.1 i45) l1)) i45 (nA ((va_up s.2.2.1.2.2.2.2.2.1 i45 (nKind (s.2.2.1.2.2.2.2.2.1 i45) l1)) i45) 0)) i45) 0)) i45 (nNumber ((va_up (va_up (va_up s.2.2.1.2.2.2.2.2.1 i45 (nKind (s.2.2.1.2.2.2.2.2.1 i45) l1)) i45 (nA ((va_up s.2.2.1.2.2.2.2.2.1 i45 (nKind (s.2.2.1.2.2.2.2.2.1 i45) l1)) i45) 0)) i45 (nB ((va_up (va_up s.2.2.1.2.2.2.2.2.1 i45 (nKind (s.2.2.1.2.2.2.2.2.1 i45) l1)) i45 (nA ((va_up s.2.2.1.2.2.2.2.2.1 i45 (nKind (s.2.2.1.2.2.2.2.2.1 i45) l1)) i45) 0)) i45) 0)) i45) 0)) i45 (nFirst ((va_up (va_up (va_up (va_up s.2.2.1.2.2.2.2.2.1 i45 (nKind (s.2.2.1.2.2.2.2.2.1 i45) l1)) i45 (nA ((va_up s.2.2.1.2.2.2.2.2.1 i45 (nKind (s.2.2.1.2.2.2.2.2.1 i45) l1)) i45) 0)) i45 (nB ((va_up (va_up s.2.2.1.2.2.2.2.2.1 i45 (nKind (s.2.2.1.2.2.2.2.2.1 i45) l1)) i45 (nA ((va_up s.2.2.1.2.2.2.2.2.1 i45 (nKind (s.2.2.1.2.2.2.2.2.1 i45) l1)) i45) 0)) i45) 0)) i45 (nNumber ((va_up (va_up (va_up s.2.2.1.2.2.2.2.2.1 i45 (nKind (s.2.2.1.2.2.2.2.2.1 i45) l1)) i45 (nA ((va_up s.2.2.1.2.2.2.2.2.1 i45 (nKind (s.2.2.1.2.2.2.2.2.1 i45) l1)) i45) 0)) i45 (nB ((va_up (va_up s.2.2.1.2.2.2.2.2.1 i45 (nKind (s.2.2.1.2.2.2.2.2.1 i45) l1)) i45 (nA ((va_up s.2.2.1.2.2.2.2.2.1 i45 (nKind (s.2.2.1.2.2.2.2.2.1 i45) l1)) i45) 0)) i45) 0)) i45) 0)) i45) none)) i45) none)) i45 (nNext ((va_up (va_up (va_up (va_up (va_up (va_up s.2.2.1.2.2.2.2.2.1 i45 (nKind (s.2.2.1.2.2.2.2.2.1 i45) l1)) i45 (nA ((va_up s.2.2.1.2.2.2.2.2.1 i45 (nKind (s.2.2.1.2.2.2.2.2.1 i45) l1)) i45) 0)) i45 (nB ((va_up (va_up s.2.2.1.2.2.2.2.2.1 i45 (nKind (s.2.2.1.2.2.2.2.2.1 i45) l1)) i45 (nA ((va_up s.2.2.1.2.2.2.2.2.1 i45 (nKind (s.2.2.1.2.2.2.2.2.1 i45) l1)) i45) 0)) i45) 0)) i45 (nNumber ((va_up (va_up (va_up s.2.2.1.2.2.2.2.2.1 i45 (nKind (s.2.2.1.2.2.2.2.2.1 i45) l1)) i45 (nA ((va_up s.2.2.1.2.2.2.2.2.1 i45 (nKind (s.2.2.1.2.2.2.2.2.1 i45) l1)) i45) 0)) i45 (nB ((va_up (va_up s.2.2.1.2.2.2.2.2.1 i45 (nKind (s.2.2.1.2.2.2.2.2.1 i45) l1)) i45 (nA ((va_up s.2.2.1.2.2.2.2.2.1 i45 (nKind (s.2.2.1.2.2.2.2.2.1 i45) l1)) i45) 0)) i45) 0)) i45) 0)) i45 (nFirst ((va_up (va_up (va_up (va_up s.2.2.1.2.2.2.2.2.1 i45 (nKind (s.2.2.1.2.2.2.2.2.1 i45) l1)) i45 (nA ((va_up s.2.2.1.2.2.2.2.2.1 i45 (nKind (s.2.2.1.2.2.2.2.2.1 i45) l1)) i45) 0)) i45 (nB ((va_up (va_up s.2.2.1.2.2.2.2.2.1 i45 (nKind (s.2.2.1.2.2.2.2.2.1 i45) l1)) i45 (nA ((va_up s.2.2.1.2.2.2.2.2.1 i45 (nKind (s.2.2.1.2.2.2.2.2.1 i45) l1)) i45) 0)) i45) 0)) i45 (nNumber ((va_up (va_up (va_up s.2.2.1.2.2.2.2.2.1 i45 (nKind (s.2.2.1.2.2.2.2.2.1 i45) l1)) i45 (nA ((va_up s.2.2.1.2.2.2.2.2.1 i45 (nKind (s.2.2.1.2.2.2.2.2.1 i45) l1)) i45) 0)) i45 (nB ((va_up (va_up s.2.2.1.2.2.2.2.2.1 i45 (nKind (s.2.2.1.2.2.2.2.2.1 i45) l1)) i45 (nA ((va_up s.2.2.1.2.2.2.2.2.1 i45 (nKind (s.2.2.1.2.2.2.2.2.1 i45) l1)) i45) 0)) i45) 0)) i45) 0)) i45) none)) i45 (nLast ((va_up (va_up (va_up (va_up (va_up s.2.2.1.2.2.2.2.2.1 i45 (nKind (s.2.2.1.2.2.2.2.2.1 i45) l1)) i45 (nA ((va_up s.2.2.1.2.2.2.2.2.1 i45 (nKind (s.2.2.1.2.2.2.2.2.1 i45) l1)) i45) 0)) i45 (nB ((va_up (va_up s.2.2.1.2.2.2.2.2.1 i45 (nKind (s.2.2.1.2.2.2.2.2.1 i45) l1)) i45 (nA ((va_up s.2.2.1.2.2.2.2.2.1 i45 (nKind (s.2.2.1.2.2.2.2.2.1 i45) l1)) i45) 0)) i45) 0)) i45 (nNumber ((va_up (va_up (va_up s.2.2.1.2.2.2.2.2.1 i45 (nKind (s.2.2.1.2.2.2.2.2.1 i45) l1)) i45 (nA ((va_up s.2.2.1.2.2.2.2.2.1 i45 (nKind (s.2.2.1.2.2.2.2.2.1 i45) l1)) i45) 0)) i45 (nB ((va_up (va_up s.2.2.1.2.2.2.2.2.1 i45 (nKind (s.2.2.1.2.2.2.2.2.1 i45) l1)) i45 (nA ((va_up s.2.2.1.2.2.2.2.2.1 i45 (nKind (s.2.2.1.2.2.2.2.2.1 i45) l1)) i45) 0)) i45) 0)) i45) 0)) i45 (nFirst ((va_up (va_up (va_up (va_up s.2.2.1.2.2.2.2.2.1 i45 (nKind (s.2.2.1.2.2.2.2.2.1 i45) l1)) i45 (nA ((va_up s.2.2.1.2.2.2.2.2.1 i45 (nKind (s.2.2.1.2.2.2.2.2.1 i45) l1)) i45) 0)) i45 (nB ((va_up (va_up s.2.2.1.2.2.2.2.2.1 i45 (nKind (s.2.2.1.2.2.2.2.2.1 i45) l1)) i45 (nA ((va_up s.2.2.1.2.2.2.2.2.1 i45 (nKind (s.2.2.1.2.2.2.2.2.1 i45) l1)) i45) 0)) i45) 0)) i45 (nNumber ((va_up (va_up (va_up s.2.2.1.2.2.2.2.2.1 i45 (nKind (s.2.2.1.2.2.2.2.2.1 i45) l1)) i45 (nA ((va_up s.2.2.1.2.2.2.2.2.1 i45 (nKind (s.2.2.1.2.2.2.2.2.1 i45) l1)) i45) 0)) i45 (nB ((va_up (va_up s.2.2.1.2.2.2.2.2.1 i45 (nKind (s.2.2.1.2.2.2.2.2.1 i45) l1)) i45 (nA ((va_up s.2.2.1.2.2.2.2.2.1 i45 (nKind (s.2.2.1.2.2.2.2.2.1 i45) l1)) i45) 0)) i45) 0)) i45) 0)) i45) none)) i45) none)) i45) none)) i45) 0)) g46)) ?_
    refine xy_r (xw_aload_n dM_node_140 rfl) ?_
    obtain rfl := Option.some.inj hF
    exact xy_end (xw_areturn dM_node_141 rfl (Or.inl ⟨_, rfl⟩) (Nat.le_refl _) (Nat.le_refl _) ⟨rfl, rfl⟩)
set_option maxRecDepth 20000 in
theorem CM_node_24 {w : xw_G} {h : xw_H} (hb : xMb h)  : ∀ (fu : Nat) {l1 : Int32} {l2 : Nat} {l3 : Int32} {s : xMs} {out : (Nat × xMs)} {h0 : xw_H} {m0 n0 : Nat} (hm : m0 ≤ s.2.2.1.2.2.2.2.2.2.1 ∧ n0 ≤ s.2.2.1.2.2.2.2.2.2.2), FM_node_24 fu l1 l2 l3 s = some out → xw_Y w mM_node 2 60 (xw_R (some (.ref (xn out.1))) (mV out.2 h)) h0 m0 n0 s.2.2.1.2.2.2.2.2.2.1 s.2.2.1.2.2.2.2.2.2.2 out.2.2.2.1.2.2.2.2.2.2.1 out.2.2.2.1.2.2.2.2.2.2.2 24 [some (.ref 2000), some (.int l1), some (.ref (3001 + 3 * l2)), some (.int l3)] [] (mV s h) := by
  intro fu
  induction fu with
  | zero =>
    intro l1 l2 l3 s out h0 m0 n0 hm hF
    rw [FM_node_24] at hF
    cases hF
  | succ fu ih =>
    intro l1 l2 l3 s out h0 m0 n0 hm hF
    rw [FM_node_24] at hF
    refine xy_r (xw_iload_n dM_node_24 rfl) ?_
    refine xy_r (xw_aload_n dM_node_25 rfl) ?_
    refine xy_r (xw_get dM_node_26 fM_188 rfl rfl) ?_
    refine xy_br (xw_icmp_ge 47 dM_node_29 (by decide)) (fun c49 => ?_) (fun c49 => ?_)
    · replace hF := xg_t c49 hF
      refine xy_r (xw_aload_n dM_node_47 rfl) ?_
      refine xy_r (xw_aload_n dM_node_48 rfl) ?_
      refine xy_r (xg_put dM_node_49 fM_25 rfl (by decide) (Nat.le_of_ble_eq_true rfl) (fun _ => rfl) (fun _ => rfl) (mV_o (s' := (s.1, s.2.1, (s.2.2.1.1, l2, s.2.2.1.2.2), s.2.2.2)) rfl)) ?_
      refine xy_r (xw_drop (L' := [some (.ref 2000), some (.int l1), none, none]) ⟨rfl, ⟨rfl, trivial⟩⟩) ?_
      exact CM_node_52 hb hm hF
    · replace hF := xg_f c49 hF
      refine xy_r (xw_aload_n dM_node_32 rfl) ?_
      refine xy_r (xw_iload_n dM_node_33 rfl) ?_
      refine xy_r (xw_aload_n dM_node_34 rfl) ?_
      refine xy_r (xw_get dM_node_35 fM_25 rfl rfl) ?_
      refine xy_r (xw_iload_n dM_node_38 rfl) ?_
      obtain ⟨g50, hF⟩ := xg_g hF
      refine xy_r (xg_naload g50.1 (xlev g50.2.2) dM_node_39 (mV_d g50.2.1)) ?_
      obtain ⟨i51, ei51, hF⟩ := xg_b hF
      refine xy_r (xw_Sn (st' := [.ref (xn i51), .int l3, .ref (3001 + 3 * l2)]) (by first | (rw [ei51]; done) | (rw [ei51]; rfl))) ?_
      obtain ⟨g52, hF⟩ := xg_g hF
      obtain ⟨g53, hF⟩ := xg_g hF
      refine xy_r (xg_nastore (f := (s.2.2.1.2.2.2.1 l2)) g53.1 (xlev g53.2.2) dM_node_40 (mV_d g53.2.1) (xna_le _) (mV_n g52) (mV_pd g53.2.1)) ?_
      refine xy_r (xw_iinc ((l3 + 1)) dM_node_41 rfl rfl (Nat.le_of_ble_eq_true rfl)) ?_
      refine xy_r (xw_Ln (L' := [some (.ref 2000), some (.int l1), some (.ref (3001 + 3 * l2)), some (.int (l3 + 1))]) rfl) ?_
      refine xy_r (xw_goto 24 dM_node_44 (by decide)) ?_
      exact ih hm hF
set_option maxRecDepth 20000 in
theorem CM_node {w : xw_G} {h : xw_H} (hb : xMb h) {x0 : Int32} {s : xMs} {out : (Nat × xMs)} (hF : FM_node x0 s = some out) : (s.2.2.1.2.2.2.2.2.2.1 ≤ out.2.2.2.1.2.2.2.2.2.2.1 ∧ s.2.2.1.2.2.2.2.2.2.2 ≤ out.2.2.2.1.2.2.2.2.2.2.2) ∧ xw_C w (mM_node { frames := 2, cells := out.2.2.2.1.2.2.2.2.2.2.1 - s.2.2.1.2.2.2.2.2.2.1, slots := out.2.2.2.1.2.2.2.2.2.2.2 - s.2.2.1.2.2.2.2.2.2.2, locals := 60 }) (xw_R (some (.ref (xn out.1))) (mV out.2 h)) [.ref 2000, .int x0] (mV s h) := by
  unfold FM_node at hF
  refine xy_enter (L := [some (.ref 2000), some (.int x0), none, none]) (fun _ => rfl) (fun _ => rfl) (fun _ => (show plainName "FormulaShaperModel" = true by decide +kernel)) (fun _ => (Nat.le_of_ble_eq_true rfl)) (fun _ => rfl) ?_
  have hm : s.2.2.1.2.2.2.2.2.2.1 ≤ s.2.2.1.2.2.2.2.2.2.1 ∧ s.2.2.1.2.2.2.2.2.2.2 ≤ s.2.2.1.2.2.2.2.2.2.2 := ⟨Nat.le_refl _, Nat.le_refl _⟩
  refine xy_r (xw_aload_n dM_node_0 rfl) ?_
  refine xy_r (xw_get dM_node_1 fM_188 rfl rfl) ?_
  refine xy_r (xw_aload_n dM_node_4 rfl) ?_
  refine xy_r (xw_get dM_node_5 fM_25 rfl rfl) ?_
  obtain ⟨g37, hF⟩ := xg_g hF
  refine xy_r (xw_alen (ty := fun _ => (0, .object "FormulaShaperModel$Node")) (nI (256 * 2 ^ s.2.2.1.2.1)) dM_node_8 (mV_d g37) (fun _ => rfl) rfl) ?_
  refine xy_brn (xw_icmp_ne 52 dM_node_9 (by decide)) (fun c38 => ?_) (fun c38 => ?_)
  · replace hF := xg_f c38 hF
    exact CM_node_52 hb hm hF
  · replace hF := xg_t c38 hF
    refine xy_r (xw_iconst (2) dM_node_12 (by decide)) ?_
    refine xy_r (xw_aload_n dM_node_13 rfl) ?_
    refine xy_r (xw_get dM_node_14 fM_188 rfl rfl) ?_
    refine xy_r (xw_imul dM_node_17) ?_
    obtain ⟨g47, hF⟩ := xg_g hF
    refine xy_anew (3001 + 3 * s.2.2.1.2.2.1) 3 (256 * 2 ^ s.2.2.1.2.2.1) (fun _ => rfl) (fun _ => rfl) (fun _ => dM_node_18) (fun _ => tw_898) tw_899 (mV_df hb) (by omega) g47.1 (xlev g47.2) hm (mV_nd (f := fun _ => none) (k := (s.2.2.1.2.2.2.2.2.2.1 + 1)) (m := (s.2.2.1.2.2.2.2.2.2.2 + 256 * 2 ^ s.2.2.1.2.2.1))) ?_
    have hm48 : s.2.2.1.2.2.2.2.2.2.1 ≤ (s.2.2.1.2.2.2.2.2.2.1 + 1) ∧ s.2.2.1.2.2.2.2.2.2.2 ≤ (s.2.2.1.2.2.2.2.2.2.2 + 256 * 2 ^ s.2.2.1.2.2.1) := ⟨by omega, by omega⟩
    refine xy_r (xw_astore_n dM_node_21 (Nat.le_of_ble_eq_true rfl)) ?_
    refine xy_r (xw_Ln (L' := [some (.ref 2000), some (.int x0), some (.ref (3001 + 3 * s.2.2.1.2.2.1)), none]) rfl) ?_
    refine xy_r (xw_iconst (0) dM_node_22 (by decide)) ?_
    refine xy_r (xw_istore_n dM_node_23 (Nat.le_of_ble_eq_true rfl)) ?_
    refine xy_r (xw_Ln (L' := [some (.ref 2000), some (.int x0), some (.ref (3001 + 3 * s.2.2.1.2.2.1)), some (.int 0)]) rfl) ?_
    exact CM_node_24 hb xFuel hm48 hF
/-- FormulaShaperModel.binary -/
def FM_binary (x0 : Int32) (x1 : Nat) (x2 : Nat) (s : xMs) : Option (Nat × xMs) := (FM_node 9 s).bind fun r54 => if r54.1 < r54.2.2.2.1.2.2.2.2.1 then ((FN_add r54.1 x1 (r54.2.1, r54.2.2.1, (r54.2.2.2.1.1, r54.2.2.2.1.2.1, r54.2.2.2.1.2.2.1, r54.2.2.2.1.2.2.2.1, r54.2.2.2.1.2.2.2.2.1, (va_up r54.2.2.2.1.2.2.2.2.2.1 r54.1 (nA (r54.2.2.2.1.2.2.2.2.2.1 r54.1) x0)), r54.2.2.2.1.2.2.2.2.2.2), r54.2.2.2.2)).bind fun r58 => if r54.1 < r58.2.2.1.2.2.2.2.1 then ((FN_add r54.1 x2 r58).bind fun r62 => some (r54.1, r62)) else none) else none
set_option maxRecDepth 20000 in
theorem CM_binary {w : xw_G} {h : xw_H} (hb : xMb h) {x0 : Int32} {x1 : Nat} {x2 : Nat} {s : xMs} {out : (Nat × xMs)} (hF : FM_binary x0 x1 x2 s = some out) : (s.2.2.1.2.2.2.2.2.2.1 ≤ out.2.2.2.1.2.2.2.2.2.2.1 ∧ s.2.2.1.2.2.2.2.2.2.2 ≤ out.2.2.2.1.2.2.2.2.2.2.2) ∧ xw_C w (mM_binary { frames := 3, cells := out.2.2.2.1.2.2.2.2.2.2.1 - s.2.2.1.2.2.2.2.2.2.1, slots := out.2.2.2.1.2.2.2.2.2.2.2 - s.2.2.1.2.2.2.2.2.2.2, locals := 83 }) (xw_R (some (.ref (xn out.1))) (mV out.2 h)) [.ref 2000, .int x0, .ref (xn x1), .ref (xn x2)] (mV s h) := by
  unfold FM_binary at hF
  refine xy_enter (L := [some (.ref 2000), some (.int x0), some (.ref (xn x1)), some (.ref (xn x2)), none]) (fun _ => rfl) (fun _ => rfl) (fun _ => (show plainName "FormulaShaperModel" = true by decide +kernel)) (fun _ => (Nat.le_of_ble_eq_true rfl)) (fun _ => rfl) ?_
  have hm : s.2.2.1.2.2.2.2.2.2.1 ≤ s.2.2.1.2.2.2.2.2.2.1 ∧ s.2.2.1.2.2.2.2.2.2.2 ≤ s.2.2.1.2.2.2.2.2.2.2 := ⟨Nat.le_refl _, Nat.le_refl _⟩
  refine xy_r (xw_aload_n dM_binary_0 rfl) ?_
  refine xy_r (xw_bipush (9) dM_binary_1 (by decide)) ?_
  obtain ⟨r54, er54, hF⟩ := xg_b hF
  have hm55 : s.2.2.1.2.2.2.2.2.2.1 ≤ r54.2.2.2.1.2.2.2.2.2.2.1 ∧ s.2.2.1.2.2.2.2.2.2.2 ≤ r54.2.2.2.1.2.2.2.2.2.2.2 := xy_le hm (show s.2.2.1.2.2.2.2.2.2.1 ≤ r54.2.2.2.1.2.2.2.2.2.2.1 ∧ s.2.2.1.2.2.2.2.2.2.2 ≤ r54.2.2.2.1.2.2.2.2.2.2.2 from (CM_node (w := w) (h := h) hb er54).1)
  refine xy_V1 (sm := s.2.2.1.2.2.2.2.2.2.1) (sn := s.2.2.1.2.2.2.2.2.2.2) (tm := r54.2.2.2.1.2.2.2.2.2.2.1) (tn := r54.2.2.2.1.2.2.2.2.2.2.2) (CM_node hb er54) rfl rfl hm (fun _ => rfl) (fun _ => rfl) (fun _ => rfl) (fun _ => dM_binary_3) (fun _ R => kM_253 R) (fun _ => rfl) ⟨(Nat.le_of_ble_eq_true rfl), (Nat.le_of_ble_eq_true rfl)⟩ rfl rfl rfl (fun _ => rfl) (Nat.le_of_ble_eq_true rfl) ?_
  refine xy_r (xw_astore dM_binary_6 (Nat.le_of_ble_eq_true rfl)) ?_
  refine xy_r (xw_Ln (L' := [some (.ref 2000), some (.int x0), some (.ref (xn x1)), some (.ref (xn x2)), some (.ref (xn r54.1))]) rfl) ?_
  refine xy_r (xw_aload dM_binary_8 rfl) ?_
  refine xy_r (xw_iload_n dM_binary_10 rfl) ?_
  obtain ⟨g57, hF⟩ := xg_g hF
  refine xy_r (xg_put dM_binary_11 fM_195 (mV_n g57) (xn_le _) (Nat.le_of_ble_eq_true rfl) (fun _ => rfl) (fun _ => rfl) (mV_pn (q := (nA (r54.2.2.2.1.2.2.2.2.2.1 r54.1) x0)) g57)) ?_
  refine xy_r (xw_aload dM_binary_14 rfl) ?_
  refine xy_r (xw_aload_n dM_binary_16 rfl) ?_
  obtain ⟨r58, er58, hF⟩ := xg_b hF
  have hm59 : s.2.2.1.2.2.2.2.2.2.1 ≤ r58.2.2.1.2.2.2.2.2.2.1 ∧ s.2.2.1.2.2.2.2.2.2.2 ≤ r58.2.2.1.2.2.2.2.2.2.2 := xy_le hm55 (show r54.2.2.2.1.2.2.2.2.2.2.1 ≤ r58.2.2.1.2.2.2.2.2.2.1 ∧ r54.2.2.2.1.2.2.2.2.2.2.2 ≤ r58.2.2.1.2.2.2.2.2.2.2 from (CN_add (w := w) (h := h) hb er58).1)
  refine xy_V0 (sm := r54.2.2.2.1.2.2.2.2.2.2.1) (sn := r54.2.2.2.1.2.2.2.2.2.2.2) (tm := r58.2.2.1.2.2.2.2.2.2.1) (tn := r58.2.2.1.2.2.2.2.2.2.2) (CN_add hb er58) rfl rfl hm55 (fun _ => rfl) (fun _ => rfl) (fun _ => rfl) (fun _ => dM_binary_17) (fun _ R => kM_257 R) (fun _ => rfl) ⟨(Nat.le_of_ble_eq_true rfl), (Nat.le_of_ble_eq_true rfl)⟩ rfl rfl (mV_n g57) (fun _ => rfl) (Nat.le_of_ble_eq_true rfl) ?_
  refine xy_r (xw_aload dM_binary_20 rfl) ?_
  refine xy_r (xw_aload_n dM_binary_22 rfl) ?_
  obtain ⟨g61, hF⟩ := xg_g hF
  obtain ⟨r62, er62, hF⟩ := xg_b hF
  have hm63 : s.2.2.1.2.2.2.2.2.2.1 ≤ r62.2.2.1.2.2.2.2.2.2.1 ∧ s.2.2.1.2.2.2.2.2.2.2 ≤ r62.2.2.1.2.2.2.2.2.2.2 := xy_le hm59 (show r58.2.2.1.2.2.2.2.2.2.1 ≤ r62.2.2.1.2.2.2.2.2.2.1 ∧ r58.2.2.1.2.2.2.2.2.2.2 ≤ r62.2.2.1.2.2.2.2.2.2.2 from (CN_add (w := w) (h := h) hb er62).1)
  refine xy_V0 (sm := r58.2.2.1.2.2.2.2.2.2.1) (sn := r58.2.2.1.2.2.2.2.2.2.2) (tm := r62.2.2.1.2.2.2.2.2.2.1) (tn := r62.2.2.1.2.2.2.2.2.2.2) (CN_add hb er62) rfl rfl hm59 (fun _ => rfl) (fun _ => rfl) (fun _ => rfl) (fun _ => dM_binary_23) (fun _ R => kM_257 R) (fun _ => rfl) ⟨(Nat.le_of_ble_eq_true rfl), (Nat.le_of_ble_eq_true rfl)⟩ rfl rfl (mV_n g61) (fun _ => rfl) (Nat.le_of_ble_eq_true rfl) ?_
  refine xy_r (xw_aload dM_binary_26 rfl) ?_
  obtain rfl := Option.some.inj hF
  exact xy_end (xw_areturn dM_binary_28 rfl (Or.inl ⟨_, rfl⟩) (Nat.le_refl _) (Nat.le_refl _) ⟨rfl, rfl⟩)
def FM_cell_Z_150 (l1 : Int32) (l2 : Int32) (s : xMs) : Option (Bool × xMs) := if 80 < l2 then (some (false, s)) else ((FM_look l1 s).bind fun r81 => (FM_wordSign r81 s).bind fun r82 => if r82 = true then (some (false, s)) else ((FM_look l1 s).bind fun r84 => if r84 < 97 then (some (true, (s.1, (s.2.1.1, s.2.1.2.1, s.2.1.2.2.1, s.2.1.2.2.2.1, (s.2.1.2.1 + l1), s.2.1.2.2.2.2.2.1, s.2.1.2.2.2.2.2.2.1, (l2 - 1), s.2.1.2.2.2.2.2.2.2.2), s.2.2))) else ((FM_look l1 s).bind fun r86 => if 122 < r86 then (some (true, (s.1, (s.2.1.1, s.2.1.2.1, s.2.1.2.2.1, s.2.1.2.2.2.1, (s.2.1.2.1 + l1), s.2.1.2.2.2.2.2.1, s.2.1.2.2.2.2.2.2.1, (l2 - 1), s.2.1.2.2.2.2.2.2.2.2), s.2.2))) else (some (false, s)))))
def FM_cell_Z_113 : Nat → Int32 → Int32 → xMs → Option (Bool × xMs)
  | 0, _, _, _ => none
  | fu + 1, l1, l2, s => (FM_look l1 s).bind fun r78 => if (sM_digit r78) = 0 then (FM_cell_Z_150 l1 l2 s) else (if 80 < l2 then (FM_cell_Z_150 l1 l2 s) else ((FM_look l1 s).bind fun r89 => FM_cell_Z_113 fu (l1 + 1) (((10 * l2) + r89) - 48) s))
def FM_cell_Z_31 (l1 : Int32) (s : xMs) : Option (Bool × xMs) := (FM_look l1 s).bind fun r68 => if (sM_letter r68) = 0 then (some (false, s)) else ((FM_look l1 s).bind fun r70 => (FM_look (l1 + 1) (s.1, (s.2.1.1, s.2.1.2.1, s.2.1.2.2.1, s.2.1.2.2.2.1, s.2.1.2.2.2.2.1, s.2.1.2.2.2.2.2.1, s.2.1.2.2.2.2.2.2.1, s.2.1.2.2.2.2.2.2.2.1, (r70 - 65)), s.2.2)).bind fun r71 => if r71 = 36 then ((FM_look ((l1 + 1) + 1) (s.1, (s.2.1.1, s.2.1.2.1, s.2.1.2.2.1, s.2.1.2.2.2.1, s.2.1.2.2.2.2.1, true, s.2.1.2.2.2.2.2.2.1, s.2.1.2.2.2.2.2.2.2.1, (r70 - 65)), s.2.2)).bind fun r91 => if (sM_digit r91) = 0 then (some (false, (s.1, (s.2.1.1, s.2.1.2.1, s.2.1.2.2.1, s.2.1.2.2.2.1, s.2.1.2.2.2.2.1, true, s.2.1.2.2.2.2.2.2.1, s.2.1.2.2.2.2.2.2.2.1, (r70 - 65)), s.2.2))) else ((FM_look ((l1 + 1) + 1) (s.1, (s.2.1.1, s.2.1.2.1, s.2.1.2.2.1, s.2.1.2.2.2.1, s.2.1.2.2.2.2.1, true, s.2.1.2.2.2.2.2.2.1, s.2.1.2.2.2.2.2.2.2.1, (r70 - 65)), s.2.2)).bind fun r93 => if r93 = 48 then (some (false, (s.1, (s.2.1.1, s.2.1.2.1, s.2.1.2.2.1, s.2.1.2.2.2.1, s.2.1.2.2.2.2.1, true, s.2.1.2.2.2.2.2.2.1, s.2.1.2.2.2.2.2.2.2.1, (r70 - 65)), s.2.2))) else (FM_cell_Z_113 xFuel ((l1 + 1) + 1) 0 (s.1, (s.2.1.1, s.2.1.2.1, s.2.1.2.2.1, s.2.1.2.2.2.1, s.2.1.2.2.2.2.1, true, s.2.1.2.2.2.2.2.2.1, s.2.1.2.2.2.2.2.2.2.1, (r70 - 65)), s.2.2)))) else ((FM_look (l1 + 1) (s.1, (s.2.1.1, s.2.1.2.1, s.2.1.2.2.1, s.2.1.2.2.2.1, s.2.1.2.2.2.2.1, false, s.2.1.2.2.2.2.2.2.1, s.2.1.2.2.2.2.2.2.2.1, (r70 - 65)), s.2.2)).bind fun r74 => if (sM_digit r74) = 0 then (some (false, (s.1, (s.2.1.1, s.2.1.2.1, s.2.1.2.2.1, s.2.1.2.2.2.1, s.2.1.2.2.2.2.1, false, s.2.1.2.2.2.2.2.2.1, s.2.1.2.2.2.2.2.2.2.1, (r70 - 65)), s.2.2))) else ((FM_look (l1 + 1) (s.1, (s.2.1.1, s.2.1.2.1, s.2.1.2.2.1, s.2.1.2.2.2.1, s.2.1.2.2.2.2.1, false, s.2.1.2.2.2.2.2.2.1, s.2.1.2.2.2.2.2.2.2.1, (r70 - 65)), s.2.2)).bind fun r76 => if r76 = 48 then (some (false, (s.1, (s.2.1.1, s.2.1.2.1, s.2.1.2.2.1, s.2.1.2.2.2.1, s.2.1.2.2.2.2.1, false, s.2.1.2.2.2.2.2.2.1, s.2.1.2.2.2.2.2.2.2.1, (r70 - 65)), s.2.2))) else (FM_cell_Z_113 xFuel (l1 + 1) 0 (s.1, (s.2.1.1, s.2.1.2.1, s.2.1.2.2.1, s.2.1.2.2.2.1, s.2.1.2.2.2.2.1, false, s.2.1.2.2.2.2.2.2.1, s.2.1.2.2.2.2.2.2.2.1, (r70 - 65)), s.2.2)))))
def FM_cell_Z_18 (l1 : Int32) (t1 : Bool) (s : xMs) : Option (Bool × xMs) := if t1 = true then (FM_cell_Z_31 (l1 + 1) (s.1, (s.2.1.1, s.2.1.2.1, s.2.1.2.2.1, s.2.1.2.2.2.1, s.2.1.2.2.2.2.1, s.2.1.2.2.2.2.2.1, t1, s.2.1.2.2.2.2.2.2.2), s.2.2)) else (FM_cell_Z_31 l1 (s.1, (s.2.1.1, s.2.1.2.1, s.2.1.2.2.1, s.2.1.2.2.2.1, s.2.1.2.2.2.2.1, s.2.1.2.2.2.2.2.1, t1, s.2.1.2.2.2.2.2.2.2), s.2.2))
/-- FormulaShaperModel.cell -/
def FM_cell_Z  (s : xMs) : Option (Bool × xMs) := (FM_look 0 s).bind fun r65 => if r65 = 36 then (FM_cell_Z_18 0 true s) else (FM_cell_Z_18 0 false s)
set_option maxRecDepth 20000 in
theorem CM_cell_Z_150 {w : xw_G} {h : xw_H} (hb : xMb h)  {l1 : Int32} {l2 : Int32} {s : xMs} {out : (Bool × xMs)} {h0 : xw_H} {m0 n0 : Nat} (hm : m0 ≤ s.2.2.1.2.2.2.2.2.2.1 ∧ n0 ≤ s.2.2.1.2.2.2.2.2.2.2) (hF : FM_cell_Z_150 l1 l2 s = some out) : xw_Y w mM_cell_Z 2 41 (xw_R (some (.int (xb out.1))) (mV out.2 h)) h0 m0 n0 s.2.2.1.2.2.2.2.2.2.1 s.2.2.1.2.2.2.2.2.2.2 out.2.2.2.1.2.2.2.2.2.2.1 out.2.2.2.1.2.2.2.2.2.2.2 150 [some (.ref 2000), some (.int l1), some (.int l2)] [] (mV s h) := by
  unfold FM_cell_Z_150 at hF
  refine xy_r (xw_iload_n dM_cell_Z_150 rfl) ?_
  refine xy_r (xw_bipush (80) dM_cell_Z_151 (by decide)) ?_
  refine xy_br (xw_icmp_gt 188 dM_cell_Z_153 (by decide)) (fun c80 => ?_) (fun c80 => ?_)
  · replace hF := xg_t c80 hF
    refine xy_r (xw_iconst (0) dM_cell_Z_188 (by decide)) ?_
    obtain rfl := Option.some.inj hF
    exact xy_end (xw_ireturn dM_cell_Z_189 rfl (xb_nar false) (Nat.le_refl _) (Nat.le_refl _) ⟨rfl, rfl⟩)
  · replace hF := xg_f c80 hF
    refine xy_r (xw_aload_n dM_cell_Z_156 rfl) ?_
    refine xy_r (xw_aload_n dM_cell_Z_157 rfl) ?_
    refine xy_r (xw_iload_n dM_cell_Z_158 rfl) ?_
    obtain ⟨r81, er81, hF⟩ := xg_b hF
    refine xy_q (fun hq => xg_V1 (k1 := _) (n1 := _) (CM_look er81) rfl rfl rfl dM_cell_Z_159 (kM_264 _) ⟨Nat.le_of_ble_eq_true rfl, Nat.le_of_ble_eq_true rfl⟩ rfl rfl rfl rfl (Nat.le_of_ble_eq_true rfl) (Nat.le_refl _) (Nat.le_refl _) (Nat.sub_le_sub_right hq.1 _) (Nat.sub_le_sub_right hq.2 _)) ?_
    obtain ⟨r82, er82, hF⟩ := xg_b hF
    refine xy_q (fun hq => xg_V1 (k1 := _) (n1 := _) (CM_wordSign er82) rfl rfl rfl dM_cell_Z_162 (kM_308 _) ⟨Nat.le_of_ble_eq_true rfl, Nat.le_of_ble_eq_true rfl⟩ rfl rfl rfl rfl (Nat.le_of_ble_eq_true rfl) (Nat.le_refl _) (Nat.le_refl _) (Nat.sub_le_sub_right hq.1 _) (Nat.sub_le_sub_right hq.2 _)) ?_
    refine xy_br (xw_if_neB 188 dM_cell_Z_165 (by decide)) (fun c83 => ?_) (fun c83 => ?_)
    · replace hF := xg_t c83 hF
      refine xy_r (xw_iconst (0) dM_cell_Z_188 (by decide)) ?_
      obtain rfl := Option.some.inj hF
      exact xy_end (xw_ireturn dM_cell_Z_189 rfl (xb_nar false) (Nat.le_refl _) (Nat.le_refl _) ⟨rfl, rfl⟩)
    · replace hF := xg_f c83 hF
      refine xy_r (xw_aload_n dM_cell_Z_168 rfl) ?_
      refine xy_r (xw_iload_n dM_cell_Z_169 rfl) ?_
      obtain ⟨r84, er84, hF⟩ := xg_b hF
      refine xy_q (fun hq => xg_V1 (k1 := _) (n1 := _) (CM_look er84) rfl rfl rfl dM_cell_Z_170 (kM_264 _) ⟨Nat.le_of_ble_eq_true rfl, Nat.le_of_ble_eq_true rfl⟩ rfl rfl rfl rfl (Nat.le_of_ble_eq_true rfl) (Nat.le_refl _) (Nat.le_refl _) (Nat.sub_le_sub_right hq.1 _) (Nat.sub_le_sub_right hq.2 _)) ?_
      refine xy_r (xw_bipush (97) dM_cell_Z_173 (by decide)) ?_
      refine xy_br (xw_icmp_lt 190 dM_cell_Z_175 (by decide)) (fun c85 => ?_) (fun c85 => ?_)
      · replace hF := xg_t c85 hF
        refine xy_r (xw_aload_n dM_cell_Z_190 rfl) ?_
        refine xy_r (xw_iload_n dM_cell_Z_191 rfl) ?_
        refine xy_r (xw_iconst (1) dM_cell_Z_192 (by decide)) ?_
        refine xy_r (xw_isub dM_cell_Z_193) ?_
        refine xy_r (xg_put dM_cell_Z_194 fM_311 rfl (by decide) (Nat.le_of_ble_eq_true rfl) (fun _ => rfl) (fun _ => rfl) (mV_o (s' := (s.1, (s.2.1.1, s.2.1.2.1, s.2.1.2.2.1, s.2.1.2.2.2.1, s.2.1.2.2.2.2.1, s.2.1.2.2.2.2.2.1, s.2.1.2.2.2.2.2.2.1, (l2 - 1), s.2.1.2.2.2.2.2.2.2.2), s.2.2)) rfl)) ?_
        refine xy_r (xw_aload_n dM_cell_Z_197 rfl) ?_
        refine xy_r (xw_aload_n dM_cell_Z_198 rfl) ?_
        refine xy_r (xw_get dM_cell_Z_199 fM_221 rfl rfl) ?_
        refine xy_r (xw_iload_n dM_cell_Z_202 rfl) ?_
        refine xy_r (xw_iadd dM_cell_Z_203) ?_
        refine xy_r (xg_put dM_cell_Z_204 fM_314 rfl (by decide) (Nat.le_of_ble_eq_true rfl) (fun _ => rfl) (fun _ => rfl) (mV_o (s' := (s.1, (s.2.1.1, s.2.1.2.1, s.2.1.2.2.1, s.2.1.2.2.2.1, (s.2.1.2.1 + l1), s.2.1.2.2.2.2.2.1, s.2.1.2.2.2.2.2.2.1, (l2 - 1), s.2.1.2.2.2.2.2.2.2.2), s.2.2)) rfl)) ?_
        refine xy_r (xw_iconst (1) dM_cell_Z_207 (by decide)) ?_
        obtain rfl := Option.some.inj hF
        exact xy_end (xw_ireturn dM_cell_Z_208 rfl (xb_nar true) (Nat.le_refl _) (Nat.le_refl _) ⟨rfl, rfl⟩)
      · replace hF := xg_f c85 hF
        refine xy_r (xw_aload_n dM_cell_Z_178 rfl) ?_
        refine xy_r (xw_iload_n dM_cell_Z_179 rfl) ?_
        obtain ⟨r86, er86, hF⟩ := xg_b hF
        refine xy_q (fun hq => xg_V1 (k1 := _) (n1 := _) (CM_look er86) rfl rfl rfl dM_cell_Z_180 (kM_264 _) ⟨Nat.le_of_ble_eq_true rfl, Nat.le_of_ble_eq_true rfl⟩ rfl rfl rfl rfl (Nat.le_of_ble_eq_true rfl) (Nat.le_refl _) (Nat.le_refl _) (Nat.sub_le_sub_right hq.1 _) (Nat.sub_le_sub_right hq.2 _)) ?_
        refine xy_r (xw_bipush (122) dM_cell_Z_183 (by decide)) ?_
        refine xy_br (xw_icmp_gt 190 dM_cell_Z_185 (by decide)) (fun c87 => ?_) (fun c87 => ?_)
        · replace hF := xg_t c87 hF
          refine xy_r (xw_aload_n dM_cell_Z_190 rfl) ?_
          refine xy_r (xw_iload_n dM_cell_Z_191 rfl) ?_
          refine xy_r (xw_iconst (1) dM_cell_Z_192 (by decide)) ?_
          refine xy_r (xw_isub dM_cell_Z_193) ?_
          refine xy_r (xg_put dM_cell_Z_194 fM_311 rfl (by decide) (Nat.le_of_ble_eq_true rfl) (fun _ => rfl) (fun _ => rfl) (mV_o (s' := (s.1, (s.2.1.1, s.2.1.2.1, s.2.1.2.2.1, s.2.1.2.2.2.1, s.2.1.2.2.2.2.1, s.2.1.2.2.2.2.2.1, s.2.1.2.2.2.2.2.2.1, (l2 - 1), s.2.1.2.2.2.2.2.2.2.2), s.2.2)) rfl)) ?_
          refine xy_r (xw_aload_n dM_cell_Z_197 rfl) ?_
          refine xy_r (xw_aload_n dM_cell_Z_198 rfl) ?_
          refine xy_r (xw_get dM_cell_Z_199 fM_221 rfl rfl) ?_
          refine xy_r (xw_iload_n dM_cell_Z_202 rfl) ?_
          refine xy_r (xw_iadd dM_cell_Z_203) ?_
          refine xy_r (xg_put dM_cell_Z_204 fM_314 rfl (by decide) (Nat.le_of_ble_eq_true rfl) (fun _ => rfl) (fun _ => rfl) (mV_o (s' := (s.1, (s.2.1.1, s.2.1.2.1, s.2.1.2.2.1, s.2.1.2.2.2.1, (s.2.1.2.1 + l1), s.2.1.2.2.2.2.2.1, s.2.1.2.2.2.2.2.2.1, (l2 - 1), s.2.1.2.2.2.2.2.2.2.2), s.2.2)) rfl)) ?_
          refine xy_r (xw_iconst (1) dM_cell_Z_207 (by decide)) ?_
          obtain rfl := Option.some.inj hF
          exact xy_end (xw_ireturn dM_cell_Z_208 rfl (xb_nar true) (Nat.le_refl _) (Nat.le_refl _) ⟨rfl, rfl⟩)
        · replace hF := xg_f c87 hF
          refine xy_r (xw_iconst (0) dM_cell_Z_188 (by decide)) ?_
          obtain rfl := Option.some.inj hF
          exact xy_end (xw_ireturn dM_cell_Z_189 rfl (xb_nar false) (Nat.le_refl _) (Nat.le_refl _) ⟨rfl, rfl⟩)
set_option maxRecDepth 20000 in
theorem CM_cell_Z_113 {w : xw_G} {h : xw_H} (hb : xMb h)  : ∀ (fu : Nat) {l1 : Int32} {l2 : Int32} {s : xMs} {out : (Bool × xMs)} {h0 : xw_H} {m0 n0 : Nat} (hm : m0 ≤ s.2.2.1.2.2.2.2.2.2.1 ∧ n0 ≤ s.2.2.1.2.2.2.2.2.2.2), FM_cell_Z_113 fu l1 l2 s = some out → xw_Y w mM_cell_Z 2 41 (xw_R (some (.int (xb out.1))) (mV out.2 h)) h0 m0 n0 s.2.2.1.2.2.2.2.2.2.1 s.2.2.1.2.2.2.2.2.2.2 out.2.2.2.1.2.2.2.2.2.2.1 out.2.2.2.1.2.2.2.2.2.2.2 113 [some (.ref 2000), some (.int l1), some (.int l2)] [] (mV s h) := by
  intro fu
  induction fu with
  | zero =>
    intro l1 l2 s out h0 m0 n0 hm hF
    rw [FM_cell_Z_113] at hF
    cases hF
  | succ fu ih =>
    intro l1 l2 s out h0 m0 n0 hm hF
    rw [FM_cell_Z_113] at hF
    refine xy_r (xw_aload_n dM_cell_Z_113 rfl) ?_
    refine xy_r (xw_iload_n dM_cell_Z_114 rfl) ?_
    obtain ⟨r78, er78, hF⟩ := xg_b hF
    refine xy_q (fun hq => xg_V1 (k1 := _) (n1 := _) (CM_look er78) rfl rfl rfl dM_cell_Z_115 (kM_264 _) ⟨Nat.le_of_ble_eq_true rfl, Nat.le_of_ble_eq_true rfl⟩ rfl rfl rfl rfl (Nat.le_of_ble_eq_true rfl) (Nat.le_refl _) (Nat.le_refl _) (Nat.sub_le_sub_right hq.1 _) (Nat.sub_le_sub_right hq.2 _)) ?_
    refine xy_q (fun hq => xg_S1 (k1 := _) (n1 := _) (cM_digit w) rfl rfl rfl dM_cell_Z_118 (kM_295 _) ⟨Nat.le_of_ble_eq_true rfl, Nat.le_of_ble_eq_true rfl⟩ rfl rfl (Nat.le_of_ble_eq_true rfl) (Nat.le_refl _) (Nat.le_refl _) (Nat.sub_le_sub_right hq.1 _) (Nat.sub_le_sub_right hq.2 _)) ?_
    refine xy_br (xw_if_eq 150 dM_cell_Z_121 (by decide)) (fun c79 => ?_) (fun c79 => ?_)
    · replace hF := xg_t c79 hF
      exact CM_cell_Z_150 hb hm hF
    · replace hF := xg_f c79 hF
      refine xy_r (xw_iload_n dM_cell_Z_124 rfl) ?_
      refine xy_r (xw_bipush (80) dM_cell_Z_125 (by decide)) ?_
      refine xy_br (xw_icmp_gt 150 dM_cell_Z_127 (by decide)) (fun c88 => ?_) (fun c88 => ?_)
      · replace hF := xg_t c88 hF
        exact CM_cell_Z_150 hb hm hF
      · replace hF := xg_f c88 hF
        refine xy_r (xw_bipush (10) dM_cell_Z_130 (by decide)) ?_
        refine xy_r (xw_iload_n dM_cell_Z_132 rfl) ?_
        refine xy_r (xw_imul dM_cell_Z_133) ?_
        refine xy_r (xw_aload_n dM_cell_Z_134 rfl) ?_
        refine xy_r (xw_iload_n dM_cell_Z_135 rfl) ?_
        obtain ⟨r89, er89, hF⟩ := xg_b hF
        refine xy_q (fun hq => xg_V1 (k1 := _) (n1 := _) (CM_look er89) rfl rfl rfl dM_cell_Z_136 (kM_264 _) ⟨Nat.le_of_ble_eq_true rfl, Nat.le_of_ble_eq_true rfl⟩ rfl rfl rfl rfl (Nat.le_of_ble_eq_true rfl) (Nat.le_refl _) (Nat.le_refl _) (Nat.sub_le_sub_right hq.1 _) (Nat.sub_le_sub_right hq.2 _)) ?_
        refine xy_r (xw_iadd dM_cell_Z_139) ?_
        refine xy_r (xw_bipush (48) dM_cell_Z_140 (by decide)) ?_
        refine xy_r (xw_isub dM_cell_Z_142) ?_
        refine xy_r (xw_istore_n dM_cell_Z_143 (Nat.le_of_ble_eq_true rfl)) ?_
        refine xy_r (xw_Ln (L' := [some (.ref 2000), some (.int l1), some (.int (((10 * l2) + r89) - 48))]) rfl) ?_
        refine xy_r (xw_iinc ((l1 + 1)) dM_cell_Z_144 rfl rfl (Nat.le_of_ble_eq_true rfl)) ?_
        refine xy_r (xw_Ln (L' := [some (.ref 2000), some (.int (l1 + 1)), some (.int (((10 * l2) + r89) - 48))]) rfl) ?_
        refine xy_r (xw_goto 113 dM_cell_Z_147 (by decide)) ?_
        exact ih hm hF
set_option maxRecDepth 20000 in
theorem CM_cell_Z_31 {w : xw_G} {h : xw_H} (hb : xMb h)  {l1 : Int32} {s : xMs} {out : (Bool × xMs)} {h0 : xw_H} {m0 n0 : Nat} (hm : m0 ≤ s.2.2.1.2.2.2.2.2.2.1 ∧ n0 ≤ s.2.2.1.2.2.2.2.2.2.2) (hF : FM_cell_Z_31 l1 s = some out) : xw_Y w mM_cell_Z 2 41 (xw_R (some (.int (xb out.1))) (mV out.2 h)) h0 m0 n0 s.2.2.1.2.2.2.2.2.2.1 s.2.2.1.2.2.2.2.2.2.2 out.2.2.2.1.2.2.2.2.2.2.1 out.2.2.2.1.2.2.2.2.2.2.2 31 [some (.ref 2000), some (.int l1), none] [] (mV s h) := by
  unfold FM_cell_Z_31 at hF
  refine xy_r (xw_aload_n dM_cell_Z_31 rfl) ?_
  refine xy_r (xw_iload_n dM_cell_Z_32 rfl) ?_
  obtain ⟨r68, er68, hF⟩ := xg_b hF
  refine xy_q (fun hq => xg_V1 (k1 := _) (n1 := _) (CM_look er68) rfl rfl rfl dM_cell_Z_33 (kM_264 _) ⟨Nat.le_of_ble_eq_true rfl, Nat.le_of_ble_eq_true rfl⟩ rfl rfl rfl rfl (Nat.le_of_ble_eq_true rfl) (Nat.le_refl _) (Nat.le_refl _) (Nat.sub_le_sub_right hq.1 _) (Nat.sub_le_sub_right hq.2 _)) ?_
  refine xy_q (fun hq => xg_S1 (k1 := _) (n1 := _) (cM_letter w) rfl rfl rfl dM_cell_Z_36 (kM_292 _) ⟨Nat.le_of_ble_eq_true rfl, Nat.le_of_ble_eq_true rfl⟩ rfl rfl (Nat.le_of_ble_eq_true rfl) (Nat.le_refl _) (Nat.le_refl _) (Nat.sub_le_sub_right hq.1 _) (Nat.sub_le_sub_right hq.2 _)) ?_
  refine xy_brn (xw_if_ne 44 dM_cell_Z_39 (by decide)) (fun c69 => ?_) (fun c69 => ?_)
  · replace hF := xg_f c69 hF
    refine xy_r (xw_aload_n dM_cell_Z_44 rfl) ?_
    refine xy_r (xw_aload_n dM_cell_Z_45 rfl) ?_
    refine xy_r (xw_iload_n dM_cell_Z_46 rfl) ?_
    obtain ⟨r70, er70, hF⟩ := xg_b hF
    refine xy_q (fun hq => xg_V1 (k1 := _) (n1 := _) (CM_look er70) rfl rfl rfl dM_cell_Z_47 (kM_264 _) ⟨Nat.le_of_ble_eq_true rfl, Nat.le_of_ble_eq_true rfl⟩ rfl rfl rfl rfl (Nat.le_of_ble_eq_true rfl) (Nat.le_refl _) (Nat.le_refl _) (Nat.sub_le_sub_right hq.1 _) (Nat.sub_le_sub_right hq.2 _)) ?_
    refine xy_r (xw_bipush (65) dM_cell_Z_50 (by decide)) ?_
    refine xy_r (xw_isub dM_cell_Z_52) ?_
    refine xy_r (xg_put dM_cell_Z_53 fM_302 rfl (by decide) (Nat.le_of_ble_eq_true rfl) (fun _ => rfl) (fun _ => rfl) (mV_o (s' := (s.1, (s.2.1.1, s.2.1.2.1, s.2.1.2.2.1, s.2.1.2.2.2.1, s.2.1.2.2.2.2.1, s.2.1.2.2.2.2.2.1, s.2.1.2.2.2.2.2.2.1, s.2.1.2.2.2.2.2.2.2.1, (r70 - 65)), s.2.2)) rfl)) ?_
    refine xy_r (xw_iinc ((l1 + 1)) dM_cell_Z_56 rfl rfl (Nat.le_of_ble_eq_true rfl)) ?_
    refine xy_r (xw_Ln (L' := [some (.ref 2000), some (.int (l1 + 1)), none]) rfl) ?_
    refine xy_r (xw_aload_n dM_cell_Z_59 rfl) ?_
    refine xy_r (xw_aload_n dM_cell_Z_60 rfl) ?_
    refine xy_r (xw_iload_n dM_cell_Z_61 rfl) ?_
    obtain ⟨r71, er71, hF⟩ := xg_b hF
    refine xy_q (fun hq => xg_V1 (k1 := _) (n1 := _) (CM_look er71) rfl rfl rfl dM_cell_Z_62 (kM_264 _) ⟨Nat.le_of_ble_eq_true rfl, Nat.le_of_ble_eq_true rfl⟩ rfl rfl rfl rfl (Nat.le_of_ble_eq_true rfl) (Nat.le_refl _) (Nat.le_refl _) (Nat.sub_le_sub_right hq.1 _) (Nat.sub_le_sub_right hq.2 _)) ?_
    refine xy_r (xw_bipush (36) dM_cell_Z_65 (by decide)) ?_
    refine xy_brn (xw_icmp_ne 74 dM_cell_Z_67 (by decide)) (fun c72 => ?_) (fun c72 => ?_)
    · replace hF := xg_f c72 hF
      refine xy_r (xw_iconst (0) dM_cell_Z_74 (by decide)) ?_
      refine xy_r (xg_put dM_cell_Z_75 fM_305 rfl (by decide) (Nat.le_of_ble_eq_true rfl) (fun _ => xb_nar false) (fun _ => xb_fit false) (mV_o (s' := (s.1, (s.2.1.1, s.2.1.2.1, s.2.1.2.2.1, s.2.1.2.2.2.1, s.2.1.2.2.2.2.1, false, s.2.1.2.2.2.2.2.2.1, s.2.1.2.2.2.2.2.2.2.1, (r70 - 65)), s.2.2)) rfl)) ?_
      refine xy_r (xw_aload_n dM_cell_Z_78 rfl) ?_
      refine xy_r (xw_get dM_cell_Z_79 fM_305 rfl rfl) ?_
      refine xy_r (fun k9 => xw_if_eq 88 dM_cell_Z_82 (by decide) (fun _ => k9) (fun q => absurd q (by decide))) ?_
      refine xy_r (xw_aload_n dM_cell_Z_88 rfl) ?_
      refine xy_r (xw_iload_n dM_cell_Z_89 rfl) ?_
      obtain ⟨r74, er74, hF⟩ := xg_b hF
      refine xy_q (fun hq => xg_V1 (k1 := _) (n1 := _) (CM_look er74) rfl rfl rfl dM_cell_Z_90 (kM_264 _) ⟨Nat.le_of_ble_eq_true rfl, Nat.le_of_ble_eq_true rfl⟩ rfl rfl rfl rfl (Nat.le_of_ble_eq_true rfl) (Nat.le_refl _) (Nat.le_refl _) (Nat.sub_le_sub_right hq.1 _) (Nat.sub_le_sub_right hq.2 _)) ?_
      refine xy_q (fun hq => xg_S1 (k1 := _) (n1 := _) (cM_digit w) rfl rfl rfl dM_cell_Z_93 (kM_295 _) ⟨Nat.le_of_ble_eq_true rfl, Nat.le_of_ble_eq_true rfl⟩ rfl rfl (Nat.le_of_ble_eq_true rfl) (Nat.le_refl _) (Nat.le_refl _) (Nat.sub_le_sub_right hq.1 _) (Nat.sub_le_sub_right hq.2 _)) ?_
      refine xy_br (xw_if_eq 109 dM_cell_Z_96 (by decide)) (fun c75 => ?_) (fun c75 => ?_)
      · replace hF := xg_t c75 hF
        refine xy_r (xw_iconst (0) dM_cell_Z_109 (by decide)) ?_
        obtain rfl := Option.some.inj hF
        exact xy_end (xw_ireturn dM_cell_Z_110 rfl (xb_nar false) (Nat.le_refl _) (Nat.le_refl _) ⟨rfl, rfl⟩)
      · replace hF := xg_f c75 hF
        refine xy_r (xw_aload_n dM_cell_Z_99 rfl) ?_
        refine xy_r (xw_iload_n dM_cell_Z_100 rfl) ?_
        obtain ⟨r76, er76, hF⟩ := xg_b hF
        refine xy_q (fun hq => xg_V1 (k1 := _) (n1 := _) (CM_look er76) rfl rfl rfl dM_cell_Z_101 (kM_264 _) ⟨Nat.le_of_ble_eq_true rfl, Nat.le_of_ble_eq_true rfl⟩ rfl rfl rfl rfl (Nat.le_of_ble_eq_true rfl) (Nat.le_refl _) (Nat.le_refl _) (Nat.sub_le_sub_right hq.1 _) (Nat.sub_le_sub_right hq.2 _)) ?_
        refine xy_r (xw_bipush (48) dM_cell_Z_104 (by decide)) ?_
        refine xy_brn (xw_icmp_ne 111 dM_cell_Z_106 (by decide)) (fun c77 => ?_) (fun c77 => ?_)
        · replace hF := xg_f c77 hF
          refine xy_r (xw_iconst (0) dM_cell_Z_111 (by decide)) ?_
          refine xy_r (xw_istore_n dM_cell_Z_112 (Nat.le_of_ble_eq_true rfl)) ?_
          refine xy_r (xw_Ln (L' := [some (.ref 2000), some (.int (l1 + 1)), some (.int 0)]) rfl) ?_
          exact CM_cell_Z_113 hb xFuel hm hF
        · replace hF := xg_t c77 hF
          refine xy_r (xw_iconst (0) dM_cell_Z_109 (by decide)) ?_
          obtain rfl := Option.some.inj hF
          exact xy_end (xw_ireturn dM_cell_Z_110 rfl (xb_nar false) (Nat.le_refl _) (Nat.le_refl _) ⟨rfl, rfl⟩)
    · replace hF := xg_t c72 hF
      refine xy_r (xw_iconst (1) dM_cell_Z_70 (by decide)) ?_
      refine xy_r (xw_goto 75 dM_cell_Z_71 (by decide)) ?_
      refine xy_r (xg_put dM_cell_Z_75 fM_305 rfl (by decide) (Nat.le_of_ble_eq_true rfl) (fun _ => xb_nar true) (fun _ => xb_fit true) (mV_o (s' := (s.1, (s.2.1.1, s.2.1.2.1, s.2.1.2.2.1, s.2.1.2.2.2.1, s.2.1.2.2.2.2.1, true, s.2.1.2.2.2.2.2.2.1, s.2.1.2.2.2.2.2.2.2.1, (r70 - 65)), s.2.2)) rfl)) ?_
      refine xy_r (xw_aload_n dM_cell_Z_78 rfl) ?_
      refine xy_r (xw_get dM_cell_Z_79 fM_305 rfl rfl) ?_
      refine xy_r (fun k9 => xw_if_eq 88 dM_cell_Z_82 (by decide) (fun q => absurd q (by decide)) (fun _ => k9)) ?_
      refine xy_r (xw_iinc (((l1 + 1) + 1)) dM_cell_Z_85 rfl rfl (Nat.le_of_ble_eq_true rfl)) ?_
      refine xy_r (xw_Ln (L' := [some (.ref 2000), some (.int ((l1 + 1) + 1)), none]) rfl) ?_
      refine xy_r (xw_aload_n dM_cell_Z_88 rfl) ?_
      refine xy_r (xw_iload_n dM_cell_Z_89 rfl) ?_
      obtain ⟨r91, er91, hF⟩ := xg_b hF
      refine xy_q (fun hq => xg_V1 (k1 := _) (n1 := _) (CM_look er91) rfl rfl rfl dM_cell_Z_90 (kM_264 _) ⟨Nat.le_of_ble_eq_true rfl, Nat.le_of_ble_eq_true rfl⟩ rfl rfl rfl rfl (Nat.le_of_ble_eq_true rfl) (Nat.le_refl _) (Nat.le_refl _) (Nat.sub_le_sub_right hq.1 _) (Nat.sub_le_sub_right hq.2 _)) ?_
      refine xy_q (fun hq => xg_S1 (k1 := _) (n1 := _) (cM_digit w) rfl rfl rfl dM_cell_Z_93 (kM_295 _) ⟨Nat.le_of_ble_eq_true rfl, Nat.le_of_ble_eq_true rfl⟩ rfl rfl (Nat.le_of_ble_eq_true rfl) (Nat.le_refl _) (Nat.le_refl _) (Nat.sub_le_sub_right hq.1 _) (Nat.sub_le_sub_right hq.2 _)) ?_
      refine xy_br (xw_if_eq 109 dM_cell_Z_96 (by decide)) (fun c92 => ?_) (fun c92 => ?_)
      · replace hF := xg_t c92 hF
        refine xy_r (xw_iconst (0) dM_cell_Z_109 (by decide)) ?_
        obtain rfl := Option.some.inj hF
        exact xy_end (xw_ireturn dM_cell_Z_110 rfl (xb_nar false) (Nat.le_refl _) (Nat.le_refl _) ⟨rfl, rfl⟩)
      · replace hF := xg_f c92 hF
        refine xy_r (xw_aload_n dM_cell_Z_99 rfl) ?_
        refine xy_r (xw_iload_n dM_cell_Z_100 rfl) ?_
        obtain ⟨r93, er93, hF⟩ := xg_b hF
        refine xy_q (fun hq => xg_V1 (k1 := _) (n1 := _) (CM_look er93) rfl rfl rfl dM_cell_Z_101 (kM_264 _) ⟨Nat.le_of_ble_eq_true rfl, Nat.le_of_ble_eq_true rfl⟩ rfl rfl rfl rfl (Nat.le_of_ble_eq_true rfl) (Nat.le_refl _) (Nat.le_refl _) (Nat.sub_le_sub_right hq.1 _) (Nat.sub_le_sub_right hq.2 _)) ?_
        refine xy_r (xw_bipush (48) dM_cell_Z_104 (by decide)) ?_
        refine xy_brn (xw_icmp_ne 111 dM_cell_Z_106 (by decide)) (fun c94 => ?_) (fun c94 => ?_)
        · replace hF := xg_f c94 hF
          refine xy_r (xw_iconst (0) dM_cell_Z_111 (by decide)) ?_
          refine xy_r (xw_istore_n dM_cell_Z_112 (Nat.le_of_ble_eq_true rfl)) ?_
          refine xy_r (xw_Ln (L' := [some (.ref 2000), some (.int ((l1 + 1) + 1)), some (.int 0)]) rfl) ?_
          exact CM_cell_Z_113 hb xFuel hm hF
        · replace hF := xg_t c94 hF
          refine xy_r (xw_iconst (0) dM_cell_Z_109 (by decide)) ?_
          obtain rfl := Option.some.inj hF
          exact xy_end (xw_ireturn dM_cell_Z_110 rfl (xb_nar false) (Nat.le_refl _) (Nat.le_refl _) ⟨rfl, rfl⟩)
  · replace hF := xg_t c69 hF
    refine xy_r (xw_iconst (0) dM_cell_Z_42 (by decide)) ?_
    obtain rfl := Option.some.inj hF
    exact xy_end (xw_ireturn dM_cell_Z_43 rfl (xb_nar false) (Nat.le_refl _) (Nat.le_refl _) ⟨rfl, rfl⟩)
set_option maxRecDepth 20000 in
theorem CM_cell_Z_18 {w : xw_G} {h : xw_H} (hb : xMb h)  {l1 : Int32} {t1 : Bool} {s : xMs} {out : (Bool × xMs)} {h0 : xw_H} {m0 n0 : Nat} (hm : m0 ≤ s.2.2.1.2.2.2.2.2.2.1 ∧ n0 ≤ s.2.2.1.2.2.2.2.2.2.2) (hF : FM_cell_Z_18 l1 t1 s = some out) : xw_Y w mM_cell_Z 2 41 (xw_R (some (.int (xb out.1))) (mV out.2 h)) h0 m0 n0 s.2.2.1.2.2.2.2.2.2.1 s.2.2.1.2.2.2.2.2.2.2 out.2.2.2.1.2.2.2.2.2.2.1 out.2.2.2.1.2.2.2.2.2.2.2 18 [some (.ref 2000), some (.int l1), none] [.int (xb t1), .ref 2000] (mV s h) := by
  unfold FM_cell_Z_18 at hF
  refine xy_r (xg_put dM_cell_Z_18 fM_298 rfl (by decide) (Nat.le_of_ble_eq_true rfl) (fun _ => xb_nar t1) (fun _ => xb_fit t1) (mV_o (s' := (s.1, (s.2.1.1, s.2.1.2.1, s.2.1.2.2.1, s.2.1.2.2.2.1, s.2.1.2.2.2.2.1, s.2.1.2.2.2.2.2.1, t1, s.2.1.2.2.2.2.2.2.2), s.2.2)) rfl)) ?_
  refine xy_r (xw_aload_n dM_cell_Z_21 rfl) ?_
  refine xy_r (xw_get dM_cell_Z_22 fM_298 rfl rfl) ?_
  refine xy_brn (xw_if_eqB 31 dM_cell_Z_25 (by decide)) (fun c67 => ?_) (fun c67 => ?_)
  · replace hF := xg_f c67 hF
    exact CM_cell_Z_31 hb hm hF
  · replace hF := xg_t c67 hF
    refine xy_r (xw_iinc ((l1 + 1)) dM_cell_Z_28 rfl rfl (Nat.le_of_ble_eq_true rfl)) ?_
    refine xy_r (xw_Ln (L' := [some (.ref 2000), some (.int (l1 + 1)), none]) rfl) ?_
    exact CM_cell_Z_31 hb hm hF
set_option maxRecDepth 20000 in
theorem CM_cell_Z {w : xw_G} {h : xw_H} (hb : xMb h)  {s : xMs} {out : (Bool × xMs)} (hF : FM_cell_Z  s = some out) : (s.2.2.1.2.2.2.2.2.2.1 ≤ out.2.2.2.1.2.2.2.2.2.2.1 ∧ s.2.2.1.2.2.2.2.2.2.2 ≤ out.2.2.2.1.2.2.2.2.2.2.2) ∧ xw_C w (mM_cell_Z { frames := 2, cells := out.2.2.2.1.2.2.2.2.2.2.1 - s.2.2.1.2.2.2.2.2.2.1, slots := out.2.2.2.1.2.2.2.2.2.2.2 - s.2.2.1.2.2.2.2.2.2.2, locals := 41 }) (xw_R (some (.int (xb out.1))) (mV out.2 h)) [.ref 2000] (mV s h) := by
  unfold FM_cell_Z at hF
  refine xy_enter (L := [some (.ref 2000), none, none]) (fun _ => rfl) (fun _ => rfl) (fun _ => (show plainName "FormulaShaperModel" = true by decide +kernel)) (fun _ => (Nat.le_of_ble_eq_true rfl)) (fun _ => rfl) ?_
  have hm : s.2.2.1.2.2.2.2.2.2.1 ≤ s.2.2.1.2.2.2.2.2.2.1 ∧ s.2.2.1.2.2.2.2.2.2.2 ≤ s.2.2.1.2.2.2.2.2.2.2 := ⟨Nat.le_refl _, Nat.le_refl _⟩
  refine xy_r (xw_iconst (0) dM_cell_Z_0 (by decide)) ?_
  refine xy_r (xw_istore_n dM_cell_Z_1 (Nat.le_of_ble_eq_true rfl)) ?_
  refine xy_r (xw_Ln (L' := [some (.ref 2000), some (.int 0), none]) rfl) ?_
  refine xy_r (xw_aload_n dM_cell_Z_2 rfl) ?_
  refine xy_r (xw_aload_n dM_cell_Z_3 rfl) ?_
  refine xy_r (xw_iload_n dM_cell_Z_4 rfl) ?_
  obtain ⟨r65, er65, hF⟩ := xg_b hF
  refine xy_q (fun hq => xg_V1 (k1 := _) (n1 := _) (CM_look er65) rfl rfl rfl dM_cell_Z_5 (kM_264 _) ⟨Nat.le_of_ble_eq_true rfl, Nat.le_of_ble_eq_true rfl⟩ rfl rfl rfl rfl (Nat.le_of_ble_eq_true rfl) (Nat.le_refl _) (Nat.le_refl _) (Nat.sub_le_sub_right hq.1 _) (Nat.sub_le_sub_right hq.2 _)) ?_
  refine xy_r (xw_bipush (36) dM_cell_Z_8 (by decide)) ?_
  refine xy_brn (xw_icmp_ne 17 dM_cell_Z_10 (by decide)) (fun c66 => ?_) (fun c66 => ?_)
  · replace hF := xg_f c66 hF
    refine xy_r (xw_iconst (0) dM_cell_Z_17 (by decide)) ?_
    exact CM_cell_Z_18 hb hm hF
  · replace hF := xg_t c66 hF
    refine xy_r (xw_iconst (1) dM_cell_Z_13 (by decide)) ?_
    refine xy_r (xw_goto 18 dM_cell_Z_14 (by decide)) ?_
    exact CM_cell_Z_18 hb hm hF
def FM_wordLength_2 : Nat → Int32 → xMs → Option Int32
  | 0, _, _ => none
  | fu + 1, l1, s => (FM_look l1 s).bind fun r95 => (FM_wordSign r95 s).bind fun r96 => if r96 = true then (FM_wordLength_2 fu (l1 + 1) s) else ((FM_peek s).bind fun r98 => if (sM_letter r98) = 0 then (some 0) else (some l1))
/-- FormulaShaperModel.wordLength -/
def FM_wordLength  (s : xMs) : Option Int32 := FM_wordLength_2 xFuel 0 s
set_option maxRecDepth 20000 in
theorem CM_wordLength_2 {w : xw_G} {h : xw_H}  : ∀ (fu : Nat) {l1 : Int32} {s : xMs} {out : Int32} {h0 : xw_H}, FM_wordLength_2 fu l1 s = some out → xw_X w (mM_wordLength { frames := 2, cells := 0, slots := 0, locals := 41 }) (xw_R (some (.int out)) (mV s h)) h0 0 0 2 [some (.ref 2000), some (.int l1)] [] (mV s h) := by
  intro fu
  induction fu with
  | zero =>
    intro l1 s out h0 hF
    rw [FM_wordLength_2] at hF
    cases hF
  | succ fu ih =>
    intro l1 s out h0 hF
    rw [FM_wordLength_2] at hF
    refine xw_aload_n dM_wordLength_2 rfl ?_
    refine xw_aload_n dM_wordLength_3 rfl ?_
    refine xw_iload_n dM_wordLength_4 rfl ?_
    obtain ⟨r95, er95, hF⟩ := xg_b hF
    refine xg_V1 (k1 := 0) (n1 := 0) (CM_look er95) rfl rfl rfl dM_wordLength_5 (kM_264 _) ⟨Nat.le_of_ble_eq_true rfl, Nat.le_of_ble_eq_true rfl⟩ rfl rfl rfl rfl (Nat.le_of_ble_eq_true rfl) (Nat.le_of_ble_eq_true rfl) (Nat.le_of_ble_eq_true rfl) (Nat.le_of_ble_eq_true rfl) (Nat.le_of_ble_eq_true rfl) ?_
    obtain ⟨r96, er96, hF⟩ := xg_b hF
    refine xg_V1 (k1 := 0) (n1 := 0) (CM_wordSign er96) rfl rfl rfl dM_wordLength_8 (kM_308 _) ⟨Nat.le_of_ble_eq_true rfl, Nat.le_of_ble_eq_true rfl⟩ rfl rfl rfl rfl (Nat.le_of_ble_eq_true rfl) (Nat.le_of_ble_eq_true rfl) (Nat.le_of_ble_eq_true rfl) (Nat.le_of_ble_eq_true rfl) (Nat.le_of_ble_eq_true rfl) ?_
    refine xw_if_eqB 20 dM_wordLength_11 (by decide) (fun c97 => ?_) (fun c97 => ?_)
    · replace hF := xg_f c97 hF
      refine xw_aload_n dM_wordLength_20 rfl ?_
      obtain ⟨r98, er98, hF⟩ := xg_b hF
      refine xg_V1 (k1 := 0) (n1 := 0) (CM_peek er98) rfl rfl rfl dM_wordLength_21 (kM_230 _) ⟨Nat.le_of_ble_eq_true rfl, Nat.le_of_ble_eq_true rfl⟩ rfl rfl rfl rfl (Nat.le_of_ble_eq_true rfl) (Nat.le_of_ble_eq_true rfl) (Nat.le_of_ble_eq_true rfl) (Nat.le_of_ble_eq_true rfl) (Nat.le_of_ble_eq_true rfl) ?_
      refine xg_S1 (k1 := 0) (n1 := 0) (cM_letter w) rfl rfl rfl dM_wordLength_24 (kM_292 _) ⟨Nat.le_of_ble_eq_true rfl, Nat.le_of_ble_eq_true rfl⟩ rfl rfl (Nat.le_of_ble_eq_true rfl) (Nat.le_of_ble_eq_true rfl) (Nat.le_of_ble_eq_true rfl) (Nat.le_of_ble_eq_true rfl) (Nat.le_of_ble_eq_true rfl) ?_
      refine xw_if_eq 34 dM_wordLength_27 (by decide) (fun c99 => ?_) (fun c99 => ?_)
      · replace hF := xg_t c99 hF
        refine xw_iconst (0) dM_wordLength_34 (by decide) ?_
        obtain rfl := Option.some.inj hF
        exact xw_ireturn dM_wordLength_35 rfl rfl (Nat.le_of_ble_eq_true rfl) (Nat.le_of_ble_eq_true rfl) ⟨rfl, rfl⟩
      · replace hF := xg_f c99 hF
        refine xw_iload_n dM_wordLength_30 rfl ?_
        refine xw_goto 35 dM_wordLength_31 (by decide) ?_
        obtain rfl := Option.some.inj hF
        exact xw_ireturn dM_wordLength_35 rfl rfl (Nat.le_of_ble_eq_true rfl) (Nat.le_of_ble_eq_true rfl) ⟨rfl, rfl⟩
    · replace hF := xg_t c97 hF
      refine xw_iinc ((l1 + 1)) dM_wordLength_14 rfl rfl (Nat.le_of_ble_eq_true rfl) ?_
      refine xw_Ln (L' := [some (.ref 2000), some (.int (l1 + 1))]) rfl ?_
      refine xw_goto 2 dM_wordLength_17 (by decide) ?_
      exact ih hF
set_option maxRecDepth 20000 in
theorem CM_wordLength {w : xw_G} {h : xw_H}  {s : xMs} {out : Int32} (hF : FM_wordLength  s = some out) : xw_C w (mM_wordLength { frames := 2, cells := 0, slots := 0, locals := 41 }) (xw_R (some (.int out)) (mV s h)) [.ref 2000] (mV s h) := by
  unfold FM_wordLength at hF
  refine xw_enter rfl (show plainName "FormulaShaperModel" = true by decide +kernel) (Nat.le_of_ble_eq_true rfl) ?_
  refine xw_iconst (0) dM_wordLength_0 (by decide) ?_
  refine xw_istore_n dM_wordLength_1 (Nat.le_of_ble_eq_true rfl) ?_
  refine xw_Ln (L' := [some (.ref 2000), some (.int 0)]) rfl ?_
  exact CM_wordLength_2 xFuel hF
def FM_wordOf_5 : Nat → Int32 → Int64 → Int32 → xMs → Option Int64
  | 0, _, _, _, _ => none
  | fu + 1, l1, l2, l4, s => if l1 ≤ l4 then (some l2) else ((FM_look l4 s).bind fun r101 => FM_wordOf_5 fu l1 (((38) * l2) + (Int32.toInt64 (sM_sign r101))) (l4 + 1) s)
/-- FormulaShaperModel.wordOf -/
def FM_wordOf (x0 : Int32) (s : xMs) : Option Int64 := FM_wordOf_5 xFuel x0 0 0 s
set_option maxRecDepth 20000 in
theorem CM_wordOf_5 {w : xw_G} {h : xw_H}  : ∀ (fu : Nat) {l1 : Int32} {l2 : Int64} {l4 : Int32} {s : xMs} {out : Int64} {h0 : xw_H}, FM_wordOf_5 fu l1 l2 l4 s = some out → xw_X w (mM_wordOf { frames := 1, cells := 0, slots := 0, locals := 21 }) (xw_R (some (.long out)) (mV s h)) h0 0 0 5 [some (.ref 2000), some (.int l1), some (.long l2), none, some (.int l4)] [] (mV s h) := by
  intro fu
  induction fu with
  | zero =>
    intro l1 l2 l4 s out h0 hF
    rw [FM_wordOf_5] at hF
    cases hF
  | succ fu ih =>
    intro l1 l2 l4 s out h0 hF
    rw [FM_wordOf_5] at hF
    refine xw_iload dM_wordOf_5 rfl ?_
    refine xw_iload_n dM_wordOf_7 rfl ?_
    refine xw_icmp_ge 34 dM_wordOf_8 (by decide) (fun c100 => ?_) (fun c100 => ?_)
    · replace hF := xg_t c100 hF
      refine xw_lload_n dM_wordOf_34 rfl ?_
      obtain rfl := Option.some.inj hF
      exact xw_lreturn dM_wordOf_35 rfl (Nat.le_of_ble_eq_true rfl) (Nat.le_of_ble_eq_true rfl) ⟨rfl, rfl⟩
    · replace hF := xg_f c100 hF
      refine xw_ldc2 dM_wordOf_11 tw_961 ?_
      refine xw_lload_n dM_wordOf_14 rfl ?_
      refine xw_lmul dM_wordOf_15 ?_
      refine xw_aload_n dM_wordOf_16 rfl ?_
      refine xw_iload dM_wordOf_17 rfl ?_
      obtain ⟨r101, er101, hF⟩ := xg_b hF
      refine xg_V1 (k1 := 0) (n1 := 0) (CM_look er101) rfl rfl rfl dM_wordOf_19 (kM_264 _) ⟨Nat.le_of_ble_eq_true rfl, Nat.le_of_ble_eq_true rfl⟩ rfl rfl rfl rfl (Nat.le_of_ble_eq_true rfl) (Nat.le_of_ble_eq_true rfl) (Nat.le_of_ble_eq_true rfl) (Nat.le_of_ble_eq_true rfl) (Nat.le_of_ble_eq_true rfl) ?_
      refine xg_S1 (k1 := 0) (n1 := 0) (cM_sign w) rfl rfl rfl dM_wordOf_22 (kM_181 _) ⟨Nat.le_of_ble_eq_true rfl, Nat.le_of_ble_eq_true rfl⟩ rfl rfl (Nat.le_of_ble_eq_true rfl) (Nat.le_of_ble_eq_true rfl) (Nat.le_of_ble_eq_true rfl) (Nat.le_of_ble_eq_true rfl) (Nat.le_of_ble_eq_true rfl) ?_
      refine xw_i2l dM_wordOf_25 ?_
      refine xw_ladd dM_wordOf_26 ?_
      refine xw_lstore_n dM_wordOf_27 (Nat.le_of_ble_eq_true rfl) ?_
      refine xw_Ln (L' := [some (.ref 2000), some (.int l1), some (.long (((38) * l2) + (Int32.toInt64 (sM_sign r101)))), none, some (.int l4)]) rfl ?_
      refine xw_iinc ((l4 + 1)) dM_wordOf_28 rfl rfl (Nat.le_of_ble_eq_true rfl) ?_
      refine xw_Ln (L' := [some (.ref 2000), some (.int l1), some (.long (((38) * l2) + (Int32.toInt64 (sM_sign r101)))), none, some (.int (l4 + 1))]) rfl ?_
      refine xw_goto 5 dM_wordOf_31 (by decide) ?_
      exact ih hF
set_option maxRecDepth 20000 in
theorem CM_wordOf {w : xw_G} {h : xw_H} {x0 : Int32} {s : xMs} {out : Int64} (hF : FM_wordOf x0 s = some out) : xw_C w (mM_wordOf { frames := 1, cells := 0, slots := 0, locals := 21 }) (xw_R (some (.long out)) (mV s h)) [.ref 2000, .int x0] (mV s h) := by
  unfold FM_wordOf at hF
  refine xw_enter rfl (show plainName "FormulaShaperModel" = true by decide +kernel) (Nat.le_of_ble_eq_true rfl) ?_
  refine xw_lconst (0) dM_wordOf_0 (by decide) ?_
  refine xw_lstore_n dM_wordOf_1 (Nat.le_of_ble_eq_true rfl) ?_
  refine xw_Ln (L' := [some (.ref 2000), some (.int x0), some (.long 0), none, none]) rfl ?_
  refine xw_iconst (0) dM_wordOf_2 (by decide) ?_
  refine xw_istore dM_wordOf_3 (Nat.le_of_ble_eq_true rfl) ?_
  refine xw_Ln (L' := [some (.ref 2000), some (.int x0), some (.long 0), none, some (.int 0)]) rfl ?_
  exact CM_wordOf_5 xFuel hF
def FM_says_12 : Nat → Int32 → Nat → Int32 → xMs → Option Bool
  | 0, _, _, _, _ => none
  | fu + 1, l1, l2, l3, s => if l1 ≤ l3 then (some true) else ((FM_look l3 s).bind fun r105 => if l2 < xk_N ∧ 0 ≤ l3 ∧ l3 < nI (xk_by l2).length then (if r105 = ((xk_by l2).getD (l3).toNatClampNeg 0) then (FM_says_12 fu l1 l2 (l3 + 1) s) else (some false)) else none)
/-- FormulaShaperModel.says -/
def FM_says (x0 : Int32) (x1 : Nat) (s : xMs) : Option Bool := if x1 < xk_N then (if x0 = (nI (xk_by x1).length) then (FM_says_12 xFuel x0 x1 0 s) else (some false)) else none
set_option maxRecDepth 20000 in
theorem CM_says_12 {w : xw_G} {h : xw_H}  : ∀ (fu : Nat) {l1 : Int32} {l2 : Nat} {l3 : Int32} {s : xMs} {out : Bool} {h0 : xw_H}, FM_says_12 fu l1 l2 l3 s = some out → xw_X w (mM_says { frames := 4, cells := 0, slots := 0, locals := 85 }) (xw_R (some (.int (xb out))) (mV s h)) h0 0 0 12 [some (.ref 2000), some (.int l1), some (.ref l2), some (.int l3)] [] (mV s h) := by
  intro fu
  induction fu with
  | zero =>
    intro l1 l2 l3 s out h0 hF
    rw [FM_says_12] at hF
    cases hF
  | succ fu ih =>
    intro l1 l2 l3 s out h0 hF
    rw [FM_says_12] at hF
    refine xw_iload_n dM_says_12 rfl ?_
    refine xw_iload_n dM_says_13 rfl ?_
    refine xw_icmp_ge 38 dM_says_14 (by decide) (fun c104 => ?_) (fun c104 => ?_)
    · replace hF := xg_t c104 hF
      refine xw_iconst (1) dM_says_38 (by decide) ?_
      obtain rfl := Option.some.inj hF
      exact xw_ireturn dM_says_39 rfl (xb_nar true) (Nat.le_of_ble_eq_true rfl) (Nat.le_of_ble_eq_true rfl) ⟨rfl, rfl⟩
    · replace hF := xg_f c104 hF
      refine xw_aload_n dM_says_17 rfl ?_
      refine xw_iload_n dM_says_18 rfl ?_
      obtain ⟨r105, er105, hF⟩ := xg_b hF
      refine xg_V1 (k1 := 0) (n1 := 0) (CM_look er105) rfl rfl rfl dM_says_19 (kM_264 _) ⟨Nat.le_of_ble_eq_true rfl, Nat.le_of_ble_eq_true rfl⟩ rfl rfl rfl rfl (Nat.le_of_ble_eq_true rfl) (Nat.le_of_ble_eq_true rfl) (Nat.le_of_ble_eq_true rfl) (Nat.le_of_ble_eq_true rfl) (Nat.le_of_ble_eq_true rfl) ?_
      refine xw_aload_n dM_says_22 rfl ?_
      refine xw_iload_n dM_says_23 rfl ?_
      obtain ⟨g106, hF⟩ := xg_g hF
      refine xg_K1 (k1 := 0) (n1 := 0) (CQ_charAt (w := w) g106.1 g106.2) rfl rfl rfl dM_says_24 (kM_177 _) ⟨Nat.le_of_ble_eq_true rfl, Nat.le_of_ble_eq_true rfl⟩ rfl rfl (xk_mO g106.1) (xk_lt9 g106.1) (Nat.le_of_ble_eq_true rfl) (Nat.le_of_ble_eq_true rfl) (Nat.le_of_ble_eq_true rfl) (Nat.le_of_ble_eq_true rfl) (Nat.le_of_ble_eq_true rfl) ?_
      refine xw_icmp_eq 32 dM_says_27 (by decide) (fun c107 => ?_) (fun c107 => ?_)
      · replace hF := xg_t c107 hF
        refine xw_iinc ((l3 + 1)) dM_says_32 rfl rfl (Nat.le_of_ble_eq_true rfl) ?_
        refine xw_Ln (L' := [some (.ref 2000), some (.int l1), some (.ref l2), some (.int (l3 + 1))]) rfl ?_
        refine xw_goto 12 dM_says_35 (by decide) ?_
        exact ih hF
      · replace hF := xg_f c107 hF
        refine xw_iconst (0) dM_says_30 (by decide) ?_
        obtain rfl := Option.some.inj hF
        exact xw_ireturn dM_says_31 rfl (xb_nar false) (Nat.le_of_ble_eq_true rfl) (Nat.le_of_ble_eq_true rfl) ⟨rfl, rfl⟩
set_option maxRecDepth 20000 in
theorem CM_says {w : xw_G} {h : xw_H} {x0 : Int32} {x1 : Nat} {s : xMs} {out : Bool} (hF : FM_says x0 x1 s = some out) : xw_C w (mM_says { frames := 4, cells := 0, slots := 0, locals := 85 }) (xw_R (some (.int (xb out))) (mV s h)) [.ref 2000, .int x0, .ref x1] (mV s h) := by
  unfold FM_says at hF
  refine xw_enter rfl (show plainName "FormulaShaperModel" = true by decide +kernel) (Nat.le_of_ble_eq_true rfl) ?_
  refine xw_iload_n dM_says_0 rfl ?_
  refine xw_aload_n dM_says_1 rfl ?_
  obtain ⟨g102, hF⟩ := xg_g hF
  refine xg_K1 (k1 := 0) (n1 := 0) (cQ_length w g102) rfl rfl rfl dM_says_2 (kM_171 _) ⟨Nat.le_of_ble_eq_true rfl, Nat.le_of_ble_eq_true rfl⟩ rfl rfl (xk_mO g102) (xk_lt9 g102) (Nat.le_of_ble_eq_true rfl) (Nat.le_of_ble_eq_true rfl) (Nat.le_of_ble_eq_true rfl) (Nat.le_of_ble_eq_true rfl) (Nat.le_of_ble_eq_true rfl) ?_
  refine xw_icmp_eq 10 dM_says_5 (by decide) (fun c103 => ?_) (fun c103 => ?_)
  · replace hF := xg_t c103 hF
    refine xw_iconst (0) dM_says_10 (by decide) ?_
    refine xw_istore_n dM_says_11 (Nat.le_of_ble_eq_true rfl) ?_
    refine xw_Ln (L' := [some (.ref 2000), some (.int x0), some (.ref x1), some (.int 0)]) rfl ?_
    exact CM_says_12 xFuel hF
  · replace hF := xg_f c103 hF
    refine xw_iconst (0) dM_says_8 (by decide) ?_
    obtain rfl := Option.some.inj hF
    exact xw_ireturn dM_says_9 rfl (xb_nar false) (Nat.le_of_ble_eq_true rfl) (Nat.le_of_ble_eq_true rfl) ⟨rfl, rfl⟩
/-- FormulaShaperModel.wordHere -/
def FM_wordHere  (s : xMs) : Option (Int64 × xMs) := (FM_wordLength s).bind fun r108 => if r108 = 0 then (some (0, s)) else (if 12 < r108 then (some (0, s)) else ((FM_cell_Z s).bind fun r111 => if r111.1 = true then (some (0, r111.2)) else ((FM_says r108 75 r111.2).bind fun r115 => if r115 = true then (some (0, r111.2)) else ((FM_says r108 76 r111.2).bind fun r117 => if r117 = true then (some (0, r111.2)) else ((FM_wordOf r108 r111.2).bind fun r119 => some (r119, r111.2))))))
set_option maxRecDepth 20000 in
theorem CM_wordHere {w : xw_G} {h : xw_H} (hb : xMb h)  {s : xMs} {out : (Int64 × xMs)} (hF : FM_wordHere  s = some out) : (s.2.2.1.2.2.2.2.2.2.1 ≤ out.2.2.2.1.2.2.2.2.2.2.1 ∧ s.2.2.1.2.2.2.2.2.2.2 ≤ out.2.2.2.1.2.2.2.2.2.2.2) ∧ xw_C w (mM_wordHere { frames := 5, cells := out.2.2.2.1.2.2.2.2.2.2.1 - s.2.2.1.2.2.2.2.2.2.1, slots := out.2.2.2.1.2.2.2.2.2.2.2 - s.2.2.1.2.2.2.2.2.2.2, locals := 108 }) (xw_R (some (.long out.1)) (mV out.2 h)) [.ref 2000] (mV s h) := by
  unfold FM_wordHere at hF
  refine xy_enter (L := [some (.ref 2000), none]) (fun _ => rfl) (fun _ => rfl) (fun _ => (show plainName "FormulaShaperModel" = true by decide +kernel)) (fun _ => (Nat.le_of_ble_eq_true rfl)) (fun _ => rfl) ?_
  have hm : s.2.2.1.2.2.2.2.2.2.1 ≤ s.2.2.1.2.2.2.2.2.2.1 ∧ s.2.2.1.2.2.2.2.2.2.2 ≤ s.2.2.1.2.2.2.2.2.2.2 := ⟨Nat.le_refl _, Nat.le_refl _⟩
  refine xy_r (xw_aload_n dM_wordHere_0 rfl) ?_
  obtain ⟨r108, er108, hF⟩ := xg_b hF
  refine xy_q (fun hq => xg_V1 (k1 := _) (n1 := _) (CM_wordLength er108) rfl rfl rfl dM_wordHere_1 (kM_317 _) ⟨Nat.le_of_ble_eq_true rfl, Nat.le_of_ble_eq_true rfl⟩ rfl rfl rfl rfl (Nat.le_of_ble_eq_true rfl) (Nat.le_refl _) (Nat.le_refl _) (Nat.sub_le_sub_right hq.1 _) (Nat.sub_le_sub_right hq.2 _)) ?_
  refine xy_r (xw_istore_n dM_wordHere_4 (Nat.le_of_ble_eq_true rfl)) ?_
  refine xy_r (xw_Ln (L' := [some (.ref 2000), some (.int r108)]) rfl) ?_
  refine xy_r (xw_iload_n dM_wordHere_5 rfl) ?_
  refine xy_br (xw_if_eq 44 dM_wordHere_6 (by decide)) (fun c109 => ?_) (fun c109 => ?_)
  · replace hF := xg_t c109 hF
    refine xy_r (xw_lconst (0) dM_wordHere_44 (by decide)) ?_
    obtain rfl := Option.some.inj hF
    exact xy_end (xw_lreturn dM_wordHere_45 rfl (Nat.le_refl _) (Nat.le_refl _) ⟨rfl, rfl⟩)
  · replace hF := xg_f c109 hF
    refine xy_r (xw_iload_n dM_wordHere_9 rfl) ?_
    refine xy_r (xw_bipush (12) dM_wordHere_10 (by decide)) ?_
    refine xy_br (xw_icmp_gt 44 dM_wordHere_12 (by decide)) (fun c110 => ?_) (fun c110 => ?_)
    · replace hF := xg_t c110 hF
      refine xy_r (xw_lconst (0) dM_wordHere_44 (by decide)) ?_
      obtain rfl := Option.some.inj hF
      exact xy_end (xw_lreturn dM_wordHere_45 rfl (Nat.le_refl _) (Nat.le_refl _) ⟨rfl, rfl⟩)
    · replace hF := xg_f c110 hF
      refine xy_r (xw_aload_n dM_wordHere_15 rfl) ?_
      obtain ⟨r111, er111, hF⟩ := xg_b hF
      have hm112 : s.2.2.1.2.2.2.2.2.2.1 ≤ r111.2.2.2.1.2.2.2.2.2.2.1 ∧ s.2.2.1.2.2.2.2.2.2.2 ≤ r111.2.2.2.1.2.2.2.2.2.2.2 := xy_le hm (show s.2.2.1.2.2.2.2.2.2.1 ≤ r111.2.2.2.1.2.2.2.2.2.2.1 ∧ s.2.2.1.2.2.2.2.2.2.2 ≤ r111.2.2.2.1.2.2.2.2.2.2.2 from (CM_cell_Z (w := w) (h := h) hb er111).1)
      refine xy_V1 (sm := s.2.2.1.2.2.2.2.2.2.1) (sn := s.2.2.1.2.2.2.2.2.2.2) (tm := r111.2.2.2.1.2.2.2.2.2.2.1) (tn := r111.2.2.2.1.2.2.2.2.2.2.2) (CM_cell_Z hb er111) rfl rfl hm (fun _ => rfl) (fun _ => rfl) (fun _ => rfl) (fun _ => dM_wordHere_16) (fun _ R => kM_320 R) (fun _ => rfl) ⟨(Nat.le_of_ble_eq_true rfl), (Nat.le_of_ble_eq_true rfl)⟩ rfl rfl rfl (fun _ => rfl) (Nat.le_of_ble_eq_true rfl) ?_
      refine xy_br (xw_if_neB 44 dM_wordHere_19 (by decide)) (fun c114 => ?_) (fun c114 => ?_)
      · replace hF := xg_t c114 hF
        refine xy_r (xw_lconst (0) dM_wordHere_44 (by decide)) ?_
        obtain rfl := Option.some.inj hF
        exact xy_end (xw_lreturn dM_wordHere_45 rfl (Nat.le_refl _) (Nat.le_refl _) ⟨rfl, rfl⟩)
      · replace hF := xg_f c114 hF
        refine xy_r (xw_aload_n dM_wordHere_22 rfl) ?_
        refine xy_r (xw_iload_n dM_wordHere_23 rfl) ?_
        refine xy_r (xw_ldcSw 75 dM_wordHere_24 (List.mem_of_getElem? (i := 75) rfl) (by decide)) ?_
        obtain ⟨r115, er115, hF⟩ := xg_b hF
        refine xy_q (fun hq => xg_V1 (k1 := _) (n1 := _) (CM_says er115) rfl rfl rfl dM_wordHere_27 (kM_326 _) ⟨Nat.le_of_ble_eq_true rfl, Nat.le_of_ble_eq_true rfl⟩ rfl rfl rfl rfl (Nat.le_of_ble_eq_true rfl) (Nat.le_refl _) (Nat.le_refl _) (Nat.sub_le_sub_right hq.1 _) (Nat.sub_le_sub_right hq.2 _)) ?_
        refine xy_br (xw_if_neB 44 dM_wordHere_30 (by decide)) (fun c116 => ?_) (fun c116 => ?_)
        · replace hF := xg_t c116 hF
          refine xy_r (xw_lconst (0) dM_wordHere_44 (by decide)) ?_
          obtain rfl := Option.some.inj hF
          exact xy_end (xw_lreturn dM_wordHere_45 rfl (Nat.le_refl _) (Nat.le_refl _) ⟨rfl, rfl⟩)
        · replace hF := xg_f c116 hF
          refine xy_r (xw_aload_n dM_wordHere_33 rfl) ?_
          refine xy_r (xw_iload_n dM_wordHere_34 rfl) ?_
          refine xy_r (xw_ldcSw 76 dM_wordHere_35 (List.mem_of_getElem? (i := 76) rfl) (by decide)) ?_
          obtain ⟨r117, er117, hF⟩ := xg_b hF
          refine xy_q (fun hq => xg_V1 (k1 := _) (n1 := _) (CM_says er117) rfl rfl rfl dM_wordHere_38 (kM_326 _) ⟨Nat.le_of_ble_eq_true rfl, Nat.le_of_ble_eq_true rfl⟩ rfl rfl rfl rfl (Nat.le_of_ble_eq_true rfl) (Nat.le_refl _) (Nat.le_refl _) (Nat.sub_le_sub_right hq.1 _) (Nat.sub_le_sub_right hq.2 _)) ?_
          refine xy_brn (xw_if_eqB 46 dM_wordHere_41 (by decide)) (fun c118 => ?_) (fun c118 => ?_)
          · replace hF := xg_f c118 hF
            refine xy_r (xw_aload_n dM_wordHere_46 rfl) ?_
            refine xy_r (xw_iload_n dM_wordHere_47 rfl) ?_
            obtain ⟨r119, er119, hF⟩ := xg_b hF
            refine xy_q (fun hq => xg_V1 (k1 := _) (n1 := _) (CM_wordOf er119) rfl rfl rfl dM_wordHere_48 (kM_332 _) ⟨Nat.le_of_ble_eq_true rfl, Nat.le_of_ble_eq_true rfl⟩ rfl rfl rfl rfl (Nat.le_of_ble_eq_true rfl) (Nat.le_refl _) (Nat.le_refl _) (Nat.sub_le_sub_right hq.1 _) (Nat.sub_le_sub_right hq.2 _)) ?_
            obtain rfl := Option.some.inj hF
            exact xy_end (xw_lreturn dM_wordHere_51 rfl (Nat.le_refl _) (Nat.le_refl _) ⟨rfl, rfl⟩)
          · replace hF := xg_t c118 hF
            refine xy_r (xw_lconst (0) dM_wordHere_44 (by decide)) ?_
            obtain rfl := Option.some.inj hF
            exact xy_end (xw_lreturn dM_wordHere_45 rfl (Nat.le_refl _) (Nat.le_refl _) ⟨rfl, rfl⟩)
def FM_digits_100 : Nat → Int32 → Int64 → Int64 → xMs → Option (xo Int64 xMs)
  | 0, _, _, _, _ => none
  | fu + 1, l1, l2, l5, s => (FM_peek s).bind fun r134 => if (sM_digit r134) = 0 then (if (lg_cmp l2 (900000000000000)) ≤ 0 then (some (.inl (l2, s))) else (xo_b (FM_bad l1 s) fun r137 => some (.inl (l2, r137.2)))) else (if (lg_cmp l5 0) ≤ 0 then (if (lg_cmp l2 (900000000000000)) ≤ 0 then (some (.inl (l2, s))) else (xo_b (FM_bad l1 s) fun r142 => some (.inl (l2, r142.2)))) else ((FM_peek s).bind fun r145 => FM_digits_100 fu l1 (l2 + (l5 * (Int32.toInt64 (r145 - 48)))) (l5 / (10)) (s.1, (s.2.1.1, (s.2.1.2.1 + 1), s.2.1.2.2), s.2.2)))
def FM_digits_59 (l1 : Int32) (l2 : Int64) (s : xMs) : Option (xo Int64 xMs) := (FM_peek s).bind fun r122 => if r122 = 46 then ((FM_look 1 s).bind fun r128 => if (sM_digit r128) = 0 then (if (lg_cmp (l2 * (10000)) (900000000000000)) ≤ 0 then (some (.inl ((l2 * (10000)), s))) else (xo_b (FM_bad l1 s) fun r131 => some (.inl ((l2 * (10000)), r131.2)))) else (FM_digits_100 xFuel l1 (l2 * (10000)) (1000) (s.1, (s.2.1.1, (s.2.1.2.1 + 1), s.2.1.2.2), s.2.2))) else (if (lg_cmp (l2 * (10000)) (900000000000000)) ≤ 0 then (some (.inl ((l2 * (10000)), s))) else (xo_b (FM_bad l1 s) fun r125 => some (.inl ((l2 * (10000)), r125.2))))
def FM_digits_10 : Nat → Int32 → Int64 → Int32 → xMs → Option (xo Int64 xMs)
  | 0, _, _, _, _ => none
  | fu + 1, l1, l2, l4, s => (FM_peek s).bind fun r120 => if (sM_digit r120) = 0 then (FM_digits_59 l1 l2 s) else (if 11 ≤ l4 then (FM_digits_59 l1 l2 s) else ((FM_peek s).bind fun r147 => FM_digits_10 fu l1 ((((10) * l2) + (Int32.toInt64 r147)) - (48)) (l4 + 1) (s.1, (s.2.1.1, (s.2.1.2.1 + 1), s.2.1.2.2), s.2.2)))
/-- FormulaShaperModel.digits -/
def FM_digits  (s : xMs) : Option (xo Int64 xMs) := FM_digits_10 xFuel s.2.1.2.1 0 0 s
set_option maxRecDepth 20000 in
theorem CM_digits_100 {w : xw_G} {h : xw_H} (hb : xMb h)  : ∀ (fu : Nat) {l1 : Int32} {l2 : Int64} {l5 : Int64} {s : xMs} {out : (xo Int64 xMs)} {h0 : xw_H} {m0 n0 : Nat} (hm : m0 ≤ s.2.2.1.2.2.2.2.2.2.1 ∧ n0 ≤ s.2.2.1.2.2.2.2.2.2.2), FM_digits_100 fu l1 l2 l5 s = some out → xw_Y w mM_digits 7 121 (xo_P (fun x => some (.long x)) (fun s => mV s h) out) h0 m0 n0 s.2.2.1.2.2.2.2.2.2.1 s.2.2.1.2.2.2.2.2.2.2 (xo_s out).2.2.1.2.2.2.2.2.2.1 (xo_s out).2.2.1.2.2.2.2.2.2.2 100 [some (.ref 2000), some (.int l1), some (.long l2), none, none, some (.long l5), none] [] (mV s h) := by
  intro fu
  induction fu with
  | zero =>
    intro l1 l2 l5 s out h0 m0 n0 hm hF
    rw [FM_digits_100] at hF
    cases hF
  | succ fu ih =>
    intro l1 l2 l5 s out h0 m0 n0 hm hF
    rw [FM_digits_100] at hF
    refine xy_r (xw_aload_n dM_digits_100 rfl) ?_
    obtain ⟨r134, er134, hF⟩ := xg_b hF
    refine xy_q (fun hq => xg_V1 (k1 := _) (n1 := _) (CM_peek er134) rfl rfl rfl dM_digits_101 (kM_230 _) ⟨Nat.le_of_ble_eq_true rfl, Nat.le_of_ble_eq_true rfl⟩ rfl rfl rfl rfl (Nat.le_of_ble_eq_true rfl) (Nat.le_refl _) (Nat.le_refl _) (Nat.sub_le_sub_right hq.1 _) (Nat.sub_le_sub_right hq.2 _)) ?_
    refine xy_q (fun hq => xg_S1 (k1 := _) (n1 := _) (cM_digit w) rfl rfl rfl dM_digits_104 (kM_295 _) ⟨Nat.le_of_ble_eq_true rfl, Nat.le_of_ble_eq_true rfl⟩ rfl rfl (Nat.le_of_ble_eq_true rfl) (Nat.le_refl _) (Nat.le_refl _) (Nat.sub_le_sub_right hq.1 _) (Nat.sub_le_sub_right hq.2 _)) ?_
    refine xy_br (xw_if_eq 152 dM_digits_107 (by decide)) (fun c135 => ?_) (fun c135 => ?_)
    · replace hF := xg_t c135 hF
      refine xy_r (xw_lload_n dM_digits_152 rfl) ?_
      refine xy_r (xw_ldc2 dM_digits_153 tw_1229) ?_
      refine xy_r (xw_lcmp dM_digits_156) ?_
      refine xy_br (xw_if_le 165 dM_digits_157 (by decide)) (fun c136 => ?_) (fun c136 => ?_)
      · replace hF := xg_t c136 hF
        refine xy_r (xw_lload_n dM_digits_165 rfl) ?_
        obtain rfl := Option.some.inj hF
        exact xy_end (xw_lreturn dM_digits_166 rfl (Nat.le_refl _) (Nat.le_refl _) ⟨rfl, rfl⟩)
      · replace hF := xg_f c136 hF
        refine xy_r (xw_aload_n dM_digits_160 rfl) ?_
        refine xy_r (xw_iload_n dM_digits_161 rfl) ?_
        rcases xg_o hF with ⟨r137, er137, hF⟩ | ⟨r137, er137, hF⟩
        · have hm138 : m0 ≤ r137.2.2.2.1.2.2.2.2.2.2.1 ∧ n0 ≤ r137.2.2.2.1.2.2.2.2.2.2.2 := xy_le hm (show s.2.2.1.2.2.2.2.2.2.1 ≤ r137.2.2.2.1.2.2.2.2.2.2.1 ∧ s.2.2.1.2.2.2.2.2.2.2 ≤ r137.2.2.2.1.2.2.2.2.2.2.2 from (CM_bad (w := w) (h := h) hb er137).1)
          refine xy_V0 (sm := s.2.2.1.2.2.2.2.2.2.1) (sn := s.2.2.1.2.2.2.2.2.2.2) (tm := r137.2.2.2.1.2.2.2.2.2.2.1) (tn := r137.2.2.2.1.2.2.2.2.2.2.2) (CM_bad hb er137) rfl rfl hm (fun _ => rfl) (fun _ => rfl) (fun _ => rfl) (fun _ => dM_digits_162) (fun _ R => kM_239 R) (fun _ => rfl) ⟨(Nat.le_of_ble_eq_true rfl), (Nat.le_of_ble_eq_true rfl)⟩ rfl rfl rfl (fun _ => rfl) (Nat.le_of_ble_eq_true rfl) ?_
          refine xy_r (xw_lload_n dM_digits_165 rfl) ?_
          obtain rfl := Option.some.inj hF
          exact xy_end (xw_lreturn dM_digits_166 rfl (Nat.le_refl _) (Nat.le_refl _) ⟨rfl, rfl⟩)
        · subst hF
          exact xy_Vt (sm := s.2.2.1.2.2.2.2.2.2.1) (sn := s.2.2.1.2.2.2.2.2.2.2) (tm := r137.2.2.2.1.2.2.2.2.2.2.1) (tn := r137.2.2.2.1.2.2.2.2.2.2.2) (CM_bad hb er137) rfl rfl hm (fun _ => rfl) (fun _ => rfl) (fun _ => rfl) (fun _ => dM_digits_162) (fun _ R => kM_239 R) (fun _ => rfl) ⟨(Nat.le_of_ble_eq_true rfl), (Nat.le_of_ble_eq_true rfl)⟩ rfl rfl rfl (fun _ => rfl) (Nat.le_of_ble_eq_true rfl) ⟨rfl, rfl⟩
    · replace hF := xg_f c135 hF
      refine xy_r (xw_lload dM_digits_110 rfl) ?_
      refine xy_r (xw_lconst (0) dM_digits_112 (by decide)) ?_
      refine xy_r (xw_lcmp dM_digits_113) ?_
      refine xy_br (xw_if_le 152 dM_digits_114 (by decide)) (fun c140 => ?_) (fun c140 => ?_)
      · replace hF := xg_t c140 hF
        refine xy_r (xw_lload_n dM_digits_152 rfl) ?_
        refine xy_r (xw_ldc2 dM_digits_153 tw_1229) ?_
        refine xy_r (xw_lcmp dM_digits_156) ?_
        refine xy_br (xw_if_le 165 dM_digits_157 (by decide)) (fun c141 => ?_) (fun c141 => ?_)
        · replace hF := xg_t c141 hF
          refine xy_r (xw_lload_n dM_digits_165 rfl) ?_
          obtain rfl := Option.some.inj hF
          exact xy_end (xw_lreturn dM_digits_166 rfl (Nat.le_refl _) (Nat.le_refl _) ⟨rfl, rfl⟩)
        · replace hF := xg_f c141 hF
          refine xy_r (xw_aload_n dM_digits_160 rfl) ?_
          refine xy_r (xw_iload_n dM_digits_161 rfl) ?_
          rcases xg_o hF with ⟨r142, er142, hF⟩ | ⟨r142, er142, hF⟩
          · have hm143 : m0 ≤ r142.2.2.2.1.2.2.2.2.2.2.1 ∧ n0 ≤ r142.2.2.2.1.2.2.2.2.2.2.2 := xy_le hm (show s.2.2.1.2.2.2.2.2.2.1 ≤ r142.2.2.2.1.2.2.2.2.2.2.1 ∧ s.2.2.1.2.2.2.2.2.2.2 ≤ r142.2.2.2.1.2.2.2.2.2.2.2 from (CM_bad (w := w) (h := h) hb er142).1)
            refine xy_V0 (sm := s.2.2.1.2.2.2.2.2.2.1) (sn := s.2.2.1.2.2.2.2.2.2.2) (tm := r142.2.2.2.1.2.2.2.2.2.2.1) (tn := r142.2.2.2.1.2.2.2.2.2.2.2) (CM_bad hb er142) rfl rfl hm (fun _ => rfl) (fun _ => rfl) (fun _ => rfl) (fun _ => dM_digits_162) (fun _ R => kM_239 R) (fun _ => rfl) ⟨(Nat.le_of_ble_eq_true rfl), (Nat.le_of_ble_eq_true rfl)⟩ rfl rfl rfl (fun _ => rfl) (Nat.le_of_ble_eq_true rfl) ?_
            refine xy_r (xw_lload_n dM_digits_165 rfl) ?_
            obtain rfl := Option.some.inj hF
            exact xy_end (xw_lreturn dM_digits_166 rfl (Nat.le_refl _) (Nat.le_refl _) ⟨rfl, rfl⟩)
          · subst hF
            exact xy_Vt (sm := s.2.2.1.2.2.2.2.2.2.1) (sn := s.2.2.1.2.2.2.2.2.2.2) (tm := r142.2.2.2.1.2.2.2.2.2.2.1) (tn := r142.2.2.2.1.2.2.2.2.2.2.2) (CM_bad hb er142) rfl rfl hm (fun _ => rfl) (fun _ => rfl) (fun _ => rfl) (fun _ => dM_digits_162) (fun _ R => kM_239 R) (fun _ => rfl) ⟨(Nat.le_of_ble_eq_true rfl), (Nat.le_of_ble_eq_true rfl)⟩ rfl rfl rfl (fun _ => rfl) (Nat.le_of_ble_eq_true rfl) ⟨rfl, rfl⟩
      · replace hF := xg_f c140 hF
        refine xy_r (xw_lload_n dM_digits_117 rfl) ?_
        refine xy_r (xw_lload dM_digits_118 rfl) ?_
        refine xy_r (xw_aload_n dM_digits_120 rfl) ?_
        obtain ⟨r145, er145, hF⟩ := xg_b hF
        refine xy_q (fun hq => xg_V1 (k1 := _) (n1 := _) (CM_peek er145) rfl rfl rfl dM_digits_121 (kM_230 _) ⟨Nat.le_of_ble_eq_true rfl, Nat.le_of_ble_eq_true rfl⟩ rfl rfl rfl rfl (Nat.le_of_ble_eq_true rfl) (Nat.le_refl _) (Nat.le_refl _) (Nat.sub_le_sub_right hq.1 _) (Nat.sub_le_sub_right hq.2 _)) ?_
        refine xy_r (xw_bipush (48) dM_digits_124 (by decide)) ?_
        refine xy_r (xw_isub dM_digits_126) ?_
        refine xy_r (xw_i2l dM_digits_127) ?_
        refine xy_r (xw_lmul dM_digits_128) ?_
        refine xy_r (xw_ladd dM_digits_129) ?_
        refine xy_r (xw_lstore_n dM_digits_130 (Nat.le_of_ble_eq_true rfl)) ?_
        refine xy_r (xw_Ln (L' := [some (.ref 2000), some (.int l1), some (.long (l2 + (l5 * (Int32.toInt64 (r145 - 48))))), none, none, some (.long l5), none]) rfl) ?_
        refine xy_r (xw_lload dM_digits_131 rfl) ?_
        refine xy_r (xw_ldc2 dM_digits_133 tw_1221) ?_
        refine xy_r (xw_ldiv dM_digits_136 (by decide)) ?_
        refine xy_r (xw_lstore dM_digits_137 (Nat.le_of_ble_eq_true rfl)) ?_
        refine xy_r (xw_Ln (L' := [some (.ref 2000), some (.int l1), some (.long (l2 + (l5 * (Int32.toInt64 (r145 - 48))))), none, none, some (.long (l5 / (10))), none]) rfl) ?_
        refine xy_r (xw_aload_n dM_digits_139 rfl) ?_
        refine xy_r (xw_dup_r dM_digits_140) ?_
        refine xy_r (xw_get dM_digits_141 fM_221 rfl rfl) ?_
        refine xy_r (xw_iconst (1) dM_digits_144 (by decide)) ?_
        refine xy_r (xw_iadd dM_digits_145) ?_
        refine xy_r (xg_put dM_digits_146 fM_221 rfl (by decide) (Nat.le_of_ble_eq_true rfl) (fun _ => rfl) (fun _ => rfl) (mV_o (s' := (s.1, (s.2.1.1, (s.2.1.2.1 + 1), s.2.1.2.2), s.2.2)) rfl)) ?_
        refine xy_r (xw_goto 100 dM_digits_149 (by decide)) ?_
        exact ih hm hF
set_option maxRecDepth 20000 in
theorem CM_digits_59 {w : xw_G} {h : xw_H} (hb : xMb h)  {l1 : Int32} {l2 : Int64} {s : xMs} {out : (xo Int64 xMs)} {h0 : xw_H} {m0 n0 : Nat} (hm : m0 ≤ s.2.2.1.2.2.2.2.2.2.1 ∧ n0 ≤ s.2.2.1.2.2.2.2.2.2.2) (hF : FM_digits_59 l1 l2 s = some out) : xw_Y w mM_digits 7 121 (xo_P (fun x => some (.long x)) (fun s => mV s h) out) h0 m0 n0 s.2.2.1.2.2.2.2.2.2.1 s.2.2.1.2.2.2.2.2.2.2 (xo_s out).2.2.1.2.2.2.2.2.2.1 (xo_s out).2.2.1.2.2.2.2.2.2.2 59 [some (.ref 2000), some (.int l1), some (.long l2), none, none, none, none] [] (mV s h) := by
  unfold FM_digits_59 at hF
  refine xy_r (xw_lload_n dM_digits_59 rfl) ?_
  refine xy_r (xw_ldc2 dM_digits_60 tw_1223) ?_
  refine xy_r (xw_lmul dM_digits_63) ?_
  refine xy_r (xw_lstore_n dM_digits_64 (Nat.le_of_ble_eq_true rfl)) ?_
  refine xy_r (xw_Ln (L' := [some (.ref 2000), some (.int l1), some (.long (l2 * (10000))), none, none, none, none]) rfl) ?_
  refine xy_r (xw_aload_n dM_digits_65 rfl) ?_
  obtain ⟨r122, er122, hF⟩ := xg_b hF
  refine xy_q (fun hq => xg_V1 (k1 := _) (n1 := _) (CM_peek er122) rfl rfl rfl dM_digits_66 (kM_230 _) ⟨Nat.le_of_ble_eq_true rfl, Nat.le_of_ble_eq_true rfl⟩ rfl rfl rfl rfl (Nat.le_of_ble_eq_true rfl) (Nat.le_refl _) (Nat.le_refl _) (Nat.sub_le_sub_right hq.1 _) (Nat.sub_le_sub_right hq.2 _)) ?_
  refine xy_r (xw_bipush (46) dM_digits_69 (by decide)) ?_
  refine xy_brn (xw_icmp_ne 152 dM_digits_71 (by decide)) (fun c123 => ?_) (fun c123 => ?_)
  · replace hF := xg_f c123 hF
    refine xy_r (xw_lload_n dM_digits_152 rfl) ?_
    refine xy_r (xw_ldc2 dM_digits_153 tw_1229) ?_
    refine xy_r (xw_lcmp dM_digits_156) ?_
    refine xy_br (xw_if_le 165 dM_digits_157 (by decide)) (fun c124 => ?_) (fun c124 => ?_)
    · replace hF := xg_t c124 hF
      refine xy_r (xw_lload_n dM_digits_165 rfl) ?_
      obtain rfl := Option.some.inj hF
      exact xy_end (xw_lreturn dM_digits_166 rfl (Nat.le_refl _) (Nat.le_refl _) ⟨rfl, rfl⟩)
    · replace hF := xg_f c124 hF
      refine xy_r (xw_aload_n dM_digits_160 rfl) ?_
      refine xy_r (xw_iload_n dM_digits_161 rfl) ?_
      rcases xg_o hF with ⟨r125, er125, hF⟩ | ⟨r125, er125, hF⟩
      · have hm126 : m0 ≤ r125.2.2.2.1.2.2.2.2.2.2.1 ∧ n0 ≤ r125.2.2.2.1.2.2.2.2.2.2.2 := xy_le hm (show s.2.2.1.2.2.2.2.2.2.1 ≤ r125.2.2.2.1.2.2.2.2.2.2.1 ∧ s.2.2.1.2.2.2.2.2.2.2 ≤ r125.2.2.2.1.2.2.2.2.2.2.2 from (CM_bad (w := w) (h := h) hb er125).1)
        refine xy_V0 (sm := s.2.2.1.2.2.2.2.2.2.1) (sn := s.2.2.1.2.2.2.2.2.2.2) (tm := r125.2.2.2.1.2.2.2.2.2.2.1) (tn := r125.2.2.2.1.2.2.2.2.2.2.2) (CM_bad hb er125) rfl rfl hm (fun _ => rfl) (fun _ => rfl) (fun _ => rfl) (fun _ => dM_digits_162) (fun _ R => kM_239 R) (fun _ => rfl) ⟨(Nat.le_of_ble_eq_true rfl), (Nat.le_of_ble_eq_true rfl)⟩ rfl rfl rfl (fun _ => rfl) (Nat.le_of_ble_eq_true rfl) ?_
        refine xy_r (xw_lload_n dM_digits_165 rfl) ?_
        obtain rfl := Option.some.inj hF
        exact xy_end (xw_lreturn dM_digits_166 rfl (Nat.le_refl _) (Nat.le_refl _) ⟨rfl, rfl⟩)
      · subst hF
        exact xy_Vt (sm := s.2.2.1.2.2.2.2.2.2.1) (sn := s.2.2.1.2.2.2.2.2.2.2) (tm := r125.2.2.2.1.2.2.2.2.2.2.1) (tn := r125.2.2.2.1.2.2.2.2.2.2.2) (CM_bad hb er125) rfl rfl hm (fun _ => rfl) (fun _ => rfl) (fun _ => rfl) (fun _ => dM_digits_162) (fun _ R => kM_239 R) (fun _ => rfl) ⟨(Nat.le_of_ble_eq_true rfl), (Nat.le_of_ble_eq_true rfl)⟩ rfl rfl rfl (fun _ => rfl) (Nat.le_of_ble_eq_true rfl) ⟨rfl, rfl⟩
  · replace hF := xg_t c123 hF
    refine xy_r (xw_aload_n dM_digits_74 rfl) ?_
    refine xy_r (xw_iconst (1) dM_digits_75 (by decide)) ?_
    obtain ⟨r128, er128, hF⟩ := xg_b hF
    refine xy_q (fun hq => xg_V1 (k1 := _) (n1 := _) (CM_look er128) rfl rfl rfl dM_digits_76 (kM_264 _) ⟨Nat.le_of_ble_eq_true rfl, Nat.le_of_ble_eq_true rfl⟩ rfl rfl rfl rfl (Nat.le_of_ble_eq_true rfl) (Nat.le_refl _) (Nat.le_refl _) (Nat.sub_le_sub_right hq.1 _) (Nat.sub_le_sub_right hq.2 _)) ?_
    refine xy_q (fun hq => xg_S1 (k1 := _) (n1 := _) (cM_digit w) rfl rfl rfl dM_digits_79 (kM_295 _) ⟨Nat.le_of_ble_eq_true rfl, Nat.le_of_ble_eq_true rfl⟩ rfl rfl (Nat.le_of_ble_eq_true rfl) (Nat.le_refl _) (Nat.le_refl _) (Nat.sub_le_sub_right hq.1 _) (Nat.sub_le_sub_right hq.2 _)) ?_
    refine xy_br (xw_if_eq 152 dM_digits_82 (by decide)) (fun c129 => ?_) (fun c129 => ?_)
    · replace hF := xg_t c129 hF
      refine xy_r (xw_lload_n dM_digits_152 rfl) ?_
      refine xy_r (xw_ldc2 dM_digits_153 tw_1229) ?_
      refine xy_r (xw_lcmp dM_digits_156) ?_
      refine xy_br (xw_if_le 165 dM_digits_157 (by decide)) (fun c130 => ?_) (fun c130 => ?_)
      · replace hF := xg_t c130 hF
        refine xy_r (xw_lload_n dM_digits_165 rfl) ?_
        obtain rfl := Option.some.inj hF
        exact xy_end (xw_lreturn dM_digits_166 rfl (Nat.le_refl _) (Nat.le_refl _) ⟨rfl, rfl⟩)
      · replace hF := xg_f c130 hF
        refine xy_r (xw_aload_n dM_digits_160 rfl) ?_
        refine xy_r (xw_iload_n dM_digits_161 rfl) ?_
        rcases xg_o hF with ⟨r131, er131, hF⟩ | ⟨r131, er131, hF⟩
        · have hm132 : m0 ≤ r131.2.2.2.1.2.2.2.2.2.2.1 ∧ n0 ≤ r131.2.2.2.1.2.2.2.2.2.2.2 := xy_le hm (show s.2.2.1.2.2.2.2.2.2.1 ≤ r131.2.2.2.1.2.2.2.2.2.2.1 ∧ s.2.2.1.2.2.2.2.2.2.2 ≤ r131.2.2.2.1.2.2.2.2.2.2.2 from (CM_bad (w := w) (h := h) hb er131).1)
          refine xy_V0 (sm := s.2.2.1.2.2.2.2.2.2.1) (sn := s.2.2.1.2.2.2.2.2.2.2) (tm := r131.2.2.2.1.2.2.2.2.2.2.1) (tn := r131.2.2.2.1.2.2.2.2.2.2.2) (CM_bad hb er131) rfl rfl hm (fun _ => rfl) (fun _ => rfl) (fun _ => rfl) (fun _ => dM_digits_162) (fun _ R => kM_239 R) (fun _ => rfl) ⟨(Nat.le_of_ble_eq_true rfl), (Nat.le_of_ble_eq_true rfl)⟩ rfl rfl rfl (fun _ => rfl) (Nat.le_of_ble_eq_true rfl) ?_
          refine xy_r (xw_lload_n dM_digits_165 rfl) ?_
          obtain rfl := Option.some.inj hF
          exact xy_end (xw_lreturn dM_digits_166 rfl (Nat.le_refl _) (Nat.le_refl _) ⟨rfl, rfl⟩)
        · subst hF
          exact xy_Vt (sm := s.2.2.1.2.2.2.2.2.2.1) (sn := s.2.2.1.2.2.2.2.2.2.2) (tm := r131.2.2.2.1.2.2.2.2.2.2.1) (tn := r131.2.2.2.1.2.2.2.2.2.2.2) (CM_bad hb er131) rfl rfl hm (fun _ => rfl) (fun _ => rfl) (fun _ => rfl) (fun _ => dM_digits_162) (fun _ R => kM_239 R) (fun _ => rfl) ⟨(Nat.le_of_ble_eq_true rfl), (Nat.le_of_ble_eq_true rfl)⟩ rfl rfl rfl (fun _ => rfl) (Nat.le_of_ble_eq_true rfl) ⟨rfl, rfl⟩
    · replace hF := xg_f c129 hF
      refine xy_r (xw_aload_n dM_digits_85 rfl) ?_
      refine xy_r (xw_dup_r dM_digits_86) ?_
      refine xy_r (xw_get dM_digits_87 fM_221 rfl rfl) ?_
      refine xy_r (xw_iconst (1) dM_digits_90 (by decide)) ?_
      refine xy_r (xw_iadd dM_digits_91) ?_
      refine xy_r (xg_put dM_digits_92 fM_221 rfl (by decide) (Nat.le_of_ble_eq_true rfl) (fun _ => rfl) (fun _ => rfl) (mV_o (s' := (s.1, (s.2.1.1, (s.2.1.2.1 + 1), s.2.1.2.2), s.2.2)) rfl)) ?_
      refine xy_r (xw_ldc2 dM_digits_95 tw_1228) ?_
      refine xy_r (xw_lstore dM_digits_98 (Nat.le_of_ble_eq_true rfl)) ?_
      refine xy_r (xw_Ln (L' := [some (.ref 2000), some (.int l1), some (.long (l2 * (10000))), none, none, some (.long (1000)), none]) rfl) ?_
      exact CM_digits_100 hb xFuel hm hF
set_option maxRecDepth 20000 in
theorem CM_digits_10 {w : xw_G} {h : xw_H} (hb : xMb h)  : ∀ (fu : Nat) {l1 : Int32} {l2 : Int64} {l4 : Int32} {s : xMs} {out : (xo Int64 xMs)} {h0 : xw_H} {m0 n0 : Nat} (hm : m0 ≤ s.2.2.1.2.2.2.2.2.2.1 ∧ n0 ≤ s.2.2.1.2.2.2.2.2.2.2), FM_digits_10 fu l1 l2 l4 s = some out → xw_Y w mM_digits 7 121 (xo_P (fun x => some (.long x)) (fun s => mV s h) out) h0 m0 n0 s.2.2.1.2.2.2.2.2.2.1 s.2.2.1.2.2.2.2.2.2.2 (xo_s out).2.2.1.2.2.2.2.2.2.1 (xo_s out).2.2.1.2.2.2.2.2.2.2 10 [some (.ref 2000), some (.int l1), some (.long l2), none, some (.int l4), none, none] [] (mV s h) := by
  intro fu
  induction fu with
  | zero =>
    intro l1 l2 l4 s out h0 m0 n0 hm hF
    rw [FM_digits_10] at hF
    cases hF
  | succ fu ih =>
    intro l1 l2 l4 s out h0 m0 n0 hm hF
    rw [FM_digits_10] at hF
    refine xy_r (xw_aload_n dM_digits_10 rfl) ?_
    obtain ⟨r120, er120, hF⟩ := xg_b hF
    refine xy_q (fun hq => xg_V1 (k1 := _) (n1 := _) (CM_peek er120) rfl rfl rfl dM_digits_11 (kM_230 _) ⟨Nat.le_of_ble_eq_true rfl, Nat.le_of_ble_eq_true rfl⟩ rfl rfl rfl rfl (Nat.le_of_ble_eq_true rfl) (Nat.le_refl _) (Nat.le_refl _) (Nat.sub_le_sub_right hq.1 _) (Nat.sub_le_sub_right hq.2 _)) ?_
    refine xy_q (fun hq => xg_S1 (k1 := _) (n1 := _) (cM_digit w) rfl rfl rfl dM_digits_14 (kM_295 _) ⟨Nat.le_of_ble_eq_true rfl, Nat.le_of_ble_eq_true rfl⟩ rfl rfl (Nat.le_of_ble_eq_true rfl) (Nat.le_refl _) (Nat.le_refl _) (Nat.sub_le_sub_right hq.1 _) (Nat.sub_le_sub_right hq.2 _)) ?_
    refine xy_br (xw_if_eq 59 dM_digits_17 (by decide)) (fun c121 => ?_) (fun c121 => ?_)
    · replace hF := xg_t c121 hF
      refine xy_r (xw_drop (L' := [some (.ref 2000), some (.int l1), some (.long l2), none, none, none, none]) ⟨rfl, ⟨rfl, ⟨rfl, trivial⟩⟩⟩) ?_
      exact CM_digits_59 hb hm hF
    · replace hF := xg_f c121 hF
      refine xy_r (xw_iload dM_digits_20 rfl) ?_
      refine xy_r (xw_bipush (11) dM_digits_22 (by decide)) ?_
      refine xy_br (xw_icmp_ge 59 dM_digits_24 (by decide)) (fun c146 => ?_) (fun c146 => ?_)
      · replace hF := xg_t c146 hF
        refine xy_r (xw_drop (L' := [some (.ref 2000), some (.int l1), some (.long l2), none, none, none, none]) ⟨rfl, ⟨rfl, ⟨rfl, trivial⟩⟩⟩) ?_
        exact CM_digits_59 hb hm hF
      · replace hF := xg_f c146 hF
        refine xy_r (xw_ldc2 dM_digits_27 tw_1221) ?_
        refine xy_r (xw_lload_n dM_digits_30 rfl) ?_
        refine xy_r (xw_lmul dM_digits_31) ?_
        refine xy_r (xw_aload_n dM_digits_32 rfl) ?_
        obtain ⟨r147, er147, hF⟩ := xg_b hF
        refine xy_q (fun hq => xg_V1 (k1 := _) (n1 := _) (CM_peek er147) rfl rfl rfl dM_digits_33 (kM_230 _) ⟨Nat.le_of_ble_eq_true rfl, Nat.le_of_ble_eq_true rfl⟩ rfl rfl rfl rfl (Nat.le_of_ble_eq_true rfl) (Nat.le_refl _) (Nat.le_refl _) (Nat.sub_le_sub_right hq.1 _) (Nat.sub_le_sub_right hq.2 _)) ?_
        refine xy_r (xw_i2l dM_digits_36) ?_
        refine xy_r (xw_ladd dM_digits_37) ?_
        refine xy_r (xw_ldc2 dM_digits_38 tw_1222) ?_
        refine xy_r (xw_lsub dM_digits_41) ?_
        refine xy_r (xw_lstore_n dM_digits_42 (Nat.le_of_ble_eq_true rfl)) ?_
        refine xy_r (xw_Ln (L' := [some (.ref 2000), some (.int l1), some (.long ((((10) * l2) + (Int32.toInt64 r147)) - (48))), none, some (.int l4), none, none]) rfl) ?_
        refine xy_r (xw_iinc ((l4 + 1)) dM_digits_43 rfl rfl (Nat.le_of_ble_eq_true rfl)) ?_
        refine xy_r (xw_Ln (L' := [some (.ref 2000), some (.int l1), some (.long ((((10) * l2) + (Int32.toInt64 r147)) - (48))), none, some (.int (l4 + 1)), none, none]) rfl) ?_
        refine xy_r (xw_aload_n dM_digits_46 rfl) ?_
        refine xy_r (xw_dup_r dM_digits_47) ?_
        refine xy_r (xw_get dM_digits_48 fM_221 rfl rfl) ?_
        refine xy_r (xw_iconst (1) dM_digits_51 (by decide)) ?_
        refine xy_r (xw_iadd dM_digits_52) ?_
        refine xy_r (xg_put dM_digits_53 fM_221 rfl (by decide) (Nat.le_of_ble_eq_true rfl) (fun _ => rfl) (fun _ => rfl) (mV_o (s' := (s.1, (s.2.1.1, (s.2.1.2.1 + 1), s.2.1.2.2), s.2.2)) rfl)) ?_
        refine xy_r (xw_goto 10 dM_digits_56 (by decide)) ?_
        exact ih hm hF
set_option maxRecDepth 20000 in
theorem CM_digits {w : xw_G} {h : xw_H} (hb : xMb h)  {s : xMs} {out : (xo Int64 xMs)} (hF : FM_digits  s = some out) : (s.2.2.1.2.2.2.2.2.2.1 ≤ (xo_s out).2.2.1.2.2.2.2.2.2.1 ∧ s.2.2.1.2.2.2.2.2.2.2 ≤ (xo_s out).2.2.1.2.2.2.2.2.2.2) ∧ xw_C w (mM_digits { frames := 7, cells := (xo_s out).2.2.1.2.2.2.2.2.2.1 - s.2.2.1.2.2.2.2.2.2.1, slots := (xo_s out).2.2.1.2.2.2.2.2.2.2 - s.2.2.1.2.2.2.2.2.2.2, locals := 121 }) (xo_P (fun x => some (.long x)) (fun s => mV s h) out) [.ref 2000] (mV s h) := by
  unfold FM_digits at hF
  refine xy_enter (L := [some (.ref 2000), none, none, none, none, none, none]) (fun _ => rfl) (fun _ => rfl) (fun _ => (show plainName "FormulaShaperModel" = true by decide +kernel)) (fun _ => (Nat.le_of_ble_eq_true rfl)) (fun _ => rfl) ?_
  have hm : s.2.2.1.2.2.2.2.2.2.1 ≤ s.2.2.1.2.2.2.2.2.2.1 ∧ s.2.2.1.2.2.2.2.2.2.2 ≤ s.2.2.1.2.2.2.2.2.2.2 := ⟨Nat.le_refl _, Nat.le_refl _⟩
  refine xy_r (xw_aload_n dM_digits_0 rfl) ?_
  refine xy_r (xw_get dM_digits_1 fM_221 rfl rfl) ?_
  refine xy_r (xw_istore_n dM_digits_4 (Nat.le_of_ble_eq_true rfl)) ?_
  refine xy_r (xw_Ln (L' := [some (.ref 2000), some (.int s.2.1.2.1), none, none, none, none, none]) rfl) ?_
  refine xy_r (xw_lconst (0) dM_digits_5 (by decide)) ?_
  refine xy_r (xw_lstore_n dM_digits_6 (Nat.le_of_ble_eq_true rfl)) ?_
  refine xy_r (xw_Ln (L' := [some (.ref 2000), some (.int s.2.1.2.1), some (.long 0), none, none, none, none]) rfl) ?_
  refine xy_r (xw_iconst (0) dM_digits_7 (by decide)) ?_
  refine xy_r (xw_istore dM_digits_8 (Nat.le_of_ble_eq_true rfl)) ?_
  refine xy_r (xw_Ln (L' := [some (.ref 2000), some (.int s.2.1.2.1), some (.long 0), none, some (.int 0), none, none]) rfl) ?_
  exact CM_digits_10 hb xFuel hm hF
def FM_errorHere_L : Nat → (Int32 → xMs → Option Int32) × (Int32 → Bool → Int32 → xMs → Option Int32)
  | 0 => (fun _ _ => none, fun _ _ _ _ => none)
  | fu + 1 => (fun l1 s => if 8 ≤ l1 then (some 0) else (FM_errorHere_12 fu l1 true 0 s), fun l1 l2 l3 s => if 0 ≤ l1 ∧ l1 < nI 8 then ((xk_err[(l1).toNatClampNeg]?).bind fun k150 => if k150 < xk_N then (if (nI (xk_by k150).length) ≤ l3 then (if l2 = true then (some (l1 + 1)) else (FM_errorHere_2 fu (l1 + 1) s)) else (if l2 = true then ((FM_look l3 s).bind fun r156 => (xk_err[(l1).toNatClampNeg]?).bind fun k157 => if k157 < xk_N ∧ 0 ≤ l3 ∧ l3 < nI (xk_by k157).length then (if r156 = ((xk_by k157).getD (l3).toNatClampNeg 0) then (FM_errorHere_12 fu l1 true (l3 + 1) s) else (FM_errorHere_12 fu l1 false (l3 + 1) s)) else none) else (if l2 = true then (some (l1 + 1)) else (FM_errorHere_2 fu (l1 + 1) s)))) else none) else none)
def FM_errorHere_2 (fu : Nat) (l1 : Int32) (s : xMs) : Option Int32 := (FM_errorHere_L fu).1 l1 s
def FM_errorHere_12 (fu : Nat) (l1 : Int32) (l2 : Bool) (l3 : Int32) (s : xMs) : Option Int32 := (FM_errorHere_L fu).2 l1 l2 l3 s
/-- FormulaShaperModel.errorHere -/
def FM_errorHere  (s : xMs) : Option Int32 := FM_errorHere_2 xFuel 0 s
set_option maxRecDepth 20000 in
theorem CM_errorHere_L {w : xw_G} {h : xw_H} : ∀ (fu : Nat), (∀  {l1 : Int32} {s : xMs} {out : Int32} {h0 : xw_H}, FM_errorHere_2 fu l1 s = some out → xw_X w (mM_errorHere { frames := 4, cells := 0, slots := 0, locals := 85 }) (xw_R (some (.int out)) (mV s h)) h0 0 0 2 [some (.ref 2000), some (.int l1), none, none] [] (mV s h)) ∧ (∀  {l1 : Int32} {l2 : Bool} {l3 : Int32} {s : xMs} {out : Int32} {h0 : xw_H}, FM_errorHere_12 fu l1 l2 l3 s = some out → xw_X w (mM_errorHere { frames := 4, cells := 0, slots := 0, locals := 85 }) (xw_R (some (.int out)) (mV s h)) h0 0 0 12 [some (.ref 2000), some (.int l1), some (.int (xb l2)), some (.int l3)] [] (mV s h)) := by
  intro fu
  induction fu with
  | zero => exact ⟨fun q => (Option.some_ne_none _ q.symm).elim, fun q => (Option.some_ne_none _ q.symm).elim⟩
  | succ fu ih =>
    refine ⟨?_, ?_⟩
    · intro l1 s out h0 hF
      replace hF : (if 8 ≤ l1 then (some 0) else (FM_errorHere_12 fu l1 true 0 s)) = some out := hF
      refine xw_iload_n dM_errorHere_2 rfl ?_
      refine xw_bipush (8) dM_errorHere_3 (by decide) ?_
      refine xw_icmp_ge 73 dM_errorHere_5 (by decide) (fun c148 => ?_) (fun c148 => ?_)
      · replace hF := xg_t c148 hF
        refine xw_iconst (0) dM_errorHere_73 (by decide) ?_
        obtain rfl := Option.some.inj hF
        exact xw_ireturn dM_errorHere_74 rfl rfl (Nat.le_of_ble_eq_true rfl) (Nat.le_of_ble_eq_true rfl) ⟨rfl, rfl⟩
      · replace hF := xg_f c148 hF
        refine xw_iconst (1) dM_errorHere_8 (by decide) ?_
        refine xw_istore_n dM_errorHere_9 (Nat.le_of_ble_eq_true rfl) ?_
        refine xw_Ln (L' := [some (.ref 2000), some (.int l1), some (.int 1), none]) rfl ?_
        refine xw_iconst (0) dM_errorHere_10 (by decide) ?_
        refine xw_istore_n dM_errorHere_11 (Nat.le_of_ble_eq_true rfl) ?_
        refine xw_Ln (L' := [some (.ref 2000), some (.int l1), some (.int 1), some (.int 0)]) rfl ?_
        exact ih.2 hF
    · intro l1 l2 l3 s out h0 hF
      replace hF : (if 0 ≤ l1 ∧ l1 < nI 8 then ((xk_err[(l1).toNatClampNeg]?).bind fun k150 => if k150 < xk_N then (if (nI (xk_by k150).length) ≤ l3 then (if l2 = true then (some (l1 + 1)) else (FM_errorHere_2 fu (l1 + 1) s)) else (if l2 = true then ((FM_look l3 s).bind fun r156 => (xk_err[(l1).toNatClampNeg]?).bind fun k157 => if k157 < xk_N ∧ 0 ≤ l3 ∧ l3 < nI (xk_by k157).length then (if r156 = ((xk_by k157).getD (l3).toNatClampNeg 0) then (FM_errorHere_12 fu l1 true (l3 + 1) s) else (FM_errorHere_12 fu l1 false (l3 + 1) s)) else none) else (if l2 = true then (some (l1 + 1)) else (FM_errorHere_2 fu (l1 + 1) s)))) else none) else none) = some out := hF
      refine xw_iload_n dM_errorHere_12 rfl ?_
      refine xw_aload_n dM_errorHere_13 rfl ?_
      refine xw_get dM_errorHere_14 fM_47 rfl rfl ?_
      refine xw_iload_n dM_errorHere_17 rfl ?_
      obtain ⟨g149, hF⟩ := xg_g hF
      obtain ⟨k150, ek150, hF⟩ := xg_b hF
      refine xg_saload g149 (by decide) ek150 dM_errorHere_18 rfl ?_
      obtain ⟨g151, hF⟩ := xg_g hF
      refine xg_K1 (k1 := 0) (n1 := 0) (cQ_length w g151) rfl rfl rfl dM_errorHere_19 (kM_171 _) ⟨Nat.le_of_ble_eq_true rfl, Nat.le_of_ble_eq_true rfl⟩ rfl rfl (xk_mO g151) (xk_lt9 g151) (Nat.le_of_ble_eq_true rfl) (Nat.le_of_ble_eq_true rfl) (Nat.le_of_ble_eq_true rfl) (Nat.le_of_ble_eq_true rfl) (Nat.le_of_ble_eq_true rfl) ?_
      refine xw_icmp_ge 59 dM_errorHere_22 (by decide) (fun c152 => ?_) (fun c152 => ?_)
      · replace hF := xg_t c152 hF
        refine xw_iload_n dM_errorHere_59 rfl ?_
        refine xw_if_eqB 67 dM_errorHere_60 (by decide) (fun c153 => ?_) (fun c153 => ?_)
        · replace hF := xg_f c153 hF
          refine xw_iinc ((l1 + 1)) dM_errorHere_67 rfl rfl (Nat.le_of_ble_eq_true rfl) ?_
          refine xw_Ln (L' := [some (.ref 2000), some (.int (l1 + 1)), some (.int (xb l2)), some (.int l3)]) rfl ?_
          refine xw_goto 2 dM_errorHere_70 (by decide) ?_
          refine xw_drop (L' := [some (.ref 2000), some (.int (l1 + 1)), none, none]) ⟨rfl, ⟨rfl, trivial⟩⟩ ?_
          exact ih.1 hF
        · replace hF := xg_t c153 hF
          refine xw_iload_n dM_errorHere_63 rfl ?_
          refine xw_iconst (1) dM_errorHere_64 (by decide) ?_
          refine xw_iadd dM_errorHere_65 ?_
          obtain rfl := Option.some.inj hF
          exact xw_ireturn dM_errorHere_66 rfl rfl (Nat.le_of_ble_eq_true rfl) (Nat.le_of_ble_eq_true rfl) ⟨rfl, rfl⟩
      · replace hF := xg_f c152 hF
        refine xw_iload_n dM_errorHere_25 rfl ?_
        refine xw_if_eqB 59 dM_errorHere_26 (by decide) (fun c154 => ?_) (fun c154 => ?_)
        · replace hF := xg_f c154 hF
          refine xw_iload_n dM_errorHere_59 rfl ?_
          refine xw_if_eqB 67 dM_errorHere_60 (by decide) (fun c155 => ?_) (fun c155 => ?_)
          · replace hF := xg_f c155 hF
            refine xw_iinc ((l1 + 1)) dM_errorHere_67 rfl rfl (Nat.le_of_ble_eq_true rfl) ?_
            refine xw_Ln (L' := [some (.ref 2000), some (.int (l1 + 1)), some (.int (xb l2)), some (.int l3)]) rfl ?_
            refine xw_goto 2 dM_errorHere_70 (by decide) ?_
            refine xw_drop (L' := [some (.ref 2000), some (.int (l1 + 1)), none, none]) ⟨rfl, ⟨rfl, trivial⟩⟩ ?_
            exact ih.1 hF
          · replace hF := xg_t c155 hF
            refine xw_iload_n dM_errorHere_63 rfl ?_
            refine xw_iconst (1) dM_errorHere_64 (by decide) ?_
            refine xw_iadd dM_errorHere_65 ?_
            obtain rfl := Option.some.inj hF
            exact xw_ireturn dM_errorHere_66 rfl rfl (Nat.le_of_ble_eq_true rfl) (Nat.le_of_ble_eq_true rfl) ⟨rfl, rfl⟩
        · replace hF := xg_t c154 hF
          refine xw_aload_n dM_errorHere_29 rfl ?_
          refine xw_iload_n dM_errorHere_30 rfl ?_
          obtain ⟨r156, er156, hF⟩ := xg_b hF
          refine xg_V1 (k1 := 0) (n1 := 0) (CM_look er156) rfl rfl rfl dM_errorHere_31 (kM_264 _) ⟨Nat.le_of_ble_eq_true rfl, Nat.le_of_ble_eq_true rfl⟩ rfl rfl rfl rfl (Nat.le_of_ble_eq_true rfl) (Nat.le_of_ble_eq_true rfl) (Nat.le_of_ble_eq_true rfl) (Nat.le_of_ble_eq_true rfl) (Nat.le_of_ble_eq_true rfl) ?_
          refine xw_aload_n dM_errorHere_34 rfl ?_
          refine xw_get dM_errorHere_35 fM_47 rfl rfl ?_
          refine xw_iload_n dM_errorHere_38 rfl ?_
          obtain ⟨k157, ek157, hF⟩ := xg_b hF
          refine xg_saload g149 (by decide) ek157 dM_errorHere_39 rfl ?_
          refine xw_iload_n dM_errorHere_40 rfl ?_
          obtain ⟨g158, hF⟩ := xg_g hF
          refine xg_K1 (k1 := 0) (n1 := 0) (CQ_charAt (w := w) g158.1 g158.2) rfl rfl rfl dM_errorHere_41 (kM_177 _) ⟨Nat.le_of_ble_eq_true rfl, Nat.le_of_ble_eq_true rfl⟩ rfl rfl (xk_mO g158.1) (xk_lt9 g158.1) (Nat.le_of_ble_eq_true rfl) (Nat.le_of_ble_eq_true rfl) (Nat.le_of_ble_eq_true rfl) (Nat.le_of_ble_eq_true rfl) (Nat.le_of_ble_eq_true rfl) ?_
          refine xw_icmp_ne 51 dM_errorHere_44 (by decide) (fun c159 => ?_) (fun c159 => ?_)
          · replace hF := xg_f c159 hF
            refine xw_iconst (0) dM_errorHere_51 (by decide) ?_
            refine xw_istore_n dM_errorHere_52 (Nat.le_of_ble_eq_true rfl) ?_
            refine xw_Ln (L' := [some (.ref 2000), some (.int l1), some (.int 0), some (.int l3)]) rfl ?_
            refine xw_iinc ((l3 + 1)) dM_errorHere_53 rfl rfl (Nat.le_of_ble_eq_true rfl) ?_
            refine xw_Ln (L' := [some (.ref 2000), some (.int l1), some (.int 0), some (.int (l3 + 1))]) rfl ?_
            refine xw_goto 12 dM_errorHere_56 (by decide) ?_
            exact ih.2 hF
          · replace hF := xg_t c159 hF
            refine xw_iconst (1) dM_errorHere_47 (by decide) ?_
            refine xw_goto 52 dM_errorHere_48 (by decide) ?_
            refine xw_istore_n dM_errorHere_52 (Nat.le_of_ble_eq_true rfl) ?_
            refine xw_Ln (L' := [some (.ref 2000), some (.int l1), some (.int 1), some (.int l3)]) rfl ?_
            refine xw_iinc ((l3 + 1)) dM_errorHere_53 rfl rfl (Nat.le_of_ble_eq_true rfl) ?_
            refine xw_Ln (L' := [some (.ref 2000), some (.int l1), some (.int 1), some (.int (l3 + 1))]) rfl ?_
            refine xw_goto 12 dM_errorHere_56 (by decide) ?_
            exact ih.2 hF
theorem CM_errorHere_2 {w : xw_G} {h : xw_H} (fu : Nat)  {l1 : Int32} {s : xMs} {out : Int32} {h0 : xw_H} (hF : FM_errorHere_2 fu l1 s = some out) : xw_X w (mM_errorHere { frames := 4, cells := 0, slots := 0, locals := 85 }) (xw_R (some (.int out)) (mV s h)) h0 0 0 2 [some (.ref 2000), some (.int l1), none, none] [] (mV s h) := (CM_errorHere_L fu).1 hF
theorem CM_errorHere_12 {w : xw_G} {h : xw_H} (fu : Nat)  {l1 : Int32} {l2 : Bool} {l3 : Int32} {s : xMs} {out : Int32} {h0 : xw_H} (hF : FM_errorHere_12 fu l1 l2 l3 s = some out) : xw_X w (mM_errorHere { frames := 4, cells := 0, slots := 0, locals := 85 }) (xw_R (some (.int out)) (mV s h)) h0 0 0 12 [some (.ref 2000), some (.int l1), some (.int (xb l2)), some (.int l3)] [] (mV s h) := (CM_errorHere_L fu).2 hF
set_option maxRecDepth 20000 in
theorem CM_errorHere {w : xw_G} {h : xw_H}  {s : xMs} {out : Int32} (hF : FM_errorHere  s = some out) : xw_C w (mM_errorHere { frames := 4, cells := 0, slots := 0, locals := 85 }) (xw_R (some (.int out)) (mV s h)) [.ref 2000] (mV s h) := by
  unfold FM_errorHere at hF
  refine xw_enter rfl (show plainName "FormulaShaperModel" = true by decide +kernel) (Nat.le_of_ble_eq_true rfl) ?_
  refine xw_iconst (0) dM_errorHere_0 (by decide) ?_
  refine xw_istore_n dM_errorHere_1 (Nat.le_of_ble_eq_true rfl) ?_
  refine xw_Ln (L' := [some (.ref 2000), some (.int 0), none, none]) rfl ?_
  exact CM_errorHere_2 xFuel hF
def FM_quoted_29 : Nat → Nat → Int32 → xMs → Option (xo Nat xMs)
  | 0, _, _, _ => none
  | fu + 1, l1, l2, s => (FM_peek s).bind fun r164 => if r164 < 32 then (xo_b (FM_bad l2 s) fun r166 => if r164 = 34 then ((FM_look 1 r166.2).bind fun r171 => if r171 = 34 then (if r164 = 34 then (FM_quoted_29 fu l1 l2 (r166.2.1, (r166.2.2.1.1, (r166.2.2.1.2.1 + 2), r166.2.2.1.2.2), r166.2.2.2)) else (FM_quoted_29 fu l1 l2 (r166.2.1, (r166.2.2.1.1, (r166.2.2.1.2.1 + 1), r166.2.2.1.2.2), r166.2.2.2))) else (if l1 < r166.2.2.2.1.2.2.2.2.1 then (some (.inl (l1, (r166.2.1, (r166.2.2.1.1, (r166.2.2.1.2.1 + 1), r166.2.2.1.2.2), (r166.2.2.2.1.1, r166.2.2.2.1.2.1, r166.2.2.2.1.2.2.1, r166.2.2.2.1.2.2.2.1, r166.2.2.2.1.2.2.2.2.1, (va_up r166.2.2.2.1.2.2.2.2.2.1 l1 (nB (r166.2.2.2.1.2.2.2.2.2.1 l1) (r166.2.2.1.2.1 - (r166.2.2.2.1.2.2.2.2.2.1 l1).1.2.1))), r166.2.2.2.1.2.2.2.2.2.2), r166.2.2.2.2)))) else none)) else (if r164 = 34 then (FM_quoted_29 fu l1 l2 (r166.2.1, (r166.2.2.1.1, (r166.2.2.1.2.1 + 2), r166.2.2.1.2.2), r166.2.2.2)) else (FM_quoted_29 fu l1 l2 (r166.2.1, (r166.2.2.1.1, (r166.2.2.1.2.1 + 1), r166.2.2.1.2.2), r166.2.2.2)))) else (if r164 ≤ 126 then (if r164 = 34 then ((FM_look 1 s).bind fun r178 => if r178 = 34 then (if r164 = 34 then (FM_quoted_29 fu l1 l2 (s.1, (s.2.1.1, (s.2.1.2.1 + 2), s.2.1.2.2), s.2.2)) else (FM_quoted_29 fu l1 l2 (s.1, (s.2.1.1, (s.2.1.2.1 + 1), s.2.1.2.2), s.2.2))) else (if l1 < s.2.2.1.2.2.2.2.1 then (some (.inl (l1, (s.1, (s.2.1.1, (s.2.1.2.1 + 1), s.2.1.2.2), (s.2.2.1.1, s.2.2.1.2.1, s.2.2.1.2.2.1, s.2.2.1.2.2.2.1, s.2.2.1.2.2.2.2.1, (va_up s.2.2.1.2.2.2.2.2.1 l1 (nB (s.2.2.1.2.2.2.2.2.1 l1) (s.2.1.2.1 - (s.2.2.1.2.2.2.2.2.1 l1).1.2.1))), s.2.2.1.2.2.2.2.2.2), s.2.2.2)))) else none)) else (if r164 = 34 then (FM_quoted_29 fu l1 l2 (s.1, (s.2.1.1, (s.2.1.2.1 + 2), s.2.1.2.2), s.2.2)) else (FM_quoted_29 fu l1 l2 (s.1, (s.2.1.1, (s.2.1.2.1 + 1), s.2.1.2.2), s.2.2)))) else (xo_b (FM_bad l2 s) fun r182 => if r164 = 34 then ((FM_look 1 r182.2).bind fun r187 => if r187 = 34 then (if r164 = 34 then (FM_quoted_29 fu l1 l2 (r182.2.1, (r182.2.2.1.1, (r182.2.2.1.2.1 + 2), r182.2.2.1.2.2), r182.2.2.2)) else (FM_quoted_29 fu l1 l2 (r182.2.1, (r182.2.2.1.1, (r182.2.2.1.2.1 + 1), r182.2.2.1.2.2), r182.2.2.2))) else (if l1 < r182.2.2.2.1.2.2.2.2.1 then (some (.inl (l1, (r182.2.1, (r182.2.2.1.1, (r182.2.2.1.2.1 + 1), r182.2.2.1.2.2), (r182.2.2.2.1.1, r182.2.2.2.1.2.1, r182.2.2.2.1.2.2.1, r182.2.2.2.1.2.2.2.1, r182.2.2.2.1.2.2.2.2.1, (va_up r182.2.2.2.1.2.2.2.2.2.1 l1 (nB (r182.2.2.2.1.2.2.2.2.2.1 l1) (r182.2.2.1.2.1 - (r182.2.2.2.1.2.2.2.2.2.1 l1).1.2.1))), r182.2.2.2.1.2.2.2.2.2.2), r182.2.2.2.2)))) else none)) else (if r164 = 34 then (FM_quoted_29 fu l1 l2 (r182.2.1, (r182.2.2.1.1, (r182.2.2.1.2.1 + 2), r182.2.2.1.2.2), r182.2.2.2)) else (FM_quoted_29 fu l1 l2 (r182.2.1, (r182.2.2.1.1, (r182.2.2.1.2.1 + 1), r182.2.2.1.2.2), r182.2.2.2)))))
/-- FormulaShaperModel.quoted -/
def FM_quoted  (s : xMs) : Option (xo Nat xMs) := (FM_node 1 s).bind fun r160 => if r160.1 < r160.2.2.2.1.2.2.2.2.1 then (FM_quoted_29 xFuel r160.1 r160.2.2.1.2.1 (r160.2.1, (r160.2.2.1.1, (r160.2.2.1.2.1 + 1), r160.2.2.1.2.2), (r160.2.2.2.1.1, r160.2.2.2.1.2.1, r160.2.2.2.1.2.2.1, r160.2.2.2.1.2.2.2.1, r160.2.2.2.1.2.2.2.2.1, (va_up r160.2.2.2.1.2.2.2.2.2.1 r160.1 (nA (r160.2.2.2.1.2.2.2.2.2.1 r160.1) (r160.2.2.1.2.1 + 1))), r160.2.2.2.1.2.2.2.2.2.2), r160.2.2.2.2)) else none
set_option maxRecDepth 20000 in
theorem CM_quoted_29 {w : xw_G} {h : xw_H} (hb : xMb h)  : ∀ (fu : Nat) {l1 : Nat} {l2 : Int32} {s : xMs} {out : (xo Nat xMs)} {h0 : xw_H} {m0 n0 : Nat} (hm : m0 ≤ s.2.2.1.2.2.2.2.2.2.1 ∧ n0 ≤ s.2.2.1.2.2.2.2.2.2.2), FM_quoted_29 fu l1 l2 s = some out → xw_Y w mM_quoted 7 121 (xo_P (fun x => some (.ref (xn x))) (fun s => mV s h) out) h0 m0 n0 s.2.2.1.2.2.2.2.2.2.1 s.2.2.1.2.2.2.2.2.2.2 (xo_s out).2.2.1.2.2.2.2.2.2.1 (xo_s out).2.2.1.2.2.2.2.2.2.2 29 [some (.ref 2000), some (.ref (xn l1)), some (.int l2), none] [] (mV s h) := by
  intro fu
  induction fu with
  | zero =>
    intro l1 l2 s out h0 m0 n0 hm hF
    rw [FM_quoted_29] at hF
    cases hF
  | succ fu ih =>
    intro l1 l2 s out h0 m0 n0 hm hF
    rw [FM_quoted_29] at hF
    refine xy_r (xw_aload_n dM_quoted_29 rfl) ?_
    obtain ⟨r164, er164, hF⟩ := xg_b hF
    refine xy_q (fun hq => xg_V1 (k1 := _) (n1 := _) (CM_peek er164) rfl rfl rfl dM_quoted_30 (kM_230 _) ⟨Nat.le_of_ble_eq_true rfl, Nat.le_of_ble_eq_true rfl⟩ rfl rfl rfl rfl (Nat.le_of_ble_eq_true rfl) (Nat.le_refl _) (Nat.le_refl _) (Nat.sub_le_sub_right hq.1 _) (Nat.sub_le_sub_right hq.2 _)) ?_
    refine xy_r (xw_istore_n dM_quoted_33 (Nat.le_of_ble_eq_true rfl)) ?_
    refine xy_r (xw_Ln (L' := [some (.ref 2000), some (.ref (xn l1)), some (.int l2), some (.int r164)]) rfl) ?_
    refine xy_r (xw_iload_n dM_quoted_34 rfl) ?_
    refine xy_r (xw_bipush (32) dM_quoted_35 (by decide)) ?_
    refine xy_br (xw_icmp_lt 46 dM_quoted_37 (by decide)) (fun c165 => ?_) (fun c165 => ?_)
    · replace hF := xg_t c165 hF
      refine xy_r (xw_aload_n dM_quoted_46 rfl) ?_
      refine xy_r (xw_iload_n dM_quoted_47 rfl) ?_
      rcases xg_o hF with ⟨r166, er166, hF⟩ | ⟨r166, er166, hF⟩
      · have hm167 : m0 ≤ r166.2.2.2.1.2.2.2.2.2.2.1 ∧ n0 ≤ r166.2.2.2.1.2.2.2.2.2.2.2 := xy_le hm (show s.2.2.1.2.2.2.2.2.2.1 ≤ r166.2.2.2.1.2.2.2.2.2.2.1 ∧ s.2.2.1.2.2.2.2.2.2.2 ≤ r166.2.2.2.1.2.2.2.2.2.2.2 from (CM_bad (w := w) (h := h) hb er166).1)
        refine xy_V0 (sm := s.2.2.1.2.2.2.2.2.2.1) (sn := s.2.2.1.2.2.2.2.2.2.2) (tm := r166.2.2.2.1.2.2.2.2.2.2.1) (tn := r166.2.2.2.1.2.2.2.2.2.2.2) (CM_bad hb er166) rfl rfl hm (fun _ => rfl) (fun _ => rfl) (fun _ => rfl) (fun _ => dM_quoted_48) (fun _ R => kM_239 R) (fun _ => rfl) ⟨(Nat.le_of_ble_eq_true rfl), (Nat.le_of_ble_eq_true rfl)⟩ rfl rfl rfl (fun _ => rfl) (Nat.le_of_ble_eq_true rfl) ?_
        refine xy_r (xw_iload_n dM_quoted_51 rfl) ?_
        refine xy_r (xw_bipush (34) dM_quoted_52 (by decide)) ?_
        refine xy_brn (xw_icmp_ne 70 dM_quoted_54 (by decide)) (fun c169 => ?_) (fun c169 => ?_)
        · replace hF := xg_f c169 hF
          refine xy_r (xw_aload_n dM_quoted_70 rfl) ?_
          refine xy_r (xw_dup_r dM_quoted_71) ?_
          refine xy_r (xw_get dM_quoted_72 fM_221 rfl rfl) ?_
          refine xy_r (xw_iload_n dM_quoted_75 rfl) ?_
          refine xy_r (xw_bipush (34) dM_quoted_76 (by decide)) ?_
          refine xy_brn (xw_icmp_ne 85 dM_quoted_78 (by decide)) (fun c170 => ?_) (fun c170 => ?_)
          · replace hF := xg_f c170 hF
            refine xy_r (xw_iconst (1) dM_quoted_85 (by decide)) ?_
            refine xy_r (xw_iadd dM_quoted_86) ?_
            refine xy_r (xg_put dM_quoted_87 fM_221 rfl (by decide) (Nat.le_of_ble_eq_true rfl) (fun _ => rfl) (fun _ => rfl) (mV_o (s' := (r166.2.1, (r166.2.2.1.1, (r166.2.2.1.2.1 + 1), r166.2.2.1.2.2), r166.2.2.2)) rfl)) ?_
            refine xy_r (xw_goto 29 dM_quoted_90 (by decide)) ?_
            refine xy_r (xw_drop (L' := [some (.ref 2000), some (.ref (xn l1)), some (.int l2), none]) ⟨rfl, ⟨rfl, ⟨rfl, trivial⟩⟩⟩) ?_
            exact ih hm167 hF
          · replace hF := xg_t c170 hF
            refine xy_r (xw_iconst (2) dM_quoted_81 (by decide)) ?_
            refine xy_r (xw_goto 86 dM_quoted_82 (by decide)) ?_
            refine xy_r (xw_iadd dM_quoted_86) ?_
            refine xy_r (xg_put dM_quoted_87 fM_221 rfl (by decide) (Nat.le_of_ble_eq_true rfl) (fun _ => rfl) (fun _ => rfl) (mV_o (s' := (r166.2.1, (r166.2.2.1.1, (r166.2.2.1.2.1 + 2), r166.2.2.1.2.2), r166.2.2.2)) rfl)) ?_
            refine xy_r (xw_goto 29 dM_quoted_90 (by decide)) ?_
            refine xy_r (xw_drop (L' := [some (.ref 2000), some (.ref (xn l1)), some (.int l2), none]) ⟨rfl, ⟨rfl, ⟨rfl, trivial⟩⟩⟩) ?_
            exact ih hm167 hF
        · replace hF := xg_t c169 hF
          refine xy_r (xw_aload_n dM_quoted_57 rfl) ?_
          refine xy_r (xw_iconst (1) dM_quoted_58 (by decide)) ?_
          obtain ⟨r171, er171, hF⟩ := xg_b hF
          refine xy_q (fun hq => xg_V1 (k1 := _) (n1 := _) (CM_look er171) rfl rfl rfl dM_quoted_59 (kM_264 _) ⟨Nat.le_of_ble_eq_true rfl, Nat.le_of_ble_eq_true rfl⟩ rfl rfl rfl rfl (Nat.le_of_ble_eq_true rfl) (Nat.le_refl _) (Nat.le_refl _) (Nat.sub_le_sub_right hq.1 _) (Nat.sub_le_sub_right hq.2 _)) ?_
          refine xy_r (xw_bipush (34) dM_quoted_62 (by decide)) ?_
          refine xy_br (xw_icmp_eq 70 dM_quoted_64 (by decide)) (fun c172 => ?_) (fun c172 => ?_)
          · replace hF := xg_t c172 hF
            refine xy_r (xw_aload_n dM_quoted_70 rfl) ?_
            refine xy_r (xw_dup_r dM_quoted_71) ?_
            refine xy_r (xw_get dM_quoted_72 fM_221 rfl rfl) ?_
            refine xy_r (xw_iload_n dM_quoted_75 rfl) ?_
            refine xy_r (xw_bipush (34) dM_quoted_76 (by decide)) ?_
            refine xy_brn (xw_icmp_ne 85 dM_quoted_78 (by decide)) (fun c173 => ?_) (fun c173 => ?_)
            · replace hF := xg_f c173 hF
              refine xy_r (xw_iconst (1) dM_quoted_85 (by decide)) ?_
              refine xy_r (xw_iadd dM_quoted_86) ?_
              refine xy_r (xg_put dM_quoted_87 fM_221 rfl (by decide) (Nat.le_of_ble_eq_true rfl) (fun _ => rfl) (fun _ => rfl) (mV_o (s' := (r166.2.1, (r166.2.2.1.1, (r166.2.2.1.2.1 + 1), r166.2.2.1.2.2), r166.2.2.2)) rfl)) ?_
              refine xy_r (xw_goto 29 dM_quoted_90 (by decide)) ?_
              refine xy_r (xw_drop (L' := [some (.ref 2000), some (.ref (xn l1)), some (.int l2), none]) ⟨rfl, ⟨rfl, ⟨rfl, trivial⟩⟩⟩) ?_
              exact ih hm167 hF
            · replace hF := xg_t c173 hF
              refine xy_r (xw_iconst (2) dM_quoted_81 (by decide)) ?_
              refine xy_r (xw_goto 86 dM_quoted_82 (by decide)) ?_
              refine xy_r (xw_iadd dM_quoted_86) ?_
              refine xy_r (xg_put dM_quoted_87 fM_221 rfl (by decide) (Nat.le_of_ble_eq_true rfl) (fun _ => rfl) (fun _ => rfl) (mV_o (s' := (r166.2.1, (r166.2.2.1.1, (r166.2.2.1.2.1 + 2), r166.2.2.1.2.2), r166.2.2.2)) rfl)) ?_
              refine xy_r (xw_goto 29 dM_quoted_90 (by decide)) ?_
              refine xy_r (xw_drop (L' := [some (.ref 2000), some (.ref (xn l1)), some (.int l2), none]) ⟨rfl, ⟨rfl, ⟨rfl, trivial⟩⟩⟩) ?_
              exact ih hm167 hF
          · replace hF := xg_f c172 hF
            refine xy_r (xw_goto 93 dM_quoted_67 (by decide)) ?_
            refine xy_r (xw_aload_n dM_quoted_93 rfl) ?_
            refine xy_r (xw_aload_n dM_quoted_94 rfl) ?_
            refine xy_r (xw_get dM_quoted_95 fM_221 rfl rfl) ?_
            refine xy_r (xw_aload_n dM_quoted_98 rfl) ?_
            obtain ⟨g174, hF⟩ := xg_g hF
            refine xy_r (xw_get dM_quoted_99 fM_195 (mV_n g174) rfl) ?_
            refine xy_r (xw_isub dM_quoted_102) ?_
            refine xy_r (xg_put dM_quoted_103 fM_198 (mV_n g174) (xn_le _) (Nat.le_of_ble_eq_true rfl) (fun _ => rfl) (fun _ => rfl) (mV_pn (q := (nB (r166.2.2.2.1.2.2.2.2.2.1 l1) (r166.2.2.1.2.1 - (r166.2.2.2.1.2.2.2.2.2.1 l1).1.2.1))) g174)) ?_
            refine xy_r (xw_aload_n dM_quoted_106 rfl) ?_
            refine xy_r (xw_dup_r dM_quoted_107) ?_
            refine xy_r (xw_get dM_quoted_108 fM_221 rfl rfl) ?_
            refine xy_r (xw_iconst (1) dM_quoted_111 (by decide)) ?_
            refine xy_r (xw_iadd dM_quoted_112) ?_
            refine xy_r (xg_put dM_quoted_113 fM_221 rfl (by decide) (Nat.le_of_ble_eq_true rfl) (fun _ => rfl) (fun _ => rfl) (mV_o (s' := (r166.2.1, (r166.2.2.1.1, (r166.2.2.1.2.1 + 1), r166.2.2.1.2.2), (r166.2.2.2.1.1, r166.2.2.2.1.2.1, r166.2.2.2.1.2.2.1, r166.2.2.2.1.2.2.2.1, r166.2.2.2.1.2.2.2.2.1, (va_up r166.2.2.2.1.2.2.2.2.2.1 l1 (nB (r166.2.2.2.1.2.2.2.2.2.1 l1) (r166.2.2.1.2.1 - (r166.2.2.2.1.2.2.2.2.2.1 l1).1.2.1))), r166.2.2.2.1.2.2.2.2.2.2), r166.2.2.2.2)) rfl)) ?_
            refine xy_r (xw_aload_n dM_quoted_116 rfl) ?_
            obtain rfl := Option.some.inj hF
            exact xy_end (xw_areturn dM_quoted_117 rfl (Or.inl ⟨_, rfl⟩) (Nat.le_refl _) (Nat.le_refl _) ⟨rfl, rfl⟩)
      · subst hF
        exact xy_Vt (sm := s.2.2.1.2.2.2.2.2.2.1) (sn := s.2.2.1.2.2.2.2.2.2.2) (tm := r166.2.2.2.1.2.2.2.2.2.2.1) (tn := r166.2.2.2.1.2.2.2.2.2.2.2) (CM_bad hb er166) rfl rfl hm (fun _ => rfl) (fun _ => rfl) (fun _ => rfl) (fun _ => dM_quoted_48) (fun _ R => kM_239 R) (fun _ => rfl) ⟨(Nat.le_of_ble_eq_true rfl), (Nat.le_of_ble_eq_true rfl)⟩ rfl rfl rfl (fun _ => rfl) (Nat.le_of_ble_eq_true rfl) ⟨rfl, rfl⟩
    · replace hF := xg_f c165 hF
      refine xy_r (xw_iload_n dM_quoted_40 rfl) ?_
      refine xy_r (xw_bipush (126) dM_quoted_41 (by decide)) ?_
      refine xy_br (xw_icmp_le 51 dM_quoted_43 (by decide)) (fun c175 => ?_) (fun c175 => ?_)
      · replace hF := xg_t c175 hF
        refine xy_r (xw_iload_n dM_quoted_51 rfl) ?_
        refine xy_r (xw_bipush (34) dM_quoted_52 (by decide)) ?_
        refine xy_brn (xw_icmp_ne 70 dM_quoted_54 (by decide)) (fun c176 => ?_) (fun c176 => ?_)
        · replace hF := xg_f c176 hF
          refine xy_r (xw_aload_n dM_quoted_70 rfl) ?_
          refine xy_r (xw_dup_r dM_quoted_71) ?_
          refine xy_r (xw_get dM_quoted_72 fM_221 rfl rfl) ?_
          refine xy_r (xw_iload_n dM_quoted_75 rfl) ?_
          refine xy_r (xw_bipush (34) dM_quoted_76 (by decide)) ?_
          refine xy_brn (xw_icmp_ne 85 dM_quoted_78 (by decide)) (fun c177 => ?_) (fun c177 => ?_)
          · replace hF := xg_f c177 hF
            refine xy_r (xw_iconst (1) dM_quoted_85 (by decide)) ?_
            refine xy_r (xw_iadd dM_quoted_86) ?_
            refine xy_r (xg_put dM_quoted_87 fM_221 rfl (by decide) (Nat.le_of_ble_eq_true rfl) (fun _ => rfl) (fun _ => rfl) (mV_o (s' := (s.1, (s.2.1.1, (s.2.1.2.1 + 1), s.2.1.2.2), s.2.2)) rfl)) ?_
            refine xy_r (xw_goto 29 dM_quoted_90 (by decide)) ?_
            refine xy_r (xw_drop (L' := [some (.ref 2000), some (.ref (xn l1)), some (.int l2), none]) ⟨rfl, ⟨rfl, ⟨rfl, trivial⟩⟩⟩) ?_
            exact ih hm hF
          · replace hF := xg_t c177 hF
            refine xy_r (xw_iconst (2) dM_quoted_81 (by decide)) ?_
            refine xy_r (xw_goto 86 dM_quoted_82 (by decide)) ?_
            refine xy_r (xw_iadd dM_quoted_86) ?_
            refine xy_r (xg_put dM_quoted_87 fM_221 rfl (by decide) (Nat.le_of_ble_eq_true rfl) (fun _ => rfl) (fun _ => rfl) (mV_o (s' := (s.1, (s.2.1.1, (s.2.1.2.1 + 2), s.2.1.2.2), s.2.2)) rfl)) ?_
            refine xy_r (xw_goto 29 dM_quoted_90 (by decide)) ?_
            refine xy_r (xw_drop (L' := [some (.ref 2000), some (.ref (xn l1)), some (.int l2), none]) ⟨rfl, ⟨rfl, ⟨rfl, trivial⟩⟩⟩) ?_
            exact ih hm hF
        · replace hF := xg_t c176 hF
          refine xy_r (xw_aload_n dM_quoted_57 rfl) ?_
          refine xy_r (xw_iconst (1) dM_quoted_58 (by decide)) ?_
          obtain ⟨r178, er178, hF⟩ := xg_b hF
          refine xy_q (fun hq => xg_V1 (k1 := _) (n1 := _) (CM_look er178) rfl rfl rfl dM_quoted_59 (kM_264 _) ⟨Nat.le_of_ble_eq_true rfl, Nat.le_of_ble_eq_true rfl⟩ rfl rfl rfl rfl (Nat.le_of_ble_eq_true rfl) (Nat.le_refl _) (Nat.le_refl _) (Nat.sub_le_sub_right hq.1 _) (Nat.sub_le_sub_right hq.2 _)) ?_
          refine xy_r (xw_bipush (34) dM_quoted_62 (by decide)) ?_
          refine xy_br (xw_icmp_eq 70 dM_quoted_64 (by decide)) (fun c179 => ?_) (fun c179 => ?_)
          · replace hF := xg_t c179 hF
            refine xy_r (xw_aload_n dM_quoted_70 rfl) ?_
            refine xy_r (xw_dup_r dM_quoted_71) ?_
            refine xy_r (xw_get dM_quoted_72 fM_221 rfl rfl) ?_
            refine xy_r (xw_iload_n dM_quoted_75 rfl) ?_
            refine xy_r (xw_bipush (34) dM_quoted_76 (by decide)) ?_
            refine xy_brn (xw_icmp_ne 85 dM_quoted_78 (by decide)) (fun c180 => ?_) (fun c180 => ?_)
            · replace hF := xg_f c180 hF
              refine xy_r (xw_iconst (1) dM_quoted_85 (by decide)) ?_
              refine xy_r (xw_iadd dM_quoted_86) ?_
              refine xy_r (xg_put dM_quoted_87 fM_221 rfl (by decide) (Nat.le_of_ble_eq_true rfl) (fun _ => rfl) (fun _ => rfl) (mV_o (s' := (s.1, (s.2.1.1, (s.2.1.2.1 + 1), s.2.1.2.2), s.2.2)) rfl)) ?_
              refine xy_r (xw_goto 29 dM_quoted_90 (by decide)) ?_
              refine xy_r (xw_drop (L' := [some (.ref 2000), some (.ref (xn l1)), some (.int l2), none]) ⟨rfl, ⟨rfl, ⟨rfl, trivial⟩⟩⟩) ?_
              exact ih hm hF
            · replace hF := xg_t c180 hF
              refine xy_r (xw_iconst (2) dM_quoted_81 (by decide)) ?_
              refine xy_r (xw_goto 86 dM_quoted_82 (by decide)) ?_
              refine xy_r (xw_iadd dM_quoted_86) ?_
              refine xy_r (xg_put dM_quoted_87 fM_221 rfl (by decide) (Nat.le_of_ble_eq_true rfl) (fun _ => rfl) (fun _ => rfl) (mV_o (s' := (s.1, (s.2.1.1, (s.2.1.2.1 + 2), s.2.1.2.2), s.2.2)) rfl)) ?_
              refine xy_r (xw_goto 29 dM_quoted_90 (by decide)) ?_
              refine xy_r (xw_drop (L' := [some (.ref 2000), some (.ref (xn l1)), some (.int l2), none]) ⟨rfl, ⟨rfl, ⟨rfl, trivial⟩⟩⟩) ?_
              exact ih hm hF
          · replace hF := xg_f c179 hF
            refine xy_r (xw_goto 93 dM_quoted_67 (by decide)) ?_
            refine xy_r (xw_aload_n dM_quoted_93 rfl) ?_
            refine xy_r (xw_aload_n dM_quoted_94 rfl) ?_
            refine xy_r (xw_get dM_quoted_95 fM_221 rfl rfl) ?_
            refine xy_r (xw_aload_n dM_quoted_98 rfl) ?_
            obtain ⟨g181, hF⟩ := xg_g hF
            refine xy_r (xw_get dM_quoted_99 fM_195 (mV_n g181) rfl) ?_
            refine xy_r (xw_isub dM_quoted_102) ?_
            refine xy_r (xg_put dM_quoted_103 fM_198 (mV_n g181) (xn_le _) (Nat.le_of_ble_eq_true rfl) (fun _ => rfl) (fun _ => rfl) (mV_pn (q := (nB (s.2.2.1.2.2.2.2.2.1 l1) (s.2.1.2.1 - (s.2.2.1.2.2.2.2.2.1 l1).1.2.1))) g181)) ?_
            refine xy_r (xw_aload_n dM_quoted_106 rfl) ?_
            refine xy_r (xw_dup_r dM_quoted_107) ?_
            refine xy_r (xw_get dM_quoted_108 fM_221 rfl rfl) ?_
            refine xy_r (xw_iconst (1) dM_quoted_111 (by decide)) ?_
            refine xy_r (xw_iadd dM_quoted_112) ?_
            refine xy_r (xg_put dM_quoted_113 fM_221 rfl (by decide) (Nat.le_of_ble_eq_true rfl) (fun _ => rfl) (fun _ => rfl) (mV_o (s' := (s.1, (s.2.1.1, (s.2.1.2.1 + 1), s.2.1.2.2), (s.2.2.1.1, s.2.2.1.2.1, s.2.2.1.2.2.1, s.2.2.1.2.2.2.1, s.2.2.1.2.2.2.2.1, (va_up s.2.2.1.2.2.2.2.2.1 l1 (nB (s.2.2.1.2.2.2.2.2.1 l1) (s.2.1.2.1 - (s.2.2.1.2.2.2.2.2.1 l1).1.2.1))), s.2.2.1.2.2.2.2.2.2), s.2.2.2)) rfl)) ?_
            refine xy_r (xw_aload_n dM_quoted_116 rfl) ?_
            obtain rfl := Option.some.inj hF
            exact xy_end (xw_areturn dM_quoted_117 rfl (Or.inl ⟨_, rfl⟩) (Nat.le_refl _) (Nat.le_refl _) ⟨rfl, rfl⟩)
      · replace hF := xg_f c175 hF
        refine xy_r (xw_aload_n dM_quoted_46 rfl) ?_
        refine xy_r (xw_iload_n dM_quoted_47 rfl) ?_
        rcases xg_o hF with ⟨r182, er182, hF⟩ | ⟨r182, er182, hF⟩
        · have hm183 : m0 ≤ r182.2.2.2.1.2.2.2.2.2.2.1 ∧ n0 ≤ r182.2.2.2.1.2.2.2.2.2.2.2 := xy_le hm (show s.2.2.1.2.2.2.2.2.2.1 ≤ r182.2.2.2.1.2.2.2.2.2.2.1 ∧ s.2.2.1.2.2.2.2.2.2.2 ≤ r182.2.2.2.1.2.2.2.2.2.2.2 from (CM_bad (w := w) (h := h) hb er182).1)
          refine xy_V0 (sm := s.2.2.1.2.2.2.2.2.2.1) (sn := s.2.2.1.2.2.2.2.2.2.2) (tm := r182.2.2.2.1.2.2.2.2.2.2.1) (tn := r182.2.2.2.1.2.2.2.2.2.2.2) (CM_bad hb er182) rfl rfl hm (fun _ => rfl) (fun _ => rfl) (fun _ => rfl) (fun _ => dM_quoted_48) (fun _ R => kM_239 R) (fun _ => rfl) ⟨(Nat.le_of_ble_eq_true rfl), (Nat.le_of_ble_eq_true rfl)⟩ rfl rfl rfl (fun _ => rfl) (Nat.le_of_ble_eq_true rfl) ?_
          refine xy_r (xw_iload_n dM_quoted_51 rfl) ?_
          refine xy_r (xw_bipush (34) dM_quoted_52 (by decide)) ?_
          refine xy_brn (xw_icmp_ne 70 dM_quoted_54 (by decide)) (fun c185 => ?_) (fun c185 => ?_)
          · replace hF := xg_f c185 hF
            refine xy_r (xw_aload_n dM_quoted_70 rfl) ?_
            refine xy_r (xw_dup_r dM_quoted_71) ?_
            refine xy_r (xw_get dM_quoted_72 fM_221 rfl rfl) ?_
            refine xy_r (xw_iload_n dM_quoted_75 rfl) ?_
            refine xy_r (xw_bipush (34) dM_quoted_76 (by decide)) ?_
            refine xy_brn (xw_icmp_ne 85 dM_quoted_78 (by decide)) (fun c186 => ?_) (fun c186 => ?_)
            · replace hF := xg_f c186 hF
              refine xy_r (xw_iconst (1) dM_quoted_85 (by decide)) ?_
              refine xy_r (xw_iadd dM_quoted_86) ?_
              refine xy_r (xg_put dM_quoted_87 fM_221 rfl (by decide) (Nat.le_of_ble_eq_true rfl) (fun _ => rfl) (fun _ => rfl) (mV_o (s' := (r182.2.1, (r182.2.2.1.1, (r182.2.2.1.2.1 + 1), r182.2.2.1.2.2), r182.2.2.2)) rfl)) ?_
              refine xy_r (xw_goto 29 dM_quoted_90 (by decide)) ?_
              refine xy_r (xw_drop (L' := [some (.ref 2000), some (.ref (xn l1)), some (.int l2), none]) ⟨rfl, ⟨rfl, ⟨rfl, trivial⟩⟩⟩) ?_
              exact ih hm183 hF
            · replace hF := xg_t c186 hF
              refine xy_r (xw_iconst (2) dM_quoted_81 (by decide)) ?_
              refine xy_r (xw_goto 86 dM_quoted_82 (by decide)) ?_
              refine xy_r (xw_iadd dM_quoted_86) ?_
              refine xy_r (xg_put dM_quoted_87 fM_221 rfl (by decide) (Nat.le_of_ble_eq_true rfl) (fun _ => rfl) (fun _ => rfl) (mV_o (s' := (r182.2.1, (r182.2.2.1.1, (r182.2.2.1.2.1 + 2), r182.2.2.1.2.2), r182.2.2.2)) rfl)) ?_
              refine xy_r (xw_goto 29 dM_quoted_90 (by decide)) ?_
              refine xy_r (xw_drop (L' := [some (.ref 2000), some (.ref (xn l1)), some (.int l2), none]) ⟨rfl, ⟨rfl, ⟨rfl, trivial⟩⟩⟩) ?_
              exact ih hm183 hF
          · replace hF := xg_t c185 hF
            refine xy_r (xw_aload_n dM_quoted_57 rfl) ?_
            refine xy_r (xw_iconst (1) dM_quoted_58 (by decide)) ?_
            obtain ⟨r187, er187, hF⟩ := xg_b hF
            refine xy_q (fun hq => xg_V1 (k1 := _) (n1 := _) (CM_look er187) rfl rfl rfl dM_quoted_59 (kM_264 _) ⟨Nat.le_of_ble_eq_true rfl, Nat.le_of_ble_eq_true rfl⟩ rfl rfl rfl rfl (Nat.le_of_ble_eq_true rfl) (Nat.le_refl _) (Nat.le_refl _) (Nat.sub_le_sub_right hq.1 _) (Nat.sub_le_sub_right hq.2 _)) ?_
            refine xy_r (xw_bipush (34) dM_quoted_62 (by decide)) ?_
            refine xy_br (xw_icmp_eq 70 dM_quoted_64 (by decide)) (fun c188 => ?_) (fun c188 => ?_)
            · replace hF := xg_t c188 hF
              refine xy_r (xw_aload_n dM_quoted_70 rfl) ?_
              refine xy_r (xw_dup_r dM_quoted_71) ?_
              refine xy_r (xw_get dM_quoted_72 fM_221 rfl rfl) ?_
              refine xy_r (xw_iload_n dM_quoted_75 rfl) ?_
              refine xy_r (xw_bipush (34) dM_quoted_76 (by decide)) ?_
              refine xy_brn (xw_icmp_ne 85 dM_quoted_78 (by decide)) (fun c189 => ?_) (fun c189 => ?_)
              · replace hF := xg_f c189 hF
                refine xy_r (xw_iconst (1) dM_quoted_85 (by decide)) ?_
                refine xy_r (xw_iadd dM_quoted_86) ?_
                refine xy_r (xg_put dM_quoted_87 fM_221 rfl (by decide) (Nat.le_of_ble_eq_true rfl) (fun _ => rfl) (fun _ => rfl) (mV_o (s' := (r182.2.1, (r182.2.2.1.1, (r182.2.2.1.2.1 + 1), r182.2.2.1.2.2), r182.2.2.2)) rfl)) ?_
                refine xy_r (xw_goto 29 dM_quoted_90 (by decide)) ?_
                refine xy_r (xw_drop (L' := [some (.ref 2000), some (.ref (xn l1)), some (.int l2), none]) ⟨rfl, ⟨rfl, ⟨rfl, trivial⟩⟩⟩) ?_
                exact ih hm183 hF
              · replace hF := xg_t c189 hF
                refine xy_r (xw_iconst (2) dM_quoted_81 (by decide)) ?_
                refine xy_r (xw_goto 86 dM_quoted_82 (by decide)) ?_
                refine xy_r (xw_iadd dM_quoted_86) ?_
                refine xy_r (xg_put dM_quoted_87 fM_221 rfl (by decide) (Nat.le_of_ble_eq_true rfl) (fun _ => rfl) (fun _ => rfl) (mV_o (s' := (r182.2.1, (r182.2.2.1.1, (r182.2.2.1.2.1 + 2), r182.2.2.1.2.2), r182.2.2.2)) rfl)) ?_
                refine xy_r (xw_goto 29 dM_quoted_90 (by decide)) ?_
                refine xy_r (xw_drop (L' := [some (.ref 2000), some (.ref (xn l1)), some (.int l2), none]) ⟨rfl, ⟨rfl, ⟨rfl, trivial⟩⟩⟩) ?_
                exact ih hm183 hF
            · replace hF := xg_f c188 hF
              refine xy_r (xw_goto 93 dM_quoted_67 (by decide)) ?_
              refine xy_r (xw_aload_n dM_quoted_93 rfl) ?_
              refine xy_r (xw_aload_n dM_quoted_94 rfl) ?_
              refine xy_r (xw_get dM_quoted_95 fM_221 rfl rfl) ?_
              refine xy_r (xw_aload_n dM_quoted_98 rfl) ?_
              obtain ⟨g190, hF⟩ := xg_g hF
              refine xy_r (xw_get dM_quoted_99 fM_195 (mV_n g190) rfl) ?_
              refine xy_r (xw_isub dM_quoted_102) ?_
              refine xy_r (xg_put dM_quoted_103 fM_198 (mV_n g190) (xn_le _) (Nat.le_of_ble_eq_true rfl) (fun _ => rfl) (fun _ => rfl) (mV_pn (q := (nB (r182.2.2.2.1.2.2.2.2.2.1 l1) (r182.2.2.1.2.1 - (r182.2.2.2.1.2.2.2.2.2.1 l1).1.2.1))) g190)) ?_
              refine xy_r (xw_aload_n dM_quoted_106 rfl) ?_
              refine xy_r (xw_dup_r dM_quoted_107) ?_
              refine xy_r (xw_get dM_quoted_108 fM_221 rfl rfl) ?_
              refine xy_r (xw_iconst (1) dM_quoted_111 (by decide)) ?_
              refine xy_r (xw_iadd dM_quoted_112) ?_
              refine xy_r (xg_put dM_quoted_113 fM_221 rfl (by decide) (Nat.le_of_ble_eq_true rfl) (fun _ => rfl) (fun _ => rfl) (mV_o (s' := (r182.2.1, (r182.2.2.1.1, (r182.2.2.1.2.1 + 1), r182.2.2.1.2.2), (r182.2.2.2.1.1, r182.2.2.2.1.2.1, r182.2.2.2.1.2.2.1, r182.2.2.2.1.2.2.2.1, r182.2.2.2.1.2.2.2.2.1, (va_up r182.2.2.2.1.2.2.2.2.2.1 l1 (nB (r182.2.2.2.1.2.2.2.2.2.1 l1) (r182.2.2.1.2.1 - (r182.2.2.2.1.2.2.2.2.2.1 l1).1.2.1))), r182.2.2.2.1.2.2.2.2.2.2), r182.2.2.2.2)) rfl)) ?_
              refine xy_r (xw_aload_n dM_quoted_116 rfl) ?_
              obtain rfl := Option.some.inj hF
              exact xy_end (xw_areturn dM_quoted_117 rfl (Or.inl ⟨_, rfl⟩) (Nat.le_refl _) (Nat.le_refl _) ⟨rfl, rfl⟩)
        · subst hF
          exact xy_Vt (sm := s.2.2.1.2.2.2.2.2.2.1) (sn := s.2.2.1.2.2.2.2.2.2.2) (tm := r182.2.2.2.1.2.2.2.2.2.2.1) (tn := r182.2.2.2.1.2.2.2.2.2.2.2) (CM_bad hb er182) rfl rfl hm (fun _ => rfl) (fun _ => rfl) (fun _ => rfl) (fun _ => dM_quoted_48) (fun _ R => kM_239 R) (fun _ => rfl) ⟨(Nat.le_of_ble_eq_true rfl), (Nat.le_of_ble_eq_true rfl)⟩ rfl rfl rfl (fun _ => rfl) (Nat.le_of_ble_eq_true rfl) ⟨rfl, rfl⟩
set_option maxRecDepth 20000 in
theorem CM_quoted {w : xw_G} {h : xw_H} (hb : xMb h)  {s : xMs} {out : (xo Nat xMs)} (hF : FM_quoted  s = some out) : (s.2.2.1.2.2.2.2.2.2.1 ≤ (xo_s out).2.2.1.2.2.2.2.2.2.1 ∧ s.2.2.1.2.2.2.2.2.2.2 ≤ (xo_s out).2.2.1.2.2.2.2.2.2.2) ∧ xw_C w (mM_quoted { frames := 7, cells := (xo_s out).2.2.1.2.2.2.2.2.2.1 - s.2.2.1.2.2.2.2.2.2.1, slots := (xo_s out).2.2.1.2.2.2.2.2.2.2 - s.2.2.1.2.2.2.2.2.2.2, locals := 121 }) (xo_P (fun x => some (.ref (xn x))) (fun s => mV s h) out) [.ref 2000] (mV s h) := by
  unfold FM_quoted at hF
  refine xy_enter (L := [some (.ref 2000), none, none, none]) (fun _ => rfl) (fun _ => rfl) (fun _ => (show plainName "FormulaShaperModel" = true by decide +kernel)) (fun _ => (Nat.le_of_ble_eq_true rfl)) (fun _ => rfl) ?_
  have hm : s.2.2.1.2.2.2.2.2.2.1 ≤ s.2.2.1.2.2.2.2.2.2.1 ∧ s.2.2.1.2.2.2.2.2.2.2 ≤ s.2.2.1.2.2.2.2.2.2.2 := ⟨Nat.le_refl _, Nat.le_refl _⟩
  refine xy_r (xw_aload_n dM_quoted_0 rfl) ?_
  refine xy_r (xw_iconst (1) dM_quoted_1 (by decide)) ?_
  obtain ⟨r160, er160, hF⟩ := xg_b hF
  have hm161 : s.2.2.1.2.2.2.2.2.2.1 ≤ r160.2.2.2.1.2.2.2.2.2.2.1 ∧ s.2.2.1.2.2.2.2.2.2.2 ≤ r160.2.2.2.1.2.2.2.2.2.2.2 := xy_le hm (show s.2.2.1.2.2.2.2.2.2.1 ≤ r160.2.2.2.1.2.2.2.2.2.2.1 ∧ s.2.2.1.2.2.2.2.2.2.2 ≤ r160.2.2.2.1.2.2.2.2.2.2.2 from (CM_node (w := w) (h := h) hb er160).1)
  refine xy_V1 (sm := s.2.2.1.2.2.2.2.2.2.1) (sn := s.2.2.1.2.2.2.2.2.2.2) (tm := r160.2.2.2.1.2.2.2.2.2.2.1) (tn := r160.2.2.2.1.2.2.2.2.2.2.2) (CM_node hb er160) rfl rfl hm (fun _ => rfl) (fun _ => rfl) (fun _ => rfl) (fun _ => dM_quoted_2) (fun _ R => kM_253 R) (fun _ => rfl) ⟨(Nat.le_of_ble_eq_true rfl), (Nat.le_of_ble_eq_true rfl)⟩ rfl rfl rfl (fun _ => rfl) (Nat.le_of_ble_eq_true rfl) ?_
  refine xy_r (xw_astore_n dM_quoted_5 (Nat.le_of_ble_eq_true rfl)) ?_
  refine xy_r (xw_Ln (L' := [some (.ref 2000), some (.ref (xn r160.1)), none, none]) rfl) ?_
  refine xy_r (xw_aload_n dM_quoted_6 rfl) ?_
  refine xy_r (xw_get dM_quoted_7 fM_221 rfl rfl) ?_
  refine xy_r (xw_istore_n dM_quoted_10 (Nat.le_of_ble_eq_true rfl)) ?_
  refine xy_r (xw_Ln (L' := [some (.ref 2000), some (.ref (xn r160.1)), some (.int r160.2.2.1.2.1), none]) rfl) ?_
  refine xy_r (xw_aload_n dM_quoted_11 rfl) ?_
  refine xy_r (xw_dup_r dM_quoted_12) ?_
  refine xy_r (xw_get dM_quoted_13 fM_221 rfl rfl) ?_
  refine xy_r (xw_iconst (1) dM_quoted_16 (by decide)) ?_
  refine xy_r (xw_iadd dM_quoted_17) ?_
  refine xy_r (xg_put dM_quoted_18 fM_221 rfl (by decide) (Nat.le_of_ble_eq_true rfl) (fun _ => rfl) (fun _ => rfl) (mV_o (s' := (r160.2.1, (r160.2.2.1.1, (r160.2.2.1.2.1 + 1), r160.2.2.1.2.2), r160.2.2.2)) rfl)) ?_
  refine xy_r (xw_aload_n dM_quoted_21 rfl) ?_
  refine xy_r (xw_aload_n dM_quoted_22 rfl) ?_
  refine xy_r (xw_get dM_quoted_23 fM_221 rfl rfl) ?_
  obtain ⟨g163, hF⟩ := xg_g hF
  refine xy_r (xg_put dM_quoted_26 fM_195 (mV_n g163) (xn_le _) (Nat.le_of_ble_eq_true rfl) (fun _ => rfl) (fun _ => rfl) (mV_pn (q := (nA (r160.2.2.2.1.2.2.2.2.2.1 r160.1) (r160.2.2.1.2.1 + 1))) g163)) ?_
  exact CM_quoted_29 hb xFuel hm161 hF
def FM_constant_53 (t0 : Int32) (s : xMs) : Option (xo (Option Nat) xMs) := if t0 ≤ 0 then ((FM_wordLength s).bind fun r196 => (FM_says r196 75 s).bind fun r197 => if r197 = true then ((FM_node 2 s).bind fun r199 => if r196 = 4 then (if r199.1 < r199.2.2.2.1.2.2.2.2.1 then (some (.inl ((some r199.1), (r199.2.1, (r199.2.2.1.1, (r199.2.2.1.2.1 + r196), r199.2.2.1.2.2), (r199.2.2.2.1.1, r199.2.2.2.1.2.1, r199.2.2.2.1.2.2.1, r199.2.2.2.1.2.2.2.1, r199.2.2.2.1.2.2.2.2.1, (va_up r199.2.2.2.1.2.2.2.2.2.1 r199.1 (nA (r199.2.2.2.1.2.2.2.2.2.1 r199.1) 1)), r199.2.2.2.1.2.2.2.2.2.2), r199.2.2.2.2)))) else none) else (if r199.1 < r199.2.2.2.1.2.2.2.2.1 then (some (.inl ((some r199.1), (r199.2.1, (r199.2.2.1.1, (r199.2.2.1.2.1 + r196), r199.2.2.1.2.2), (r199.2.2.2.1.1, r199.2.2.2.1.2.1, r199.2.2.2.1.2.2.1, r199.2.2.2.1.2.2.2.1, r199.2.2.2.1.2.2.2.2.1, (va_up r199.2.2.2.1.2.2.2.2.2.1 r199.1 (nA (r199.2.2.2.1.2.2.2.2.2.1 r199.1) 0)), r199.2.2.2.1.2.2.2.2.2.2), r199.2.2.2.2)))) else none)) else ((FM_says r196 76 s).bind fun r205 => if r205 = true then ((FM_node 2 s).bind fun r207 => if r196 = 4 then (if r207.1 < r207.2.2.2.1.2.2.2.2.1 then (some (.inl ((some r207.1), (r207.2.1, (r207.2.2.1.1, (r207.2.2.1.2.1 + r196), r207.2.2.1.2.2), (r207.2.2.2.1.1, r207.2.2.2.1.2.1, r207.2.2.2.1.2.2.1, r207.2.2.2.1.2.2.2.1, r207.2.2.2.1.2.2.2.2.1, (va_up r207.2.2.2.1.2.2.2.2.2.1 r207.1 (nA (r207.2.2.2.1.2.2.2.2.2.1 r207.1) 1)), r207.2.2.2.1.2.2.2.2.2.2), r207.2.2.2.2)))) else none) else (if r207.1 < r207.2.2.2.1.2.2.2.2.1 then (some (.inl ((some r207.1), (r207.2.1, (r207.2.2.1.1, (r207.2.2.1.2.1 + r196), r207.2.2.1.2.2), (r207.2.2.2.1.1, r207.2.2.2.1.2.1, r207.2.2.2.1.2.2.1, r207.2.2.2.1.2.2.2.1, r207.2.2.2.1.2.2.2.2.1, (va_up r207.2.2.2.1.2.2.2.2.2.1 r207.1 (nA (r207.2.2.2.1.2.2.2.2.2.1 r207.1) 0)), r207.2.2.2.1.2.2.2.2.2.2), r207.2.2.2.2)))) else none)) else (some (.inl (none, s))))) else (if 0 ≤ (t0 - 1) ∧ (t0 - 1) < nI 8 then ((xk_err[((t0 - 1)).toNatClampNeg]?).bind fun k214 => if k214 < xk_N then ((FM_node 3 (s.1, (s.2.1.1, (s.2.1.2.1 + (nI (xk_by k214).length)), s.2.1.2.2), s.2.2)).bind fun r216 => if r216.1 < r216.2.2.2.1.2.2.2.2.1 then (some (.inl ((some r216.1), (r216.2.1, r216.2.2.1, (r216.2.2.2.1.1, r216.2.2.2.1.2.1, r216.2.2.2.1.2.2.1, r216.2.2.2.1.2.2.2.1, r216.2.2.2.1.2.2.2.2.1, (va_up r216.2.2.2.1.2.2.2.2.2.1 r216.1 (nA (r216.2.2.2.1.2.2.2.2.2.1 r216.1) t0)), r216.2.2.2.1.2.2.2.2.2.2), r216.2.2.2.2)))) else none) else none) else none)
/-- FormulaShaperModel.constant -/
def FM_constant  (s : xMs) : Option (xo (Option Nat) xMs) := (FM_peek s).bind fun r191 => if (sM_digit r191) = 0 then (if r191 = 34 then (xo_b (FM_quoted s) fun r221 => some (.inl ((some r221.1), r221.2))) else (if r191 = 35 then ((FM_errorHere s).bind fun r220 => FM_constant_53 r220 s) else (FM_constant_53 0 s))) else ((FM_node 0 s).bind fun r224 => xo_b (FM_digits r224.2) fun r227 => if r224.1 < r227.2.2.2.1.2.2.2.2.1 then (some (.inl ((some r224.1), (r227.2.1, r227.2.2.1, (r227.2.2.2.1.1, r227.2.2.2.1.2.1, r227.2.2.2.1.2.2.1, r227.2.2.2.1.2.2.2.1, r227.2.2.2.1.2.2.2.2.1, (va_up r227.2.2.2.1.2.2.2.2.2.1 r224.1 (nNumber (r227.2.2.2.1.2.2.2.2.2.1 r224.1) r227.1)), r227.2.2.2.1.2.2.2.2.2.2), r227.2.2.2.2)))) else none)
set_option maxRecDepth 20000 in
theorem CM_constant_53 {w : xw_G} {h : xw_H} (hb : xMb h)  {t0 : Int32} {s : xMs} {out : (xo (Option Nat) xMs)} {h0 : xw_H} {m0 n0 : Nat} (hm : m0 ≤ s.2.2.1.2.2.2.2.2.2.1 ∧ n0 ≤ s.2.2.1.2.2.2.2.2.2.2) (hF : FM_constant_53 t0 s = some out) : xw_Y w mM_constant 8 147 (xo_P (fun x => some (xw_rf x)) (fun s => mV s h) out) h0 m0 n0 s.2.2.1.2.2.2.2.2.2.1 s.2.2.1.2.2.2.2.2.2.2 (xo_s out).2.2.1.2.2.2.2.2.2.1 (xo_s out).2.2.1.2.2.2.2.2.2.2 53 [some (.ref 2000), none, none, none, none] [.int t0] (mV s h) := by
  unfold FM_constant_53 at hF
  refine xy_r (xw_istore_n dM_constant_53 (Nat.le_of_ble_eq_true rfl)) ?_
  refine xy_r (xw_Ln (L' := [some (.ref 2000), none, some (.int t0), none, none]) rfl) ?_
  refine xy_r (xw_iload_n dM_constant_54 rfl) ?_
  refine xy_br (xw_if_le 91 dM_constant_55 (by decide)) (fun c195 => ?_) (fun c195 => ?_)
  · replace hF := xg_t c195 hF
    refine xy_r (xw_aload_n dM_constant_91 rfl) ?_
    obtain ⟨r196, er196, hF⟩ := xg_b hF
    refine xy_q (fun hq => xg_V1 (k1 := _) (n1 := _) (CM_wordLength er196) rfl rfl rfl dM_constant_92 (kM_317 _) ⟨Nat.le_of_ble_eq_true rfl, Nat.le_of_ble_eq_true rfl⟩ rfl rfl rfl rfl (Nat.le_of_ble_eq_true rfl) (Nat.le_refl _) (Nat.le_refl _) (Nat.sub_le_sub_right hq.1 _) (Nat.sub_le_sub_right hq.2 _)) ?_
    refine xy_r (xw_istore_n dM_constant_95 (Nat.le_of_ble_eq_true rfl)) ?_
    refine xy_r (xw_Ln (L' := [some (.ref 2000), none, some (.int t0), some (.int r196), none]) rfl) ?_
    refine xy_r (xw_aload_n dM_constant_96 rfl) ?_
    refine xy_r (xw_iload_n dM_constant_97 rfl) ?_
    refine xy_r (xw_ldcSw 75 dM_constant_98 (List.mem_of_getElem? (i := 75) rfl) (by decide)) ?_
    obtain ⟨r197, er197, hF⟩ := xg_b hF
    refine xy_q (fun hq => xg_V1 (k1 := _) (n1 := _) (CM_says er197) rfl rfl rfl dM_constant_101 (kM_326 _) ⟨Nat.le_of_ble_eq_true rfl, Nat.le_of_ble_eq_true rfl⟩ rfl rfl rfl rfl (Nat.le_of_ble_eq_true rfl) (Nat.le_refl _) (Nat.le_refl _) (Nat.sub_le_sub_right hq.1 _) (Nat.sub_le_sub_right hq.2 _)) ?_
    refine xy_br (xw_if_neB 120 dM_constant_104 (by decide)) (fun c198 => ?_) (fun c198 => ?_)
    · replace hF := xg_t c198 hF
      refine xy_r (xw_aload_n dM_constant_120 rfl) ?_
      refine xy_r (xw_iconst (2) dM_constant_121 (by decide)) ?_
      obtain ⟨r199, er199, hF⟩ := xg_b hF
      have hm200 : m0 ≤ r199.2.2.2.1.2.2.2.2.2.2.1 ∧ n0 ≤ r199.2.2.2.1.2.2.2.2.2.2.2 := xy_le hm (show s.2.2.1.2.2.2.2.2.2.1 ≤ r199.2.2.2.1.2.2.2.2.2.2.1 ∧ s.2.2.1.2.2.2.2.2.2.2 ≤ r199.2.2.2.1.2.2.2.2.2.2.2 from (CM_node (w := w) (h := h) hb er199).1)
      refine xy_V1 (sm := s.2.2.1.2.2.2.2.2.2.1) (sn := s.2.2.1.2.2.2.2.2.2.2) (tm := r199.2.2.2.1.2.2.2.2.2.2.1) (tn := r199.2.2.2.1.2.2.2.2.2.2.2) (CM_node hb er199) rfl rfl hm (fun _ => rfl) (fun _ => rfl) (fun _ => rfl) (fun _ => dM_constant_122) (fun _ R => kM_253 R) (fun _ => rfl) ⟨(Nat.le_of_ble_eq_true rfl), (Nat.le_of_ble_eq_true rfl)⟩ rfl rfl rfl (fun _ => rfl) (Nat.le_of_ble_eq_true rfl) ?_
      refine xy_r (xw_astore dM_constant_125 (Nat.le_of_ble_eq_true rfl)) ?_
      refine xy_r (xw_Ln (L' := [some (.ref 2000), none, some (.int t0), some (.int r196), some (.ref (xn r199.1))]) rfl) ?_
      refine xy_r (xw_aload dM_constant_127 rfl) ?_
      refine xy_r (xw_iload_n dM_constant_129 rfl) ?_
      refine xy_r (xw_iconst (4) dM_constant_130 (by decide)) ?_
      refine xy_brn (xw_icmp_ne 138 dM_constant_131 (by decide)) (fun c202 => ?_) (fun c202 => ?_)
      · replace hF := xg_f c202 hF
        refine xy_r (xw_iconst (0) dM_constant_138 (by decide)) ?_
        obtain ⟨g203, hF⟩ := xg_g hF
        refine xy_r (xg_put dM_constant_139 fM_195 (mV_n g203) (xn_le _) (Nat.le_of_ble_eq_true rfl) (fun _ => rfl) (fun _ => rfl) (mV_pn (q := (nA (r199.2.2.2.1.2.2.2.2.2.1 r199.1) 0)) g203)) ?_
        refine xy_r (xw_aload_n dM_constant_142 rfl) ?_
        refine xy_r (xw_dup_r dM_constant_143) ?_
        refine xy_r (xw_get dM_constant_144 fM_221 rfl rfl) ?_
        refine xy_r (xw_iload_n dM_constant_147 rfl) ?_
        refine xy_r (xw_iadd dM_constant_148) ?_
        refine xy_r (xg_put dM_constant_149 fM_221 rfl (by decide) (Nat.le_of_ble_eq_true rfl) (fun _ => rfl) (fun _ => rfl) (mV_o (s' := (r199.2.1, (r199.2.2.1.1, (r199.2.2.1.2.1 + r196), r199.2.2.1.2.2), (r199.2.2.2.1.1, r199.2.2.2.1.2.1, r199.2.2.2.1.2.2.1, r199.2.2.2.1.2.2.2.1, r199.2.2.2.1.2.2.2.2.1, (va_up r199.2.2.2.1.2.2.2.2.2.1 r199.1 (nA (r199.2.2.2.1.2.2.2.2.2.1 r199.1) 0)), r199.2.2.2.1.2.2.2.2.2.2), r199.2.2.2.2)) rfl)) ?_
        refine xy_r (xw_aload dM_constant_152 rfl) ?_
        obtain rfl := Option.some.inj hF
        exact xy_end (xw_areturn dM_constant_154 rfl (Or.inl ⟨_, rfl⟩) (Nat.le_refl _) (Nat.le_refl _) ⟨rfl, rfl⟩)
      · replace hF := xg_t c202 hF
        refine xy_r (xw_iconst (1) dM_constant_134 (by decide)) ?_
        refine xy_r (xw_goto 139 dM_constant_135 (by decide)) ?_
        obtain ⟨g204, hF⟩ := xg_g hF
        refine xy_r (xg_put dM_constant_139 fM_195 (mV_n g204) (xn_le _) (Nat.le_of_ble_eq_true rfl) (fun _ => rfl) (fun _ => rfl) (mV_pn (q := (nA (r199.2.2.2.1.2.2.2.2.2.1 r199.1) 1)) g204)) ?_
        refine xy_r (xw_aload_n dM_constant_142 rfl) ?_
        refine xy_r (xw_dup_r dM_constant_143) ?_
        refine xy_r (xw_get dM_constant_144 fM_221 rfl rfl) ?_
        refine xy_r (xw_iload_n dM_constant_147 rfl) ?_
        refine xy_r (xw_iadd dM_constant_148) ?_
        refine xy_r (xg_put dM_constant_149 fM_221 rfl (by decide) (Nat.le_of_ble_eq_true rfl) (fun _ => rfl) (fun _ => rfl) (mV_o (s' := (r199.2.1, (r199.2.2.1.1, (r199.2.2.1.2.1 + r196), r199.2.2.1.2.2), (r199.2.2.2.1.1, r199.2.2.2.1.2.1, r199.2.2.2.1.2.2.1, r199.2.2.2.1.2.2.2.1, r199.2.2.2.1.2.2.2.2.1, (va_up r199.2.2.2.1.2.2.2.2.2.1 r199.1 (nA (r199.2.2.2.1.2.2.2.2.2.1 r199.1) 1)), r199.2.2.2.1.2.2.2.2.2.2), r199.2.2.2.2)) rfl)) ?_
        refine xy_r (xw_aload dM_constant_152 rfl) ?_
        obtain rfl := Option.some.inj hF
        exact xy_end (xw_areturn dM_constant_154 rfl (Or.inl ⟨_, rfl⟩) (Nat.le_refl _) (Nat.le_refl _) ⟨rfl, rfl⟩)
    · replace hF := xg_f c198 hF
      refine xy_r (xw_aload_n dM_constant_107 rfl) ?_
      refine xy_r (xw_iload_n dM_constant_108 rfl) ?_
      refine xy_r (xw_ldcSw 76 dM_constant_109 (List.mem_of_getElem? (i := 76) rfl) (by decide)) ?_
      obtain ⟨r205, er205, hF⟩ := xg_b hF
      refine xy_q (fun hq => xg_V1 (k1 := _) (n1 := _) (CM_says er205) rfl rfl rfl dM_constant_112 (kM_326 _) ⟨Nat.le_of_ble_eq_true rfl, Nat.le_of_ble_eq_true rfl⟩ rfl rfl rfl rfl (Nat.le_of_ble_eq_true rfl) (Nat.le_refl _) (Nat.le_refl _) (Nat.sub_le_sub_right hq.1 _) (Nat.sub_le_sub_right hq.2 _)) ?_
      refine xy_br (xw_if_neB 120 dM_constant_115 (by decide)) (fun c206 => ?_) (fun c206 => ?_)
      · replace hF := xg_t c206 hF
        refine xy_r (xw_aload_n dM_constant_120 rfl) ?_
        refine xy_r (xw_iconst (2) dM_constant_121 (by decide)) ?_
        obtain ⟨r207, er207, hF⟩ := xg_b hF
        have hm208 : m0 ≤ r207.2.2.2.1.2.2.2.2.2.2.1 ∧ n0 ≤ r207.2.2.2.1.2.2.2.2.2.2.2 := xy_le hm (show s.2.2.1.2.2.2.2.2.2.1 ≤ r207.2.2.2.1.2.2.2.2.2.2.1 ∧ s.2.2.1.2.2.2.2.2.2.2 ≤ r207.2.2.2.1.2.2.2.2.2.2.2 from (CM_node (w := w) (h := h) hb er207).1)
        refine xy_V1 (sm := s.2.2.1.2.2.2.2.2.2.1) (sn := s.2.2.1.2.2.2.2.2.2.2) (tm := r207.2.2.2.1.2.2.2.2.2.2.1) (tn := r207.2.2.2.1.2.2.2.2.2.2.2) (CM_node hb er207) rfl rfl hm (fun _ => rfl) (fun _ => rfl) (fun _ => rfl) (fun _ => dM_constant_122) (fun _ R => kM_253 R) (fun _ => rfl) ⟨(Nat.le_of_ble_eq_true rfl), (Nat.le_of_ble_eq_true rfl)⟩ rfl rfl rfl (fun _ => rfl) (Nat.le_of_ble_eq_true rfl) ?_
        refine xy_r (xw_astore dM_constant_125 (Nat.le_of_ble_eq_true rfl)) ?_
        refine xy_r (xw_Ln (L' := [some (.ref 2000), none, some (.int t0), some (.int r196), some (.ref (xn r207.1))]) rfl) ?_
        refine xy_r (xw_aload dM_constant_127 rfl) ?_
        refine xy_r (xw_iload_n dM_constant_129 rfl) ?_
        refine xy_r (xw_iconst (4) dM_constant_130 (by decide)) ?_
        refine xy_brn (xw_icmp_ne 138 dM_constant_131 (by decide)) (fun c210 => ?_) (fun c210 => ?_)
        · replace hF := xg_f c210 hF
          refine xy_r (xw_iconst (0) dM_constant_138 (by decide)) ?_
          obtain ⟨g211, hF⟩ := xg_g hF
          refine xy_r (xg_put dM_constant_139 fM_195 (mV_n g211) (xn_le _) (Nat.le_of_ble_eq_true rfl) (fun _ => rfl) (fun _ => rfl) (mV_pn (q := (nA (r207.2.2.2.1.2.2.2.2.2.1 r207.1) 0)) g211)) ?_
          refine xy_r (xw_aload_n dM_constant_142 rfl) ?_
          refine xy_r (xw_dup_r dM_constant_143) ?_
          refine xy_r (xw_get dM_constant_144 fM_221 rfl rfl) ?_
          refine xy_r (xw_iload_n dM_constant_147 rfl) ?_
          refine xy_r (xw_iadd dM_constant_148) ?_
          refine xy_r (xg_put dM_constant_149 fM_221 rfl (by decide) (Nat.le_of_ble_eq_true rfl) (fun _ => rfl) (fun _ => rfl) (mV_o (s' := (r207.2.1, (r207.2.2.1.1, (r207.2.2.1.2.1 + r196), r207.2.2.1.2.2), (r207.2.2.2.1.1, r207.2.2.2.1.2.1, r207.2.2.2.1.2.2.1, r207.2.2.2.1.2.2.2.1, r207.2.2.2.1.2.2.2.2.1, (va_up r207.2.2.2.1.2.2.2.2.2.1 r207.1 (nA (r207.2.2.2.1.2.2.2.2.2.1 r207.1) 0)), r207.2.2.2.1.2.2.2.2.2.2), r207.2.2.2.2)) rfl)) ?_
          refine xy_r (xw_aload dM_constant_152 rfl) ?_
          obtain rfl := Option.some.inj hF
          exact xy_end (xw_areturn dM_constant_154 rfl (Or.inl ⟨_, rfl⟩) (Nat.le_refl _) (Nat.le_refl _) ⟨rfl, rfl⟩)
        · replace hF := xg_t c210 hF
          refine xy_r (xw_iconst (1) dM_constant_134 (by decide)) ?_
          refine xy_r (xw_goto 139 dM_constant_135 (by decide)) ?_
          obtain ⟨g212, hF⟩ := xg_g hF
          refine xy_r (xg_put dM_constant_139 fM_195 (mV_n g212) (xn_le _) (Nat.le_of_ble_eq_true rfl) (fun _ => rfl) (fun _ => rfl) (mV_pn (q := (nA (r207.2.2.2.1.2.2.2.2.2.1 r207.1) 1)) g212)) ?_
          refine xy_r (xw_aload_n dM_constant_142 rfl) ?_
          refine xy_r (xw_dup_r dM_constant_143) ?_
          refine xy_r (xw_get dM_constant_144 fM_221 rfl rfl) ?_
          refine xy_r (xw_iload_n dM_constant_147 rfl) ?_
          refine xy_r (xw_iadd dM_constant_148) ?_
          refine xy_r (xg_put dM_constant_149 fM_221 rfl (by decide) (Nat.le_of_ble_eq_true rfl) (fun _ => rfl) (fun _ => rfl) (mV_o (s' := (r207.2.1, (r207.2.2.1.1, (r207.2.2.1.2.1 + r196), r207.2.2.1.2.2), (r207.2.2.2.1.1, r207.2.2.2.1.2.1, r207.2.2.2.1.2.2.1, r207.2.2.2.1.2.2.2.1, r207.2.2.2.1.2.2.2.2.1, (va_up r207.2.2.2.1.2.2.2.2.2.1 r207.1 (nA (r207.2.2.2.1.2.2.2.2.2.1 r207.1) 1)), r207.2.2.2.1.2.2.2.2.2.2), r207.2.2.2.2)) rfl)) ?_
          refine xy_r (xw_aload dM_constant_152 rfl) ?_
          obtain rfl := Option.some.inj hF
          exact xy_end (xw_areturn dM_constant_154 rfl (Or.inl ⟨_, rfl⟩) (Nat.le_refl _) (Nat.le_refl _) ⟨rfl, rfl⟩)
      · replace hF := xg_f c206 hF
        refine xy_r (xw_null dM_constant_118) ?_
        obtain rfl := Option.some.inj hF
        exact xy_end (xw_areturnN dM_constant_119 rfl (Or.inl ⟨_, rfl⟩) (Nat.le_refl _) (Nat.le_refl _) ⟨rfl, rfl⟩)
  · replace hF := xg_f c195 hF
    refine xy_r (xw_aload_n dM_constant_58 rfl) ?_
    refine xy_r (xw_dup_r dM_constant_59) ?_
    refine xy_r (xw_get dM_constant_60 fM_221 rfl rfl) ?_
    refine xy_r (xw_aload_n dM_constant_63 rfl) ?_
    refine xy_r (xw_get dM_constant_64 fM_47 rfl rfl) ?_
    refine xy_r (xw_iload_n dM_constant_67 rfl) ?_
    refine xy_r (xw_iconst (1) dM_constant_68 (by decide)) ?_
    refine xy_r (xw_isub dM_constant_69) ?_
    obtain ⟨g213, hF⟩ := xg_g hF
    obtain ⟨k214, ek214, hF⟩ := xg_b hF
    refine xy_r (xg_saload g213 (by decide) ek214 dM_constant_70 rfl) ?_
    obtain ⟨g215, hF⟩ := xg_g hF
    refine xy_q (fun hq => xg_K1 (k1 := _) (n1 := _) (cQ_length w g215) rfl rfl rfl dM_constant_71 (kM_171 _) ⟨Nat.le_of_ble_eq_true rfl, Nat.le_of_ble_eq_true rfl⟩ rfl rfl (xk_mO g215) (xk_lt9 g215) (Nat.le_of_ble_eq_true rfl) (Nat.le_refl _) (Nat.le_refl _) (Nat.sub_le_sub_right hq.1 _) (Nat.sub_le_sub_right hq.2 _)) ?_
    refine xy_r (xw_iadd dM_constant_74) ?_
    refine xy_r (xg_put dM_constant_75 fM_221 rfl (by decide) (Nat.le_of_ble_eq_true rfl) (fun _ => rfl) (fun _ => rfl) (mV_o (s' := (s.1, (s.2.1.1, (s.2.1.2.1 + (nI (xk_by k214).length)), s.2.1.2.2), s.2.2)) rfl)) ?_
    refine xy_r (xw_aload_n dM_constant_78 rfl) ?_
    refine xy_r (xw_iconst (3) dM_constant_79 (by decide)) ?_
    obtain ⟨r216, er216, hF⟩ := xg_b hF
    have hm217 : m0 ≤ r216.2.2.2.1.2.2.2.2.2.2.1 ∧ n0 ≤ r216.2.2.2.1.2.2.2.2.2.2.2 := xy_le hm (show s.2.2.1.2.2.2.2.2.2.1 ≤ r216.2.2.2.1.2.2.2.2.2.2.1 ∧ s.2.2.1.2.2.2.2.2.2.2 ≤ r216.2.2.2.1.2.2.2.2.2.2.2 from (CM_node (w := w) (h := h) hb er216).1)
    refine xy_V1 (sm := s.2.2.1.2.2.2.2.2.2.1) (sn := s.2.2.1.2.2.2.2.2.2.2) (tm := r216.2.2.2.1.2.2.2.2.2.2.1) (tn := r216.2.2.2.1.2.2.2.2.2.2.2) (CM_node hb er216) rfl rfl hm (fun _ => rfl) (fun _ => rfl) (fun _ => rfl) (fun _ => dM_constant_80) (fun _ R => kM_253 R) (fun _ => rfl) ⟨(Nat.le_of_ble_eq_true rfl), (Nat.le_of_ble_eq_true rfl)⟩ rfl rfl rfl (fun _ => rfl) (Nat.le_of_ble_eq_true rfl) ?_
    refine xy_r (xw_astore_n dM_constant_83 (Nat.le_of_ble_eq_true rfl)) ?_
    refine xy_r (xw_Ln (L' := [some (.ref 2000), none, some (.int t0), some (.ref (xn r216.1)), none]) rfl) ?_
    refine xy_r (xw_aload_n dM_constant_84 rfl) ?_
    refine xy_r (xw_iload_n dM_constant_85 rfl) ?_
    obtain ⟨g219, hF⟩ := xg_g hF
    refine xy_r (xg_put dM_constant_86 fM_195 (mV_n g219) (xn_le _) (Nat.le_of_ble_eq_true rfl) (fun _ => rfl) (fun _ => rfl) (mV_pn (q := (nA (r216.2.2.2.1.2.2.2.2.2.1 r216.1) t0)) g219)) ?_
    refine xy_r (xw_aload_n dM_constant_89 rfl) ?_
    obtain rfl := Option.some.inj hF
    exact xy_end (xw_areturn dM_constant_90 rfl (Or.inl ⟨_, rfl⟩) (Nat.le_refl _) (Nat.le_refl _) ⟨rfl, rfl⟩)
set_option maxRecDepth 20000 in
theorem CM_constant {w : xw_G} {h : xw_H} (hb : xMb h)  {s : xMs} {out : (xo (Option Nat) xMs)} (hF : FM_constant  s = some out) : (s.2.2.1.2.2.2.2.2.2.1 ≤ (xo_s out).2.2.1.2.2.2.2.2.2.1 ∧ s.2.2.1.2.2.2.2.2.2.2 ≤ (xo_s out).2.2.1.2.2.2.2.2.2.2) ∧ xw_C w (mM_constant { frames := 8, cells := (xo_s out).2.2.1.2.2.2.2.2.2.1 - s.2.2.1.2.2.2.2.2.2.1, slots := (xo_s out).2.2.1.2.2.2.2.2.2.2 - s.2.2.1.2.2.2.2.2.2.2, locals := 147 }) (xo_P (fun x => some (xw_rf x)) (fun s => mV s h) out) [.ref 2000] (mV s h) := by
  unfold FM_constant at hF
  refine xy_enter (L := [some (.ref 2000), none, none, none, none]) (fun _ => rfl) (fun _ => rfl) (fun _ => (show plainName "FormulaShaperModel" = true by decide +kernel)) (fun _ => (Nat.le_of_ble_eq_true rfl)) (fun _ => rfl) ?_
  have hm : s.2.2.1.2.2.2.2.2.2.1 ≤ s.2.2.1.2.2.2.2.2.2.1 ∧ s.2.2.1.2.2.2.2.2.2.2 ≤ s.2.2.1.2.2.2.2.2.2.2 := ⟨Nat.le_refl _, Nat.le_refl _⟩
  refine xy_r (xw_aload_n dM_constant_0 rfl) ?_
  obtain ⟨r191, er191, hF⟩ := xg_b hF
  refine xy_q (fun hq => xg_V1 (k1 := _) (n1 := _) (CM_peek er191) rfl rfl rfl dM_constant_1 (kM_230 _) ⟨Nat.le_of_ble_eq_true rfl, Nat.le_of_ble_eq_true rfl⟩ rfl rfl rfl rfl (Nat.le_of_ble_eq_true rfl) (Nat.le_refl _) (Nat.le_refl _) (Nat.sub_le_sub_right hq.1 _) (Nat.sub_le_sub_right hq.2 _)) ?_
  refine xy_r (xw_istore_n dM_constant_4 (Nat.le_of_ble_eq_true rfl)) ?_
  refine xy_r (xw_Ln (L' := [some (.ref 2000), some (.int r191), none, none, none]) rfl) ?_
  refine xy_r (xw_iload_n dM_constant_5 rfl) ?_
  refine xy_q (fun hq => xg_S1 (k1 := _) (n1 := _) (cM_digit w) rfl rfl rfl dM_constant_6 (kM_295 _) ⟨Nat.le_of_ble_eq_true rfl, Nat.le_of_ble_eq_true rfl⟩ rfl rfl (Nat.le_of_ble_eq_true rfl) (Nat.le_refl _) (Nat.le_refl _) (Nat.sub_le_sub_right hq.1 _) (Nat.sub_le_sub_right hq.2 _)) ?_
  refine xy_br (xw_if_eq 28 dM_constant_9 (by decide)) (fun c192 => ?_) (fun c192 => ?_)
  · replace hF := xg_t c192 hF
    refine xy_r (xw_iload_n dM_constant_28 rfl) ?_
    refine xy_r (xw_bipush (34) dM_constant_29 (by decide)) ?_
    refine xy_brn (xw_icmp_ne 39 dM_constant_31 (by decide)) (fun c193 => ?_) (fun c193 => ?_)
    · replace hF := xg_f c193 hF
      refine xy_r (xw_iload_n dM_constant_39 rfl) ?_
      refine xy_r (xw_bipush (35) dM_constant_40 (by decide)) ?_
      refine xy_brn (xw_icmp_ne 52 dM_constant_42 (by decide)) (fun c194 => ?_) (fun c194 => ?_)
      · replace hF := xg_f c194 hF
        refine xy_r (xw_iconst (0) dM_constant_52 (by decide)) ?_
        refine xy_r (xw_drop (L' := [some (.ref 2000), none, none, none, none]) ⟨rfl, trivial⟩) ?_
        exact CM_constant_53 hb hm hF
      · replace hF := xg_t c194 hF
        refine xy_r (xw_aload_n dM_constant_45 rfl) ?_
        obtain ⟨r220, er220, hF⟩ := xg_b hF
        refine xy_q (fun hq => xg_V1 (k1 := _) (n1 := _) (CM_errorHere er220) rfl rfl rfl dM_constant_46 (kM_353 _) ⟨Nat.le_of_ble_eq_true rfl, Nat.le_of_ble_eq_true rfl⟩ rfl rfl rfl rfl (Nat.le_of_ble_eq_true rfl) (Nat.le_refl _) (Nat.le_refl _) (Nat.sub_le_sub_right hq.1 _) (Nat.sub_le_sub_right hq.2 _)) ?_
        refine xy_r (xw_goto 53 dM_constant_49 (by decide)) ?_
        refine xy_r (xw_drop (L' := [some (.ref 2000), none, none, none, none]) ⟨rfl, trivial⟩) ?_
        exact CM_constant_53 hb hm hF
    · replace hF := xg_t c193 hF
      refine xy_r (xw_aload_n dM_constant_34 rfl) ?_
      rcases xg_o hF with ⟨r221, er221, hF⟩ | ⟨r221, er221, hF⟩
      · have hm222 : s.2.2.1.2.2.2.2.2.2.1 ≤ r221.2.2.2.1.2.2.2.2.2.2.1 ∧ s.2.2.1.2.2.2.2.2.2.2 ≤ r221.2.2.2.1.2.2.2.2.2.2.2 := xy_le hm (show s.2.2.1.2.2.2.2.2.2.1 ≤ r221.2.2.2.1.2.2.2.2.2.2.1 ∧ s.2.2.1.2.2.2.2.2.2.2 ≤ r221.2.2.2.1.2.2.2.2.2.2.2 from (CM_quoted (w := w) (h := h) hb er221).1)
        refine xy_V1 (sm := s.2.2.1.2.2.2.2.2.2.1) (sn := s.2.2.1.2.2.2.2.2.2.2) (tm := r221.2.2.2.1.2.2.2.2.2.2.1) (tn := r221.2.2.2.1.2.2.2.2.2.2.2) (CM_quoted hb er221) rfl rfl hm (fun _ => rfl) (fun _ => rfl) (fun _ => rfl) (fun _ => dM_constant_35) (fun _ R => kM_350 R) (fun _ => rfl) ⟨(Nat.le_of_ble_eq_true rfl), (Nat.le_of_ble_eq_true rfl)⟩ rfl rfl rfl (fun _ => rfl) (Nat.le_of_ble_eq_true rfl) ?_
        obtain rfl := Option.some.inj hF
        exact xy_end (xw_areturn dM_constant_38 rfl (Or.inl ⟨_, rfl⟩) (Nat.le_refl _) (Nat.le_refl _) ⟨rfl, rfl⟩)
      · subst hF
        exact xy_Vt (sm := s.2.2.1.2.2.2.2.2.2.1) (sn := s.2.2.1.2.2.2.2.2.2.2) (tm := r221.2.2.2.1.2.2.2.2.2.2.1) (tn := r221.2.2.2.1.2.2.2.2.2.2.2) (CM_quoted hb er221) rfl rfl hm (fun _ => rfl) (fun _ => rfl) (fun _ => rfl) (fun _ => dM_constant_35) (fun _ R => kM_350 R) (fun _ => rfl) ⟨(Nat.le_of_ble_eq_true rfl), (Nat.le_of_ble_eq_true rfl)⟩ rfl rfl rfl (fun _ => rfl) (Nat.le_of_ble_eq_true rfl) ⟨rfl, rfl⟩
  · replace hF := xg_f c192 hF
    refine xy_r (xw_aload_n dM_constant_12 rfl) ?_
    refine xy_r (xw_iconst (0) dM_constant_13 (by decide)) ?_
    obtain ⟨r224, er224, hF⟩ := xg_b hF
    have hm225 : s.2.2.1.2.2.2.2.2.2.1 ≤ r224.2.2.2.1.2.2.2.2.2.2.1 ∧ s.2.2.1.2.2.2.2.2.2.2 ≤ r224.2.2.2.1.2.2.2.2.2.2.2 := xy_le hm (show s.2.2.1.2.2.2.2.2.2.1 ≤ r224.2.2.2.1.2.2.2.2.2.2.1 ∧ s.2.2.1.2.2.2.2.2.2.2 ≤ r224.2.2.2.1.2.2.2.2.2.2.2 from (CM_node (w := w) (h := h) hb er224).1)
    refine xy_V1 (sm := s.2.2.1.2.2.2.2.2.2.1) (sn := s.2.2.1.2.2.2.2.2.2.2) (tm := r224.2.2.2.1.2.2.2.2.2.2.1) (tn := r224.2.2.2.1.2.2.2.2.2.2.2) (CM_node hb er224) rfl rfl hm (fun _ => rfl) (fun _ => rfl) (fun _ => rfl) (fun _ => dM_constant_14) (fun _ R => kM_253 R) (fun _ => rfl) ⟨(Nat.le_of_ble_eq_true rfl), (Nat.le_of_ble_eq_true rfl)⟩ rfl rfl rfl (fun _ => rfl) (Nat.le_of_ble_eq_true rfl) ?_
    refine xy_r (xw_astore_n dM_constant_17 (Nat.le_of_ble_eq_true rfl)) ?_
    refine xy_r (xw_Ln (L' := [some (.ref 2000), some (.int r191), some (.ref (xn r224.1)), none, none]) rfl) ?_
    refine xy_r (xw_aload_n dM_constant_18 rfl) ?_
    refine xy_r (xw_aload_n dM_constant_19 rfl) ?_
    rcases xg_o hF with ⟨r227, er227, hF⟩ | ⟨r227, er227, hF⟩
    · have hm228 : s.2.2.1.2.2.2.2.2.2.1 ≤ r227.2.2.2.1.2.2.2.2.2.2.1 ∧ s.2.2.1.2.2.2.2.2.2.2 ≤ r227.2.2.2.1.2.2.2.2.2.2.2 := xy_le hm225 (show r224.2.2.2.1.2.2.2.2.2.2.1 ≤ r227.2.2.2.1.2.2.2.2.2.2.1 ∧ r224.2.2.2.1.2.2.2.2.2.2.2 ≤ r227.2.2.2.1.2.2.2.2.2.2.2 from (CM_digits (w := w) (h := h) hb er227).1)
      refine xy_V1 (sm := r224.2.2.2.1.2.2.2.2.2.2.1) (sn := r224.2.2.2.1.2.2.2.2.2.2.2) (tm := r227.2.2.2.1.2.2.2.2.2.2.1) (tn := r227.2.2.2.1.2.2.2.2.2.2.2) (CM_digits hb er227) rfl rfl hm225 (fun _ => rfl) (fun _ => rfl) (fun _ => rfl) (fun _ => dM_constant_20) (fun _ R => kM_346 R) (fun _ => rfl) ⟨(Nat.le_of_ble_eq_true rfl), (Nat.le_of_ble_eq_true rfl)⟩ rfl rfl rfl (fun _ => rfl) (Nat.le_of_ble_eq_true rfl) ?_
      obtain ⟨g230, hF⟩ := xg_g hF
      refine xy_r (xg_put dM_constant_23 fM_201 (mV_n g230) (xn_le _) (Nat.le_of_ble_eq_true rfl) (fun _ => rfl) (fun _ => rfl) (mV_pn (q := (nNumber (r227.2.2.2.1.2.2.2.2.2.1 r224.1) r227.1)) g230)) ?_
      refine xy_r (xw_aload_n dM_constant_26 rfl) ?_
      obtain rfl := Option.some.inj hF
      exact xy_end (xw_areturn dM_constant_27 rfl (Or.inl ⟨_, rfl⟩) (Nat.le_refl _) (Nat.le_refl _) ⟨rfl, rfl⟩)
    · subst hF
      exact xy_Vt (sm := r224.2.2.2.1.2.2.2.2.2.2.1) (sn := r224.2.2.2.1.2.2.2.2.2.2.2) (tm := r227.2.2.2.1.2.2.2.2.2.2.1) (tn := r227.2.2.2.1.2.2.2.2.2.2.2) (CM_digits hb er227) rfl rfl hm225 (fun _ => rfl) (fun _ => rfl) (fun _ => rfl) (fun _ => dM_constant_20) (fun _ R => kM_346 R) (fun _ => rfl) ⟨(Nat.le_of_ble_eq_true rfl), (Nat.le_of_ble_eq_true rfl)⟩ rfl rfl rfl (fun _ => rfl) (Nat.le_of_ble_eq_true rfl) ⟨rfl, rfl⟩
/-- FormulaShaperModel.corner -/
def FM_corner (x0 : Nat) (s : xMs) : Option xMs := if x0 < s.2.2.1.2.2.2.2.1 then (some (s.1, (s.2.1.1, s.2.1.2.2.2.2.1, s.2.1.2.2), (s.2.2.1.1, s.2.2.1.2.1, s.2.2.1.2.2.1, s.2.2.1.2.2.2.1, s.2.2.1.2.2.2.2.1, (va_up (va_up (va_up (va_up s.2.2.1.2.2.2.2.2.1 x0 (nRow (s.2.2.1.2.2.2.2.2.1 x0) s.2.1.2.2.2.2.2.2.2.1)) x0 (nCol ((va_up s.2.2.1.2.2.2.2.2.1 x0 (nRow (s.2.2.1.2.2.2.2.2.1 x0) s.2.1.2.2.2.2.2.2.2.1)) x0) s.2.1.2.2.2.2.2.2.2.2)) x0 (nRs ((va_up (va_up s.2.2.1.2.2.2.2.2.1 x0 (nRow (s.2.2.1.2.2.2.2.2.1 x0) s.2.1.2.2.2.2.2.2.2.1)) x0 (nCol ((va_up s.2.2.1.2.2.2.2.2.1 x0 (nRow (s.2.2.1.2.2.2.2.2.1 x0) s.2.1.2.2.2.2.2.2.2.1)) x0) s.2.1.2.2.2.2.2.2.2.2)) x0) s.2.1.2.2.2.2.2.1)) x0 (nCs ((va_up (va_up (va_up s.2.2.1.2.2.2.2.2.1 x0 (nRow (s.2.2.1.2.2.2.2.2.1 x0) s.2.1.2.2.2.2.2.2.2.1)) x0 (nCol ((va_up s.2.2.1.2.2.2.2.2.1 x0 (nRow (s.2.2.1.2.2.2.2.2.1 x0) s.2.1.2.2.2.2.2.2.2.1)) x0) s.2.1.2.2.2.2.2.2.2.2)) x0 (nRs ((va_up (va_up s.2.2.1.2.2.2.2.2.1 x0 (nRow (s.2.2.1.2.2.2.2.2.1 x0) s.2.1.2.2.2.2.2.2.2.1)) x0 (nCol ((va_up s.2.2.1.2.2.2.2.2.1 x0 (nRow (s.2.2.1.2.2.2.2.2.1 x0) s.2.1.2.2.2.2.2.2.2.1)) x0) s.2.1.2.2.2.2.2.2.2.2)) x0) s.2.1.2.2.2.2.2.1)) x0) s.2.1.2.2.2.2.2.2.1)), s.2.2.1.2.2.2.2.2.2), s.2.2.2)) else none
set_option maxRecDepth 20000 in
theorem CM_corner {w : xw_G} {h : xw_H} (hb : xMb h) {x0 : Nat} {s : xMs} {out : xMs} (hF : FM_corner x0 s = some out) : (s.2.2.1.2.2.2.2.2.2.1 ≤ out.2.2.1.2.2.2.2.2.2.1 ∧ s.2.2.1.2.2.2.2.2.2.2 ≤ out.2.2.1.2.2.2.2.2.2.2) ∧ xw_C w (mM_corner { frames := 0, cells := out.2.2.1.2.2.2.2.2.2.1 - s.2.2.1.2.2.2.2.2.2.1, slots := out.2.2.1.2.2.2.2.2.2.2 - s.2.2.1.2.2.2.2.2.2.2, locals := 0 }) (xw_R none (mV out h)) [.ref 2000, .ref (xn x0)] (mV s h) := by
  unfold FM_corner at hF
  refine xy_enter (L := [some (.ref 2000), some (.ref (xn x0))]) (fun _ => rfl) (fun _ => rfl) (fun _ => (show plainName "FormulaShaperModel" = true by decide +kernel)) (fun _ => (Nat.le_of_ble_eq_true rfl)) (fun _ => rfl) ?_
  have hm : s.2.2.1.2.2.2.2.2.2.1 ≤ s.2.2.1.2.2.2.2.2.2.1 ∧ s.2.2.1.2.2.2.2.2.2.2 ≤ s.2.2.1.2.2.2.2.2.2.2 := ⟨Nat.le_refl _, Nat.le_refl _⟩
  refine xy_r (xw_aload_n dM_corner_0 rfl) ?_
  refine xy_r (xw_aload_n dM_corner_1 rfl) ?_
  refine xy_r (xw_get dM_corner_2 fM_311 rfl rfl) ?_
  obtain ⟨g231, hF⟩ := xg_g hF
  refine xy_r (xg_put dM_corner_5 fM_368 (mV_n g231) (xn_le _) (Nat.le_of_ble_eq_true rfl) (fun _ => rfl) (fun _ => rfl) (mV_pn (q := (nRow (s.2.2.1.2.2.2.2.2.1 x0) s.2.1.2.2.2.2.2.2.2.1)) g231)) ?_
  refine xy_r (xw_aload_n dM_corner_8 rfl) ?_
  refine xy_r (xw_aload_n dM_corner_9 rfl) ?_
  refine xy_r (xw_get dM_corner_10 fM_302 rfl rfl) ?_
  refine xy_r (xg_put dM_corner_13 fM_371 (mV_n g231) (xn_le _) (Nat.le_of_ble_eq_true rfl) (fun _ => rfl) (fun _ => rfl) (mV_pn (q := (nCol ((va_up s.2.2.1.2.2.2.2.2.1 x0 (nRow (s.2.2.1.2.2.2.2.2.1 x0) s.2.1.2.2.2.2.2.2.2.1)) x0) s.2.1.2.2.2.2.2.2.2.2)) g231)) ?_
  refine xy_r (xw_aload_n dM_corner_16 rfl) ?_
  refine xy_r (xw_aload_n dM_corner_17 rfl) ?_
  refine xy_r (xw_get dM_corner_18 fM_305 rfl rfl) ?_
  refine xy_r (xg_put dM_corner_21 fM_374 (mV_n g231) (xn_le _) (Nat.le_of_ble_eq_true rfl) (fun _ => xb_nar s.2.1.2.2.2.2.2.1) (fun _ => xb_fit s.2.1.2.2.2.2.2.1) (mV_pn (q := (nRs ((va_up (va_up s.2.2.1.2.2.2.2.2.1 x0 (nRow (s.2.2.1.2.2.2.2.2.1 x0) s.2.1.2.2.2.2.2.2.2.1)) x0 (nCol ((va_up s.2.2.1.2.2.2.2.2.1 x0 (nRow (s.2.2.1.2.2.2.2.2.1 x0) s.2.1.2.2.2.2.2.2.2.1)) x0) s.2.1.2.2.2.2.2.2.2.2)) x0) s.2.1.2.2.2.2.2.1)) g231)) ?_
  refine xy_r (xw_aload_n dM_corner_24 rfl) ?_
  refine xy_r (xw_aload_n dM_corner_25 rfl) ?_
  refine xy_r (xw_get dM_corner_26 fM_298 rfl rfl) ?_
  refine xy_r (xg_put dM_corner_29 fM_377 (mV_n g231) (xn_le _) (Nat.le_of_ble_eq_true rfl) (fun _ => xb_nar s.2.1.2.2.2.2.2.2.1) (fun _ => xb_fit s.2.1.2.2.2.2.2.2.1) (mV_pn (q := (nCs ((va_up (va_up (va_up s.2.2.1.2.2.2.2.2.1 x0 (nRow (s.2.2.1.2.2.2.2.2.1 x0) s.2.1.2.2.2.2.2.2.2.1)) x0 (nCol ((va_up s.2.2.1.2.2.2.2.2.1 x0 (nRow (s.2.2.1.2.2.2.2.2.1 x0) s.2.1.2.2.2.2.2.2.2.1)) x0) s.2.1.2.2.2.2.2.2.2.2)) x0 (nRs ((va_up (va_up s.2.2.1.2.2.2.2.2.1 x0 (nRow (s.2.2.1.2.2.2.2.2.1 x0) s.2.1.2.2.2.2.2.2.2.1)) x0 (nCol ((va_up s.2.2.1.2.2.2.2.2.1 x0 (nRow (s.2.2.1.2.2.2.2.2.1 x0) s.2.1.2.2.2.2.2.2.2.1)) x0) s.2.1.2.2.2.2.2.2.2.2)) x0) s.2.1.2.2.2.2.2.1)) x0) s.2.1.2.2.2.2.2.2.1)) g231)) ?_
  refine xy_r (xw_aload_n dM_corner_32 rfl) ?_
  refine xy_r (xw_aload_n dM_corner_33 rfl) ?_
  refine xy_r (xw_get dM_corner_34 fM_314 rfl rfl) ?_
  refine xy_r (xg_put dM_corner_37 fM_221 rfl (by decide) (Nat.le_of_ble_eq_true rfl) (fun _ => rfl) (fun _ => rfl) (mV_o (s' := (s.1, (s.2.1.1, s.2.1.2.2.2.2.1, s.2.1.2.2), (s.2.2.1.1, s.2.2.1.2.1, s.2.2.1.2.2.1, s.2.2.1.2.2.2.1, s.2.2.1.2.2.2.2.1, (va_up (va_up (va_up (va_up s.2.2.1.2.2.2.2.2.1 x0 (nRow (s.2.2.1.2.2.2.2.2.1 x0) s.2.1.2.2.2.2.2.2.2.1)) x0 (nCol ((va_up s.2.2.1.2.2.2.2.2.1 x0 (nRow (s.2.2.1.2.2.2.2.2.1 x0) s.2.1.2.2.2.2.2.2.2.1)) x0) s.2.1.2.2.2.2.2.2.2.2)) x0 (nRs ((va_up (va_up s.2.2.1.2.2.2.2.2.1 x0 (nRow (s.2.2.1.2.2.2.2.2.1 x0) s.2.1.2.2.2.2.2.2.2.1)) x0 (nCol ((va_up s.2.2.1.2.2.2.2.2.1 x0 (nRow (s.2.2.1.2.2.2.2.2.1 x0) s.2.1.2.2.2.2.2.2.2.1)) x0) s.2.1.2.2.2.2.2.2.2.2)) x0) s.2.1.2.2.2.2.2.1)) x0 (nCs ((va_up (va_up (va_up s.2.2.1.2.2.2.2.2.1 x0 (nRow (s.2.2.1.2.2.2.2.2.1 x0) s.2.1.2.2.2.2.2.2.2.1)) x0 (nCol ((va_up s.2.2.1.2.2.2.2.2.1 x0 (nRow (s.2.2.1.2.2.2.2.2.1 x0) s.2.1.2.2.2.2.2.2.2.1)) x0) s.2.1.2.2.2.2.2.2.2.2)) x0 (nRs ((va_up (va_up s.2.2.1.2.2.2.2.2.1 x0 (nRow (s.2.2.1.2.2.2.2.2.1 x0) s.2.1.2.2.2.2.2.2.2.1)) x0 (nCol ((va_up s.2.2.1.2.2.2.2.2.1 x0 (nRow (s.2.2.1.2.2.2.2.2.1 x0) s.2.1.2.2.2.2.2.2.2.1)) x0) s.2.1.2.2.2.2.2.2.2.2)) x0) s.2.1.2.2.2.2.2.1)) x0) s.2.1.2.2.2.2.2.2.1)), s.2.2.1.2.2.2.2.2.2), s.2.2.2)) rfl)) ?_
  obtain rfl := Option.some.inj hF
  exact xy_end (xw_return dM_corner_40 rfl (Nat.le_refl _) (Nat.le_refl _) ⟨rfl, rfl⟩)
def FM_cells_126 (l1 : Nat) (s : xMs) : Option (xo Nat xMs) := if l1 < s.2.2.1.2.2.2.2.1 then (if ((va_up (va_up s.2.2.1.2.2.2.2.2.1 l1 (nRow (s.2.2.1.2.2.2.2.2.1 l1) (if s.2.1.2.2.2.2.2.2.2.1 < (s.2.2.1.2.2.2.2.2.1 l1).2.1.1 then s.2.1.2.2.2.2.2.2.2.1 else (s.2.2.1.2.2.2.2.2.1 l1).2.1.1))) l1 (nLc ((va_up s.2.2.1.2.2.2.2.2.1 l1 (nRow (s.2.2.1.2.2.2.2.2.1 l1) (if s.2.1.2.2.2.2.2.2.2.1 < (s.2.2.1.2.2.2.2.2.1 l1).2.1.1 then s.2.1.2.2.2.2.2.2.2.1 else (s.2.2.1.2.2.2.2.2.1 l1).2.1.1))) l1) (if ((va_up s.2.2.1.2.2.2.2.2.1 l1 (nRow (s.2.2.1.2.2.2.2.2.1 l1) (if s.2.1.2.2.2.2.2.2.2.1 < (s.2.2.1.2.2.2.2.2.1 l1).2.1.1 then s.2.1.2.2.2.2.2.2.2.1 else (s.2.2.1.2.2.2.2.2.1 l1).2.1.1))) l1).2.1.2.1 < s.2.1.2.2.2.2.2.2.2.2 then s.2.1.2.2.2.2.2.2.2.2 else ((va_up s.2.2.1.2.2.2.2.2.1 l1 (nRow (s.2.2.1.2.2.2.2.2.1 l1) (if s.2.1.2.2.2.2.2.2.2.1 < (s.2.2.1.2.2.2.2.2.1 l1).2.1.1 then s.2.1.2.2.2.2.2.2.2.1 else (s.2.2.1.2.2.2.2.2.1 l1).2.1.1))) l1).2.1.2.1))) l1).2.1.2.1 ≤ s.2.1.2.2.2.2.2.2.2.2 then (if ((va_up (va_up (va_up s.2.2.1.2.2.2.2.2.1 l1 (nRow (s.2.2.1.2.2.2.2.2.1 l1) (if s.2.1.2.2.2.2.2.2.2.1 < (s.2.2.1.2.2.2.2.2.1 l1).2.1.1 then s.2.1.2.2.2.2.2.2.2.1 else (s.2.2.1.2.2.2.2.2.1 l1).2.1.1))) l1 (nLc ((va_up s.2.2.1.2.2.2.2.2.1 l1 (nRow (s.2.2.1.2.2.2.2.2.1 l1) (if s.2.1.2.2.2.2.2.2.2.1 < (s.2.2.1.2.2.2.2.2.1 l1).2.1.1 then s.2.1.2.2.2.2.2.2.2.1 else (s.2.2.1.2.2.2.2.2.1 l1).2.1.1))) l1) (if ((va_up s.2.2.1.2.2.2.2.2.1 l1 (nRow (s.2.2.1.2.2.2.2.2.1 l1) (if s.2.1.2.2.2.2.2.2.2.1 < (s.2.2.1.2.2.2.2.2.1 l1).2.1.1 then s.2.1.2.2.2.2.2.2.2.1 else (s.2.2.1.2.2.2.2.2.1 l1).2.1.1))) l1).2.1.2.1 < s.2.1.2.2.2.2.2.2.2.2 then s.2.1.2.2.2.2.2.2.2.2 else ((va_up s.2.2.1.2.2.2.2.2.1 l1 (nRow (s.2.2.1.2.2.2.2.2.1 l1) (if s.2.1.2.2.2.2.2.2.2.1 < (s.2.2.1.2.2.2.2.2.1 l1).2.1.1 then s.2.1.2.2.2.2.2.2.2.1 else (s.2.2.1.2.2.2.2.2.1 l1).2.1.1))) l1).2.1.2.1))) l1 (nLcs ((va_up (va_up s.2.2.1.2.2.2.2.2.1 l1 (nRow (s.2.2.1.2.2.2.2.2.1 l1) (if s.2.1.2.2.2.2.2.2.2.1 < (s.2.2.1.2.2.2.2.2.1 l1).2.1.1 then s.2.1.2.2.2.2.2.2.2.1 else (s.2.2.1.2.2.2.2.2.1 l1).2.1.1))) l1 (nLc ((va_up s.2.2.1.2.2.2.2.2.1 l1 (nRow (s.2.2.1.2.2.2.2.2.1 l1) (if s.2.1.2.2.2.2.2.2.2.1 < (s.2.2.1.2.2.2.2.2.1 l1).2.1.1 then s.2.1.2.2.2.2.2.2.2.1 else (s.2.2.1.2.2.2.2.2.1 l1).2.1.1))) l1) (if ((va_up s.2.2.1.2.2.2.2.2.1 l1 (nRow (s.2.2.1.2.2.2.2.2.1 l1) (if s.2.1.2.2.2.2.2.2.2.1 < (s.2.2.1.2.2.2.2.2.1 l1).2.1.1 then s.2.1.2.2.2.2.2.2.2.1 else (s.2.2.1.2.2.2.2.2.1 l1).2.1.1))) l1).2.1.2.1 < s.2.1.2.2.2.2.2.2.2.2 then s.2.1.2.2.2.2.2.2.2.2 else ((va_up s.2.2.1.2.2.2.2.2.1 l1 (nRow (s.2.2.1.2.2.2.2.2.1 l1) (if s.2.1.2.2.2.2.2.2.2.1 < (s.2.2.1.2.2.2.2.2.1 l1).2.1.1 then s.2.1.2.2.2.2.2.2.2.1 else (s.2.2.1.2.2.2.2.2.1 l1).2.1.1))) l1).2.1.2.1))) l1) s.2.1.2.2.2.2.2.2.1)) l1).2.1.2.1 ≤ s.2.1.2.2.2.2.2.2.2.2 then (some (.inl (l1, (s.1, (s.2.1.1, s.2.1.2.2.2.2.1, s.2.1.2.2), (s.2.2.1.1, s.2.2.1.2.1, s.2.2.1.2.2.1, s.2.2.1.2.2.2.1, s.2.2.1.2.2.2.2.1, (va_up (va_up (va_up (va_up s.2.2.1.2.2.2.2.2.1 l1 (nRow (s.2.2.1.2.2.2.2.2.1 l1) (if s.2.1.2.2.2.2.2.2.2.1 < (s.2.2.1.2.2.2.2.2.1 l1).2.1.1 then s.2.1.2.2.2.2.2.2.2.1 else (s.2.2.1.2.2.2.2.2.1 l1).2.1.1))) l1 (nLc ((va_up s.2.2.1.2.2.2.2.2.1 l1 (nRow (s.2.2.1.2.2.2.2.2.1 l1) (if s.2.1.2.2.2.2.2.2.2.1 < (s.2.2.1.2.2.2.2.2.1 l1).2.1.1 then s.2.1.2.2.2.2.2.2.2.1 else (s.2.2.1.2.2.2.2.2.1 l1).2.1.1))) l1) (if ((va_up s.2.2.1.2.2.2.2.2.1 l1 (nRow (s.2.2.1.2.2.2.2.2.1 l1) (if s.2.1.2.2.2.2.2.2.2.1 < (s.2.2.1.2.2.2.2.2.1 l1).2.1.1 then s.2.1.2.2.2.2.2.2.2.1 else (s.2.2.1.2.2.2.2.2.1 l1).2.1.1))) l1).2.1.2.1 < s.2.1.2.2.2.2.2.2.2.2 then s.2.1.2.2.2.2.2.2.2.2 else ((va_up s.2.2.1.2.2.2.2.2.1 l1 (nRow (s.2.2.1.2.2.2.2.2.1 l1) (if s.2.1.2.2.2.2.2.2.2.1 < (s.2.2.1.2.2.2.2.2.1 l1).2.1.1 then s.2.1.2.2.2.2.2.2.2.1 else (s.2.2.1.2.2.2.2.2.1 l1).2.1.1))) l1).2.1.2.1))) l1 (nLcs ((va_up (va_up s.2.2.1.2.2.2.2.2.1 l1 (nRow (s.2.2.1.2.2.2.2.2.1 l1) (if s.2.1.2.2.2.2.2.2.2.1 < (s.2.2.1.2.2.2.2.2.1 l1).2.1.1 then s.2.1.2.2.2.2.2.2.2.1 else (s.2.2.1.2.2.2.2.2.1 l1).2.1.1))) l1 (nLc ((va_up s.2.2.1.2.2.2.2.2.1 l1 (nRow (s.2.2.1.2.2.2.2.2.1 l1) (if s.2.1.2.2.2.2.2.2.2.1 < (s.2.2.1.2.2.2.2.2.1 l1).2.1.1 then s.2.1.2.2.2.2.2.2.2.1 else (s.2.2.1.2.2.2.2.2.1 l1).2.1.1))) l1) (if ((va_up s.2.2.1.2.2.2.2.2.1 l1 (nRow (s.2.2.1.2.2.2.2.2.1 l1) (if s.2.1.2.2.2.2.2.2.2.1 < (s.2.2.1.2.2.2.2.2.1 l1).2.1.1 then s.2.1.2.2.2.2.2.2.2.1 else (s.2.2.1.2.2.2.2.2.1 l1).2.1.1))) l1).2.1.2.1 < s.2.1.2.2.2.2.2.2.2.2 then s.2.1.2.2.2.2.2.2.2.2 else ((va_up s.2.2.1.2.2.2.2.2.1 l1 (nRow (s.2.2.1.2.2.2.2.2.1 l1) (if s.2.1.2.2.2.2.2.2.2.1 < (s.2.2.1.2.2.2.2.2.1 l1).2.1.1 then s.2.1.2.2.2.2.2.2.2.1 else (s.2.2.1.2.2.2.2.2.1 l1).2.1.1))) l1).2.1.2.1))) l1) s.2.1.2.2.2.2.2.2.1)) l1 (nCol ((va_up (va_up (va_up s.2.2.1.2.2.2.2.2.1 l1 (nRow (s.2.2.1.2.2.2.2.2.1 l1) (if s.2.1.2.2.2.2.2.2.2.1 < (s.2.2.1.2.2.2.2.2.1 l1).2.1.1 then s.2.1.2.2.2.2.2.2.2.1 else (s.2.2.1.2.2.2.2.2.1 l1).2.1.1))) l1 (nLc ((va_up s.2.2.1.2.2.2.2.2.1 l1 (nRow (s.2.2.1.2.2.2.2.2.1 l1) (if s.2.1.2.2.2.2.2.2.2.1 < (s.2.2.1.2.2.2.2.2.1 l1).2.1.1 then s.2.1.2.2.2.2.2.2.2.1 else (s.2.2.1.2.2.2.2.2.1 l1).2.1.1))) l1) (if ((va_up s.2.2.1.2.2.2.2.2.1 l1 (nRow (s.2.2.1.2.2.2.2.2.1 l1) (if s.2.1.2.2.2.2.2.2.2.1 < (s.2.2.1.2.2.2.2.2.1 l1).2.1.1 then s.2.1.2.2.2.2.2.2.2.1 else (s.2.2.1.2.2.2.2.2.1 l1).2.1.1))) l1).2.1.2.1 < s.2.1.2.2.2.2.2.2.2.2 then s.2.1.2.2.2.2.2.2.2.2 else ((va_up s.2.2.1.2.2.2.2.2.1 l1 (nRow (s.2.2.1.2.2.2.2.2.1 l1) (if s.2.1.2.2.2.2.2.2.2.1 < (s.2.2.1.2.2.2.2.2.1 l1).2.1.1 then s.2.1.2.2.2.2.2.2.2.1 else (s.2.2.1.2.2.2.2.2.1 l1).2.1.1))) l1).2.1.2.1))) l1 (nLcs ((va_up (va_up s.2.2.1.2.2.2.2.2.1 l1 (nRow (s.2.2.1.2.2.2.2.2.1 l1) (if s.2.1.2.2.2.2.2.2.2.1 < (s.2.2.1.2.2.2.2.2.1 l1).2.1.1 then s.2.1.2.2.2.2.2.2.2.1 else (s.2.2.1.2.2.2.2.2.1 l1).2.1.1))) l1 (nLc ((va_up s.2.2.1.2.2.2.2.2.1 l1 (nRow (s.2.2.1.2.2.2.2.2.1 l1) (if s.2.1.2.2.2.2.2.2.2.1 < (s.2.2.1.2.2.2.2.2.1 l1).2.1.1 then s.2.1.2.2.2.2.2.2.2.1 else (s.2.2.1.2.2.2.2.2.1 l1).2.1.1))) l1) (if ((va_up s.2.2.1.2.2.2.2.2.1 l1 (nRow (s.2.2.1.2.2.2.2.2.1 l1) (if s.2.1.2.2.2.2.2.2.2.1 < (s.2.2.1.2.2.2.2.2.1 l1).2.1.1 then s.2.1.2.2.2.2.2.2.2.1 else (s.2.2.1.2.2.2.2.2.1 l1).2.1.1))) l1).2.1.2.1 < s.2.1.2.2.2.2.2.2.2.2 then s.2.1.2.2.2.2.2.2.2.2 else ((va_up s.2.2.1.2.2.2.2.2.1 l1 (nRow (s.2.2.1.2.2.2.2.2.1 l1) (if s.2.1.2.2.2.2.2.2.2.1 < (s.2.2.1.2.2.2.2.2.1 l1).2.1.1 then s.2.1.2.2.2.2.2.2.2.1 else (s.2.2.1.2.2.2.2.2.1 l1).2.1.1))) l1).2.1.2.1))) l1) s.2.1.2.2.2.2.2.2.1)) l1) (if s.2.1.2.2.2.2.2.2.2.2 < ((va_up (va_up (va_up s.2.2.1.2.2.2.2.2.1 l1 (nRow (s.2.2.1.2.2.2.2.2.1 l1) (if s.2.1.2.2.2.2.2.2.2.1 < (s.2.2.1.2.2.2.2.2.1 l1).2.1.1 then s.2.1.2.2.2.2.2.2.2.1 else (s.2.2.1.2.2.2.2.2.1 l1).2.1.1))) l1 (nLc ((va_up s.2.2.1.2.2.2.2.2.1 l1 (nRow (s.2.2.1.2.2.2.2.2.1 l1) (if s.2.1.2.2.2.2.2.2.2.1 < (s.2.2.1.2.2.2.2.2.1 l1).2.1.1 then s.2.1.2.2.2.2.2.2.2.1 else (s.2.2.1.2.2.2.2.2.1 l1).2.1.1))) l1) (if ((va_up s.2.2.1.2.2.2.2.2.1 l1 (nRow (s.2.2.1.2.2.2.2.2.1 l1) (if s.2.1.2.2.2.2.2.2.2.1 < (s.2.2.1.2.2.2.2.2.1 l1).2.1.1 then s.2.1.2.2.2.2.2.2.2.1 else (s.2.2.1.2.2.2.2.2.1 l1).2.1.1))) l1).2.1.2.1 < s.2.1.2.2.2.2.2.2.2.2 then s.2.1.2.2.2.2.2.2.2.2 else ((va_up s.2.2.1.2.2.2.2.2.1 l1 (nRow (s.2.2.1.2.2.2.2.2.1 l1) (if s.2.1.2.2.2.2.2.2.2.1 < (s.2.2.1.2.2.2.2.2.1 l1).2.1.1 then s.2.1.2.2.2.2.2.2.2.1 else (s.2.2.1.2.2.2.2.2.1 l1).2.1.1))) l1).2.1.2.1))) l1 (nLcs ((va_up (va_up s.2.2.1.2.2.2.2.2.1 l1 (nRow (s.2.2.1.2.2.2.2.2.1 l1) (if s.2.1.2.2.2.2.2.2.2.1 < (s.2.2.1.2.2.2.2.2.1 l1).2.1.1 then s.2.1.2.2.2.2.2.2.2.1 else (s.2.2.1.2.2.2.2.2.1 l1).2.1.1))) l1 (nLc ((va_up s.2.2.1.2.2.2.2.2.1 l1 (nRow (s.2.2.1.2.2.2.2.2.1 l1) (if s.2.1.2.2.2.2.2.2.2.1 < (s.2.2.1.2.2.2.2.2.1 l1).2.1.1 then s.2.1.2.2.2.2.2.2.2.1 else (s.2.2.1.2.2.2.2.2.1 l1).2.1.1))) l1) (if ((va_up s.2.2.1.2.2.2.2.2.1 l1 (nRow (s.2.2.1.2.2.2.2.2.1 l1) (if s.2.1.2.2.2.2.2.2.2.1 < (s.2.2.1.2.2.2.2.2.1 l1).2.1.1 then s.2.1.2.2.2.2.2.2.2.1 else (s.2.2.1.2.2.2.2.2.1 l1).2.1.1))) l1).2.1.2.1 < s.2.1.2.2.2.2.2.2.2.2 then s.2.1.2.2.2.2.2.2.2.2 else ((va_up s.2.2.1.2.2.2.2.2.1 l1 (nRow (s.2.2.1.2.2.2.2.2.1 l1) (if s.2.1.2.2.2.2.2.2.2.1 < (s.2.2.1.2.2.2.2.2.1 l1).2.1.1 then s.2.1.2.2.2.2.2.2.2.1 else (s.2.2.1.2.2.2.2.2.1 l1).2.1.1))) l1).2.1.2.1))) l1) s.2.1.2.2.2.2.2.2.1)) l1).2.1.2.1 then s.2.1.2.2.2.2.2.2.2.2 else ((va_up (va_up (va_up s.2.2.1.2.2.2.2.2.1 l1 (nRow (s.2.2.1.2.2.2.2.2.1 l1) (if s.2.1.2.2.2.2.2.2.2.1 < (s.2.2.1.2.2.2.2.2.1 l1).2.1.1 then s.2.1.2.2.2.2.2.2.2.1 else (s.2.2.1.2.2.2.2.2.1 l1).2.1.1))) l1 (nLc ((va_up s.2.2.1.2.2.2.2.2.1 l1 (nRow (s.2.2.1.2.2.2.2.2.1 l1) (if s.2.1.2.2.2.2.2.2.2.1 < (s.2.2.1.2.2.2.2.2.1 l1).2.1.1 then s.2.1.2.2.2.2.2.2.2.1 else (s.2.2.1.2.2.2.2.2.1 l1).2.1.1))) l1) (if ((va_up s.2.2.1.2.2.2.2.2.1 l1 (nRow (s.2.2.1.2.2.2.2.2.1 l1) (if s.2.1.2.2.2.2.2.2.2.1 < (s.2.2.1.2.2.2.2.2.1 l1).2.1.1 then s.2.1.2.2.2.2.2.2.2.1 else (s.2.2.1.2.2.2.2.2.1 l1).2.1.1))) l1).2.1.2.1 < s.2.1.2.2.2.2.2.2.2.2 then s.2.1.2.2.2.2.2.2.2.2 else ((va_up s.2.2.1.2.2.2.2.2.1 l1 (nRow (s.2.2.1.2.2.2.2.2.1 l1) (if s.2.1.2.2.2.2.2.2.2.1 < (s.2.2.1.2.2.2.2.2.1 l1).2.1.1 then s.2.1.2.2.2.2.2.2.2.1 else (s.2.2.1.2.2.2.2.2.1 l1).2.1.1))) l1).2.1.2.1))) l1 (nLcs ((va_up (va_up s.2.2.1.2.2.2.2.2.1 l1 (nRow (s.2.2.1.2.2.2.2.2.1 l1) (if s.2.1.2.2.2.2.2.2.2.1 < (s.2.2.1.2.2.2.2.2.1 l1).2.1.1 then s.2.1.2.2.2.2.2.2.2.1 else (s.2.2.1.2.2.2.2.2.1 l1).2.1.1))) l1 (nLc ((va_up s.2.2.1.2.2.2.2.2.1 l1 (nRow (s.2.2.1.2.2.2.2.2.1 l1) (if s.2.1.2.2.2.2.2.2.2.1 < (s.2.2.1.2.2.2.2.2.1 l1).2.1.1 then s.2.1.2.2.2.2.2.2.2.1 else (s.2.2.1.2.2.2.2.2.1 l1).2.1.1))) l1) (if ((va_up s.2.2.1.2.2.2.2.2.1 l1 (nRow (s.2.2.1.2.2.2.2.2.1 l1) (if s.2.1.2.2.2.2.2.2.2.1 < (s.2.2.1.2.2.2.2.2.1 l1).2.1.1 then s.2.1.2.2.2.2.2.2.2.1 else (s.2.2.1.2.2.2.2.2.1 l1).2.1.1))) l1).2.1.2.1 < s.2.1.2.2.2.2.2.2.2.2 then s.2.1.2.2.2.2.2.2.2.2 else ((va_up s.2.2.1.2.2.2.2.2.1 l1 (nRow (s.2.2.1.2.2.2.2.2.1 l1) (if s.2.1.2.2.2.2.2.2.2.1 < (s.2.2.1.2.2.2.2.2.1 l1).2.1.1 then s.2.1.2.2.2.2.2.2.2.1 else (s.2.2.1.2.2.2.2.2.1 l1).2.1.1))) l1).2.1.2.1))) l1) s.2.1.2.2.2.2.2.2.1)) l1).2.1.2.1))), s.2.2.1.2.2.2.2.2.2), s.2.2.2)))) else (some (.inl (l1, (s.1, (s.2.1.1, s.2.1.2.2.2.2.1, s.2.1.2.2), (s.2.2.1.1, s.2.2.1.2.1, s.2.2.1.2.2.1, s.2.2.1.2.2.2.1, s.2.2.1.2.2.2.2.1, (va_up (va_up (va_up (va_up (va_up s.2.2.1.2.2.2.2.2.1 l1 (nRow (s.2.2.1.2.2.2.2.2.1 l1) (if s.2.1.2.2.2.2.2.2.2.1 < (s.2.2.1.2.2.2.2.2.1 l1).2.1.1 then s.2.1.2.2.2.2.2.2.2.1 else (s.2.2.1.2.2.2.2.2.1 l1).2.1.1))) l1 (nLc ((va_up s.2.2.1.2.2.2.2.2.1 l1 (nRow (s.2.2.1.2.2.2.2.2.1 l1) (if s.2.1.2.2.2.2.2.2.2.1 < (s.2.2.1.2.2.2.2.2.1 l1).2.1.1 then s.2.1.2.2.2.2.2.2.2.1 else (s.2.2.1.2.2.2.2.2.1 l1).2.1.1))) l1) (if ((va_up s.2.2.1.2.2.2.2.2.1 l1 (nRow (s.2.2.1.2.2.2.2.2.1 l1) (if s.2.1.2.2.2.2.2.2.2.1 < (s.2.2.1.2.2.2.2.2.1 l1).2.1.1 then s.2.1.2.2.2.2.2.2.2.1 else (s.2.2.1.2.2.2.2.2.1 l1).2.1.1))) l1).2.1.2.1 < s.2.1.2.2.2.2.2.2.2.2 then s.2.1.2.2.2.2.2.2.2.2 else ((va_up s.2.2.1.2.2.2.2.2.1 l1 (nRow (s.2.2.1.2.2.2.2.2.1 l1) (if s.2.1.2.2.2.2.2.2.2.1 < (s.2.2.1.2.2.2.2.2.1 l1).2.1.1 then s.2.1.2.2.2.2.2.2.2.1 else (s.2.2.1.2.2.2.2.2.1 l1).2.1.1))) l1).2.1.2.1))) l1 (nLcs ((va_up (va_up s.2.2.1.2.2.2.2.2.1 l1 (nRow (s.2.2.1.2.2.2.2.2.1 l1) (if s.2.1.2.2.2.2.2.2.2.1 < (s.2.2.1.2.2.2.2.2.1 l1).2.1.1 then s.2.1.2.2.2.2.2.2.2.1 else (s.2.2.1.2.2.2.2.2.1 l1).2.1.1))) l1 (nLc ((va_up s.2.2.1.2.2.2.2.2.1 l1 (nRow (s.2.2.1.2.2.2.2.2.1 l1) (if s.2.1.2.2.2.2.2.2.2.1 < (s.2.2.1.2.2.2.2.2.1 l1).2.1.1 then s.2.1.2.2.2.2.2.2.2.1 else (s.2.2.1.2.2.2.2.2.1 l1).2.1.1))) l1) (if ((va_up s.2.2.1.2.2.2.2.2.1 l1 (nRow (s.2.2.1.2.2.2.2.2.1 l1) (if s.2.1.2.2.2.2.2.2.2.1 < (s.2.2.1.2.2.2.2.2.1 l1).2.1.1 then s.2.1.2.2.2.2.2.2.2.1 else (s.2.2.1.2.2.2.2.2.1 l1).2.1.1))) l1).2.1.2.1 < s.2.1.2.2.2.2.2.2.2.2 then s.2.1.2.2.2.2.2.2.2.2 else ((va_up s.2.2.1.2.2.2.2.2.1 l1 (nRow (s.2.2.1.2.2.2.2.2.1 l1) (if s.2.1.2.2.2.2.2.2.2.1 < (s.2.2.1.2.2.2.2.2.1 l1).2.1.1 then s.2.1.2.2.2.2.2.2.2.1 else (s.2.2.1.2.2.2.2.2.1 l1).2.1.1))) l1).2.1.2.1))) l1) s.2.1.2.2.2.2.2.2.1)) l1 (nCs ((va_up (va_up (va_up s.2.2.1.2.2.2.2.2.1 l1 (nRow (s.2.2.1.2.2.2.2.2.1 l1) (if s.2.1.2.2.2.2.2.2.2.1 < (s.2.2.1.2.2.2.2.2.1 l1).2.1.1 then s.2.1.2.2.2.2.2.2.2.1 else (s.2.2.1.2.2.2.2.2.1 l1).2.1.1))) l1 (nLc ((va_up s.2.2.1.2.2.2.2.2.1 l1 (nRow (s.2.2.1.2.2.2.2.2.1 l1) (if s.2.1.2.2.2.2.2.2.2.1 < (s.2.2.1.2.2.2.2.2.1 l1).2.1.1 then s.2.1.2.2.2.2.2.2.2.1 else (s.2.2.1.2.2.2.2.2.1 l1).2.1.1))) l1) (if ((va_up s.2.2.1.2.2.2.2.2.1 l1 (nRow (s.2.2.1.2.2.2.2.2.1 l1) (if s.2.1.2.2.2.2.2.2.2.1 < (s.2.2.1.2.2.2.2.2.1 l1).2.1.1 then s.2.1.2.2.2.2.2.2.2.1 else (s.2.2.1.2.2.2.2.2.1 l1).2.1.1))) l1).2.1.2.1 < s.2.1.2.2.2.2.2.2.2.2 then s.2.1.2.2.2.2.2.2.2.2 else ((va_up s.2.2.1.2.2.2.2.2.1 l1 (nRow (s.2.2.1.2.2.2.2.2.1 l1) (if s.2.1.2.2.2.2.2.2.2.1 < (s.2.2.1.2.2.2.2.2.1 l1).2.1.1 then s.2.1.2.2.2.2.2.2.2.1 else (s.2.2.1.2.2.2.2.2.1 l1).2.1.1))) l1).2.1.2.1))) l1 (nLcs ((va_up (va_up s.2.2.1.2.2.2.2.2.1 l1 (nRow (s.2.2.1.2.2.2.2.2.1 l1) (if s.2.1.2.2.2.2.2.2.2.1 < (s.2.2.1.2.2.2.2.2.1 l1).2.1.1 then s.2.1.2.2.2.2.2.2.2.1 else (s.2.2.1.2.2.2.2.2.1 l1).2.1.1))) l1 (nLc ((va_up s.2.2.1.2.2.2.2.2.1 l1 (nRow (s.2.2.1.2.2.2.2.2.1 l1) (if s.2.1.2.2.2.2.2.2.2.1 < (s.2.2.1.2.2.2.2.2.1 l1).2.1.1 then s.2.1.2.2.2.2.2.2.2.1 else (s.2.2.1.2.2.2.2.2.1 l1).2.1.1))) l1) (if ((va_up s.2.2.1.2.2.2.2.2.1 l1 (nRow (s.2.2.1.2.2.2.2.2.1 l1) (if s.2.1.2.2.2.2.2.2.2.1 < (s.2.2.1.2.2.2.2.2.1 l1).2.1.1 then s.2.1.2.2.2.2.2.2.2.1 else (s.2.2.1.2.2.2.2.2.1 l1).2.1.1))) l1).2.1.2.1 < s.2.1.2.2.2.2.2.2.2.2 then s.2.1.2.2.2.2.2.2.2.2 else ((va_up s.2.2.1.2.2.2.2.2.1 l1 (nRow (s.2.2.1.2.2.2.2.2.1 l1) (if s.2.1.2.2.2.2.2.2.2.1 < (s.2.2.1.2.2.2.2.2.1 l1).2.1.1 then s.2.1.2.2.2.2.2.2.2.1 else (s.2.2.1.2.2.2.2.2.1 l1).2.1.1))) l1).2.1.2.1))) l1) s.2.1.2.2.2.2.2.2.1)) l1) s.2.1.2.2.2.2.2.2.1)) l1 (nCol ((va_up (va_up (va_up (va_up s.2.2.1.2.2.2.2.2.1 l1 (nRow (s.2.2.1.2.2.2.2.2.1 l1) (if s.2.1.2.2.2.2.2.2.2.1 < (s.2.2.1.2.2.2.2.2.1 l1).2.1.1 then s.2.1.2.2.2.2.2.2.2.1 else (s.2.2.1.2.2.2.2.2.1 l1).2.1.1))) l1 (nLc ((va_up s.2.2.1.2.2.2.2.2.1 l1 (nRow (s.2.2.1.2.2.2.2.2.1 l1) (if s.2.1.2.2.2.2.2.2.2.1 < (s.2.2.1.2.2.2.2.2.1 l1).2.1.1 then s.2.1.2.2.2.2.2.2.2.1 else (s.2.2.1.2.2.2.2.2.1 l1).2.1.1))) l1) (if ((va_up s.2.2.1.2.2.2.2.2.1 l1 (nRow (s.2.2.1.2.2.2.2.2.1 l1) (if s.2.1.2.2.2.2.2.2.2.1 < (s.2.2.1.2.2.2.2.2.1 l1).2.1.1 then s.2.1.2.2.2.2.2.2.2.1 else (s.2.2.1.2.2.2.2.2.1 l1).2.1.1))) l1).2.1.2.1 < s.2.1.2.2.2.2.2.2.2.2 then s.2.1.2.2.2.2.2.2.2.2 else ((va_up s.2.2.1.2.2.2.2.2.1 l1 (nRow (s.2.2.1.2.2.2.2.2.1 l1) (if s.2.1.2.2.2.2.2.2.2.1 < (s.2.2.1.2.2.2.2.2.1 l1).2.1.1 then s.2.1.2.2.2.2.2.2.2.1 else (s.2.2.1.2.2.2.2.2.1 l1).2.1.1))) l1).2.1.2.1))) l1 (nLcs ((va_up (va_up s.2.2.1.2.2.2.2.2.1 l1 (nRow (s.2.2.1.2.2.2.2.2.1 l1) (if s.2.1.2.2.2.2.2.2.2.1 < (s.2.2.1.2.2.2.2.2.1 l1).2.1.1 then s.2.1.2.2.2.2.2.2.2.1 else (s.2.2.1.2.2.2.2.2.1 l1).2.1.1))) l1 (nLc ((va_up s.2.2.1.2.2.2.2.2.1 l1 (nRow (s.2.2.1.2.2.2.2.2.1 l1) (if s.2.1.2.2.2.2.2.2.2.1 < (s.2.2.1.2.2.2.2.2.1 l1).2.1.1 then s.2.1.2.2.2.2.2.2.2.1 else (s.2.2.1.2.2.2.2.2.1 l1).2.1.1))) l1) (if ((va_up s.2.2.1.2.2.2.2.2.1 l1 (nRow (s.2.2.1.2.2.2.2.2.1 l1) (if s.2.1.2.2.2.2.2.2.2.1 < (s.2.2.1.2.2.2.2.2.1 l1).2.1.1 then s.2.1.2.2.2.2.2.2.2.1 else (s.2.2.1.2.2.2.2.2.1 l1).2.1.1))) l1).2.1.2.1 < s.2.1.2.2.2.2.2.2.2.2 then s.2.1.2.2.2.2.2.2.2.2 else ((va_up s.2.2.1.2.2.2.2.2.1 l1 (nRow (s.2.2.1.2.2.2.2.2.1 l1) (if s.2.1.2.2.2.2.2.2.2.1 < (s.2.2.1.2.2.2.2.2.1 l1).2.1.1 then s.2.1.2.2.2.2.2.2.2.1 else (s.2.2.1.2.2.2.2.2.1 l1).2.1.1))) l1).2.1.2.1))) l1) s.2.1.2.2.2.2.2.2.1)) l1 (nCs ((va_up (va_up (va_up s.2.2.1.2.2.2.2.2.1 l1 (nRow (s.2.2.1.2.2.2.2.2.1 l1) (if s.2.1.2.2.2.2.2.2.2.1 < (s.2.2.1.2.2.2.2.2.1 l1).2.1.1 then s.2.1.2.2.2.2.2.2.2.1 else (s.2.2.1.2.2.2.2.2.1 l1).2.1.1))) l1 (nLc ((va_up s.2.2.1.2.2.2.2.2.1 l1 (nRow (s.2.2.1.2.2.2.2.2.1 l1) (if s.2.1.2.2.2.2.2.2.2.1 < (s.2.2.1.2.2.2.2.2.1 l1).2.1.1 then s.2.1.2.2.2.2.2.2.2.1 else (s.2.2.1.2.2.2.2.2.1 l1).2.1.1))) l1) (if ((va_up s.2.2.1.2.2.2.2.2.1 l1 (nRow (s.2.2.1.2.2.2.2.2.1 l1) (if s.2.1.2.2.2.2.2.2.2.1 < (s.2.2.1.2.2.2.2.2.1 l1).2.1.1 then s.2.1.2.2.2.2.2.2.2.1 else (s.2.2.1.2.2.2.2.2.1 l1).2.1.1))) l1).2.1.2.1 < s.2.1.2.2.2.2.2.2.2.2 then s.2.1.2.2.2.2.2.2.2.2 else ((va_up s.2.2.1.2.2.2.2.2.1 l1 (nRow (s.2.2.1.2.2.2.2.2.1 l1) (if s.2.1.2.2.2.2.2.2.2.1 < (s.2.2.1.2.2.2.2.2.1 l1).2.1.1 then s.2.1.2.2.2.2.2.2.2.1 else (s.2.2.1.2.2.2.2.2.1 l1).2.1.1))) l1).2.1.2.1))) l1 (nLcs ((va_up (va_up s.2.2.1.2.2.2.2.2.1 l1 (nRow (s.2.2.1.2.2.2.2.2.1 l1) (if s.2.1.2.2.2.2.2.2.2.1 < (s.2.2.1.2.2.2.2.2.1 l1).2.1.1 then s.2.1.2.2.2.2.2.2.2.1 else (s.2.2.1.2.2.2.2.2.1 l1).2.1.1))) l1 (nLc ((va_up s.2.2.1.2.2.2.2.2.1 l1 (nRow (s.2.2.1.2.2.2.2.2.1 l1) (if s.2.1.2.2.2.2.2.2.2.1 < (s.2.2.1.2.2.2.2.2.1 l1).2.1.1 then s.2.1.2.2.2.2.2.2.2.1 else (s.2.2.1.2.2.2.2.2.1 l1).2.1.1))) l1) (if ((va_up s.2.2.1.2.2.2.2.2.1 l1 (nRow (s.2.2.1.2.2.2.2.2.1 l1) (if s.2.1.2.2.2.2.2.2.2.1 < (s.2.2.1.2.2.2.2.2.1 l1).2.1.1 then s.2.1.2.2.2.2.2.2.2.1 else (s.2.2.1.2.2.2.2.2.1 l1).2.1.1))) l1).2.1.2.1 < s.2.1.2.2.2.2.2.2.2.2 then s.2.1.2.2.2.2.2.2.2.2 else ((va_up s.2.2.1.2.2.2.2.2.1 l1 (nRow (s.2.2.1.2.2.2.2.2.1 l1) (if s.2.1.2.2.2.2.2.2.2.1 < (s.2.2.1.2.2.2.2.2.1 l1).2.1.1 then s.2.1.2.2.2.2.2.2.2.1 else (s.2.2.1.2.2.2.2.2.1 l1).2.1.1))) l1).2.1.2.1))) l1) s.2.1.2.2.2.2.2.2.1)) l1) s.2.1.2.2.2.2.2.2.1)) l1) (if s.2.1.2.2.2.2.2.2.2.2 < ((va_up (va_up (va_up (va_up s.2.2.1.2.2.2.2.2.1 l1 (nRow (s.2.2.1.2.2.2.2.2.1 l1) (if s.2.1.2.2.2.2.2.2.2.1 < (s.2.2.1.2.2.2.2.2.1 l1).2.1.1 then s.2.1.2.2.2.2.2.2.2.1 else (s.2.2.1.2.2.2.2.2.1 l1).2.1.1))) l1 (nLc ((va_up s.2.2.1.2.2.2.2.2.1 l1 (nRow (s.2.2.1.2.2.2.2.2.1 l1) (if s.2.1.2.2.2.2.2.2.2.1 < (s.2.2.1.2.2.2.2.2.1 l1).2.1.1 then s.2.1.2.2.2.2.2.2.2.1 else (s.2.2.1.2.2.2.2.2.1 l1).2.1.1))) l1) (if ((va_up s.2.2.1.2.2.2.2.2.1 l1 (nRow (s.2.2.1.2.2.2.2.2.1 l1) (if s.2.1.2.2.2.2.2.2.2.1 < (s.2.2.1.2.2.2.2.2.1 l1).2.1.1 then s.2.1.2.2.2.2.2.2.2.1 else (s.2.2.1.2.2.2.2.2.1 l1).2.1.1))) l1).2.1.2.1 < s.2.1.2.2.2.2.2.2.2.2 then s.2.1.2.2.2.2.2.2.2.2 else ((va_up s.2.2.1.2.2.2.2.2.1 l1 (nRow (s.2.2.1.2.2.2.2.2.1 l1) (if s.2.1.2.2.2.2.2.2.2.1 < (s.2.2.1.2.2.2.2.2.1 l1).2.1.1 then s.2.1.2.2.2.2.2.2.2.1 else (s.2.2.1.2.2.2.2.2.1 l1).2.1.1))) l1).2.1.2.1))) l1 (nLcs ((va_up (va_up s.2.2.1.2.2.2.2.2.1 l1 (nRow (s.2.2.1.2.2.2.2.2.1 l1) (if s.2.1.2.2.2.2.2.2.2.1 < (s.2.2.1.2.2.2.2.2.1 l1).2.1.1 then s.2.1.2.2.2.2.2.2.2.1 else (s.2.2.1.2.2.2.2.2.1 l1).2.1.1))) l1 (nLc ((va_up s.2.2.1.2.2.2.2.2.1 l1 (nRow (s.2.2.1.2.2.2.2.2.1 l1) (if s.2.1.2.2.2.2.2.2.2.1 < (s.2.2.1.2.2.2.2.2.1 l1).2.1.1 then s.2.1.2.2.2.2.2.2.2.1 else (s.2.2.1.2.2.2.2.2.1 l1).2.1.1))) l1) (if ((va_up s.2.2.1.2.2.2.2.2.1 l1 (nRow (s.2.2.1.2.2.2.2.2.1 l1) (if s.2.1.2.2.2.2.2.2.2.1 < (s.2.2.1.2.2.2.2.2.1 l1).2.1.1 then s.2.1.2.2.2.2.2.2.2.1 else (s.2.2.1.2.2.2.2.2.1 l1).2.1.1))) l1).2.1.2.1 < s.2.1.2.2.2.2.2.2.2.2 then s.2.1.2.2.2.2.2.2.2.2 else ((va_up s.2.2.1.2.2.2.2.2.1 l1 (nRow (s.2.2.1.2.2.2.2.2.1 l1) (if s.2.1.2.2.2.2.2.2.2.1 < (s.2.2.1.2.2.2.2.2.1 l1).2.1.1 then s.2.1.2.2.2.2.2.2.2.1 else (s.2.2.1.2.2.2.2.2.1 l1).2.1.1))) l1).2.1.2.1))) l1) s.2.1.2.2.2.2.2.2.1)) l1 (nCs ((va_up (va_up (va_up s.2.2.1.2.2.2.2.2.1 l1 (nRow (s.2.2.1.2.2.2.2.2.1 l1) (if s.2.1.2.2.2.2.2.2.2.1 < (s.2.2.1.2.2.2.2.2.1 l1).2.1.1 then s.2.1.2.2.2.2.2.2.2.1 else (s.2.2.1.2.2.2.2.2.1 l1).2.1.1))) l1 (nLc ((va_up s.2.2.1.2.2.2.2.2.1 l1 (nRow (s.2.2.1.2.2.2.2.2.1 l1) (if s.2.1.2.2.2.2.2.2.2.1 < (s.2.2.1.2.2.2.2.2.1 l1).2.1.1 then s.2.1.2.2.2.2.2.2.2.1 else (s.2.2.1.2.2.2.2.2.1 l1).2.1.1))) l1) (if ((va_up s.2.2.1.2.2.2.2.2.1 l1 (nRow (s.2.2.1.2.2.2.2.2.1 l1) (if s.2.1.2.2.2.2.2.2.2.1 < (s.2.2.1.2.2.2.2.2.1 l1).2.1.1 then s.2.1.2.2.2.2.2.2.2.1 else (s.2.2.1.2.2.2.2.2.1 l1).2.1.1))) l1).2.1.2.1 < s.2.1.2.2.2.2.2.2.2.2 then s.2.1.2.2.2.2.2.2.2.2 else ((va_up s.2.2.1.2.2.2.2.2.1 l1 (nRow (s.2.2.1.2.2.2.2.2.1 l1) (if s.2.1.2.2.2.2.2.2.2.1 < (s.2.2.1.2.2.2.2.2.1 l1).2.1.1 then s.2.1.2.2.2.2.2.2.2.1 else (s.2.2.1.2.2.2.2.2.1 l1).2.1.1))) l1).2.1.2.1))) l1 (nLcs ((va_up (va_up s.2.2.1.2.2.2.2.2.1 l1 (nRow (s.2.2.1.2.2.2.2.2.1 l1) (if s.2.1.2.2.2.2.2.2.2.1 < (s.2.2.1.2.2.2.2.2.1 l1).2.1.1 then s.2.1.2.2.2.2.2.2.2.1 else (s.2.2.1.2.2.2.2.2.1 l1).2.1.1))) l1 (nLc ((va_up s.2.2.1.2.2.2.2.2.1 l1 (nRow (s.2.2.1.2.2.2.2.2.1 l1) (if s.2.1.2.2.2.2.2.2.2.1 < (s.2.2.1.2.2.2.2.2.1 l1).2.1.1 then s.2.1.2.2.2.2.2.2.2.1 else (s.2.2.1.2.2.2.2.2.1 l1).2.1.1))) l1) (if ((va_up s.2.2.1.2.2.2.2.2.1 l1 (nRow (s.2.2.1.2.2.2.2.2.1 l1) (if s.2.1.2.2.2.2.2.2.2.1 < (s.2.2.1.2.2.2.2.2.1 l1).2.1.1 then s.2.1.2.2.2.2.2.2.2.1 else (s.2.2.1.2.2.2.2.2.1 l1).2.1.1))) l1).2.1.2.1 < s.2.1.2.2.2.2.2.2.2.2 then s.2.1.2.2.2.2.2.2.2.2 else ((va_up s.2.2.1.2.2.2.2.2.1 l1 (nRow (s.2.2.1.2.2.2.2.2.1 l1) (if s.2.1.2.2.2.2.2.2.2.1 < (s.2.2.1.2.2.2.2.2.1 l1).2.1.1 then s.2.1.2.2.2.2.2.2.2.1 else (s.2.2.1.2.2.2.2.2.1 l1).2.1.1))) l1).2.1.2.1))) l1) s.2.1.2.2.2.2.2.2.1)) l1) s.2.1.2.2.2.2.2.2.1)) l1).2.1.2.1 then s.2.1.2.2.2.2.2.2.2.2 else ((va_up (va_up (va_up (va_up s.2.2.1.2.2.2.2.2.1 l1 (nRow (s.2.2.1.2.2.2.2.2.1 l1) (if s.2.1.2.2.2.2.2.2.2.1 < (s.2.2.1.2.2.2.2.2.1 l1).2.1.1 then s.2.1.2.2.2.2.2.2.2.1 else (s.2.2.1.2.2.2.2.2.1 l1).2.1.1))) l1 (nLc ((va_up s.2.2.1.2.2.2.2.2.1 l1 (nRow (s.2.2.1.2.2.2.2.2.1 l1) (if s.2.1.2.2.2.2.2.2.2.1 < (s.2.2.1.2.2.2.2.2.1 l1).2.1.1 then s.2.1.2.2.2.2.2.2.2.1 else (s.2.2.1.2.2.2.2.2.1 l1).2.1.1))) l1) (if ((va_up s.2.2.1.2.2.2.2.2.1 l1 (nRow (s.2.2.1.2.2.2.2.2.1 l1) (if s.2.1.2.2.2.2.2.2.2.1 < (s.2.2.1.2.2.2.2.2.1 l1).2.1.1 then s.2.1.2.2.2.2.2.2.2.1 else (s.2.2.1.2.2.2.2.2.1 l1).2.1.1))) l1).2.1.2.1 < s.2.1.2.2.2.2.2.2.2.2 then s.2.1.2.2.2.2.2.2.2.2 else ((va_up s.2.2.1.2.2.2.2.2.1 l1 (nRow (s.2.2.1.2.2.2.2.2.1 l1) (if s.2.1.2.2.2.2.2.2.2.1 < (s.2.2.1.2.2.2.2.2.1 l1).2.1.1 then s.2.1.2.2.2.2.2.2.2.1 else (s.2.2.1.2.2.2.2.2.1 l1).2.1.1))) l1).2.1.2.1))) l1 (nLcs ((va_up (va_up s.2.2.1.2.2.2.2.2.1 l1 (nRow (s.2.2.1.2.2.2.2.2.1 l1) (if s.2.1.2.2.2.2.2.2.2.1 < (s.2.2.1.2.2.2.2.2.1 l1).2.1.1 then s.2.1.2.2.2.2.2.2.2.1 else (s.2.2.1.2.2.2.2.2.1 l1).2.1.1))) l1 (nLc ((va_up s.2.2.1.2.2.2.2.2.1 l1 (nRow (s.2.2.1.2.2.2.2.2.1 l1) (if s.2.1.2.2.2.2.2.2.2.1 < (s.2.2.1.2.2.2.2.2.1 l1).2.1.1 then s.2.1.2.2.2.2.2.2.2.1 else (s.2.2.1.2.2.2.2.2.1 l1).2.1.1))) l1) (if ((va_up s.2.2.1.2.2.2.2.2.1 l1 (nRow (s.2.2.1.2.2.2.2.2.1 l1) (if s.2.1.2.2.2.2.2.2.2.1 < (s.2.2.1.2.2.2.2.2.1 l1).2.1.1 then s.2.1.2.2.2.2.2.2.2.1 else (s.2.2.1.2.2.2.2.2.1 l1).2.1.1))) l1).2.1.2.1 < s.2.1.2.2.2.2.2.2.2.2 then s.2.1.2.2.2.2.2.2.2.2 else ((va_up s.2.2.1.2.2.2.2.2.1 l1 (nRow (s.2.2.1.2.2.2.2.2.1 l1) (if s.2.1.2.2.2.2.2.2.2.1 < (s.2.2.1.2.2.2.2.2.1 l1).2.1.1 then s.2.1.2.2.2.2.2.2.2.1 else (s.2.2.1.2.2.2.2.2.1 l1).2.1.1))) l1).2.1.2.1))) l1) s.2.1.2.2.2.2.2.2.1)) l1 (nCs ((va_up (va_up (va_up s.2.2.1.2.2.2.2.2.1 l1 (nRow (s.2.2.1.2.2.2.2.2.1 l1) (if s.2.1.2.2.2.2.2.2.2.1 < (s.2.2.1.2.2.2.2.2.1 l1).2.1.1 then s.2.1.2.2.2.2.2.2.2.1 else (s.2.2.1.2.2.2.2.2.1 l1).2.1.1))) l1 (nLc ((va_up s.2.2.1.2.2.2.2.2.1 l1 (nRow (s.2.2.1.2.2.2.2.2.1 l1) (if s.2.1.2.2.2.2.2.2.2.1 < (s.2.2.1.2.2.2.2.2.1 l1).2.1.1 then s.2.1.2.2.2.2.2.2.2.1 else (s.2.2.1.2.2.2.2.2.1 l1).2.1.1))) l1) (if ((va_up s.2.2.1.2.2.2.2.2.1 l1 (nRow (s.2.2.1.2.2.2.2.2.1 l1) (if s.2.1.2.2.2.2.2.2.2.1 < (s.2.2.1.2.2.2.2.2.1 l1).2.1.1 then s.2.1.2.2.2.2.2.2.2.1 else (s.2.2.1.2.2.2.2.2.1 l1).2.1.1))) l1).2.1.2.1 < s.2.1.2.2.2.2.2.2.2.2 then s.2.1.2.2.2.2.2.2.2.2 else ((va_up s.2.2.1.2.2.2.2.2.1 l1 (nRow (s.2.2.1.2.2.2.2.2.1 l1) (if s.2.1.2.2.2.2.2.2.2.1 < (s.2.2.1.2.2.2.2.2.1 l1).2.1.1 then s.2.1.2.2.2.2.2.2.2.1 else (s.2.2.1.2.2.2.2.2.1 l1).2.1.1))) l1).2.1.2.1))) l1 (nLcs ((va_up (va_up s.2.2.1.2.2.2.2.2.1 l1 (nRow (s.2.2.1.2.2.2.2.2.1 l1) (if s.2.1.2.2.2.2.2.2.2.1 < (s.2.2.1.2.2.2.2.2.1 l1).2.1.1 then s.2.1.2.2.2.2.2.2.2.1 else (s.2.2.1.2.2.2.2.2.1 l1).2.1.1))) l1 (nLc ((va_up s.2.2.1.2.2.2.2.2.1 l1 (nRow (s.2.2.1.2.2.2.2.2.1 l1) (if s.2.1.2.2.2.2.2.2.2.1 < (s.2.2.1.2.2.2.2.2.1 l1).2.1.1 then s.2.1.2.2.2.2.2.2.2.1 else (s.2.2.1.2.2.2.2.2.1 l1).2.1.1))) l1) (if ((va_up s.2.2.1.2.2.2.2.2.1 l1 (nRow (s.2.2.1.2.2.2.2.2.1 l1) (if s.2.1.2.2.2.2.2.2.2.1 < (s.2.2.1.2.2.2.2.2.1 l1).2.1.1 then s.2.1.2.2.2.2.2.2.2.1 else (s.2.2.1.2.2.2.2.2.1 l1).2.1.1))) l1).2.1.2.1 < s.2.1.2.2.2.2.2.2.2.2 then s.2.1.2.2.2.2.2.2.2.2 else ((va_up s.2.2.1.2.2.2.2.2.1 l1 (nRow (s.2.2.1.2.2.2.2.2.1 l1) (if s.2.1.2.2.2.2.2.2.2.1 < (s.2.2.1.2.2.2.2.2.1 l1).2.1.1 then s.2.1.2.2.2.2.2.2.2.1 else (s.2.2.1.2.2.2.2.2.1 l1).2.1.1))) l1).2.1.2.1))) l1) s.2.1.2.2.2.2.2.2.1)) l1) s.2.1.2.2.2.2.2.2.1)) l1).2.1.2.1))), s.2.2.1.2.2.2.2.2.2), s.2.2.2))))) else (if ((va_up (va_up (va_up s.2.2.1.2.2.2.2.2.1 l1 (nRow (s.2.2.1.2.2.2.2.2.1 l1) (if s.2.1.2.2.2.2.2.2.2.1 < (s.2.2.1.2.2.2.2.2.1 l1).2.1.1 then s.2.1.2.2.2.2.2.2.2.1 else (s.2.2.1.2.2.2.2.2.1 l1).2.1.1))) l1 (nLc ((va_up s.2.2.1.2.2.2.2.2.1 l1 (nRow (s.2.2.1.2.2.2.2.2.1 l1) (if s.2.1.2.2.2.2.2.2.2.1 < (s.2.2.1.2.2.2.2.2.1 l1).2.1.1 then s.2.1.2.2.2.2.2.2.2.1 else (s.2.2.1.2.2.2.2.2.1 l1).2.1.1))) l1) (if ((va_up s.2.2.1.2.2.2.2.2.1 l1 (nRow (s.2.2.1.2.2.2.2.2.1 l1) (if s.2.1.2.2.2.2.2.2.2.1 < (s.2.2.1.2.2.2.2.2.1 l1).2.1.1 then s.2.1.2.2.2.2.2.2.2.1 else (s.2.2.1.2.2.2.2.2.1 l1).2.1.1))) l1).2.1.2.1 < s.2.1.2.2.2.2.2.2.2.2 then s.2.1.2.2.2.2.2.2.2.2 else ((va_up s.2.2.1.2.2.2.2.2.1 l1 (nRow (s.2.2.1.2.2.2.2.2.1 l1) (if s.2.1.2.2.2.2.2.2.2.1 < (s.2.2.1.2.2.2.2.2.1 l1).2.1.1 then s.2.1.2.2.2.2.2.2.2.1 else (s.2.2.1.2.2.2.2.2.1 l1).2.1.1))) l1).2.1.2.1))) l1 (nLcs ((va_up (va_up s.2.2.1.2.2.2.2.2.1 l1 (nRow (s.2.2.1.2.2.2.2.2.1 l1) (if s.2.1.2.2.2.2.2.2.2.1 < (s.2.2.1.2.2.2.2.2.1 l1).2.1.1 then s.2.1.2.2.2.2.2.2.2.1 else (s.2.2.1.2.2.2.2.2.1 l1).2.1.1))) l1 (nLc ((va_up s.2.2.1.2.2.2.2.2.1 l1 (nRow (s.2.2.1.2.2.2.2.2.1 l1) (if s.2.1.2.2.2.2.2.2.2.1 < (s.2.2.1.2.2.2.2.2.1 l1).2.1.1 then s.2.1.2.2.2.2.2.2.2.1 else (s.2.2.1.2.2.2.2.2.1 l1).2.1.1))) l1) (if ((va_up s.2.2.1.2.2.2.2.2.1 l1 (nRow (s.2.2.1.2.2.2.2.2.1 l1) (if s.2.1.2.2.2.2.2.2.2.1 < (s.2.2.1.2.2.2.2.2.1 l1).2.1.1 then s.2.1.2.2.2.2.2.2.2.1 else (s.2.2.1.2.2.2.2.2.1 l1).2.1.1))) l1).2.1.2.1 < s.2.1.2.2.2.2.2.2.2.2 then s.2.1.2.2.2.2.2.2.2.2 else ((va_up s.2.2.1.2.2.2.2.2.1 l1 (nRow (s.2.2.1.2.2.2.2.2.1 l1) (if s.2.1.2.2.2.2.2.2.2.1 < (s.2.2.1.2.2.2.2.2.1 l1).2.1.1 then s.2.1.2.2.2.2.2.2.2.1 else (s.2.2.1.2.2.2.2.2.1 l1).2.1.1))) l1).2.1.2.1))) l1) (((va_up (va_up s.2.2.1.2.2.2.2.2.1 l1 (nRow (s.2.2.1.2.2.2.2.2.1 l1) (if s.2.1.2.2.2.2.2.2.2.1 < (s.2.2.1.2.2.2.2.2.1 l1).2.1.1 then s.2.1.2.2.2.2.2.2.2.1 else (s.2.2.1.2.2.2.2.2.1 l1).2.1.1))) l1 (nLc ((va_up s.2.2.1.2.2.2.2.2.1 l1 (nRow (s.2.2.1.2.2.2.2.2.1 l1) (if s.2.1.2.2.2.2.2.2.2.1 < (s.2.2.1.2.2.2.2.2.1 l1).2.1.1 then s.2.1.2.2.2.2.2.2.2.1 else (s.2.2.1.2.2.2.2.2.1 l1).2.1.1))) l1) (if ((va_up s.2.2.1.2.2.2.2.2.1 l1 (nRow (s.2.2.1.2.2.2.2.2.1 l1) (if s.2.1.2.2.2.2.2.2.2.1 < (s.2.2.1.2.2.2.2.2.1 l1).2.1.1 then s.2.1.2.2.2.2.2.2.2.1 else (s.2.2.1.2.2.2.2.2.1 l1).2.1.1))) l1).2.1.2.1 < s.2.1.2.2.2.2.2.2.2.2 then s.2.1.2.2.2.2.2.2.2.2 else ((va_up s.2.2.1.2.2.2.2.2.1 l1 (nRow (s.2.2.1.2.2.2.2.2.1 l1) (if s.2.1.2.2.2.2.2.2.2.1 < (s.2.2.1.2.2.2.2.2.1 l1).2.1.1 then s.2.1.2.2.2.2.2.2.2.1 else (s.2.2.1.2.2.2.2.2.1 l1).2.1.1))) l1).2.1.2.1))) l1).2.1.2.2.2.1))) l1).2.1.2.1 ≤ s.2.1.2.2.2.2.2.2.2.2 then (some (.inl (l1, (s.1, (s.2.1.1, s.2.1.2.2.2.2.1, s.2.1.2.2), (s.2.2.1.1, s.2.2.1.2.1, s.2.2.1.2.2.1, s.2.2.1.2.2.2.1, s.2.2.1.2.2.2.2.1, (va_up (va_up (va_up (va_up s.2.2.1.2.2.2.2.2.1 l1 (nRow (s.2.2.1.2.2.2.2.2.1 l1) (if s.2.1.2.2.2.2.2.2.2.1 < (s.2.2.1.2.2.2.2.2.1 l1).2.1.1 then s.2.1.2.2.2.2.2.2.2.1 else (s.2.2.1.2.2.2.2.2.1 l1).2.1.1))) l1 (nLc ((va_up s.2.2.1.2.2.2.2.2.1 l1 (nRow (s.2.2.1.2.2.2.2.2.1 l1) (if s.2.1.2.2.2.2.2.2.2.1 < (s.2.2.1.2.2.2.2.2.1 l1).2.1.1 then s.2.1.2.2.2.2.2.2.2.1 else (s.2.2.1.2.2.2.2.2.1 l1).2.1.1))) l1) (if ((va_up s.2.2.1.2.2.2.2.2.1 l1 (nRow (s.2.2.1.2.2.2.2.2.1 l1) (if s.2.1.2.2.2.2.2.2.2.1 < (s.2.2.1.2.2.2.2.2.1 l1).2.1.1 then s.2.1.2.2.2.2.2.2.2.1 else (s.2.2.1.2.2.2.2.2.1 l1).2.1.1))) l1).2.1.2.1 < s.2.1.2.2.2.2.2.2.2.2 then s.2.1.2.2.2.2.2.2.2.2 else ((va_up s.2.2.1.2.2.2.2.2.1 l1 (nRow (s.2.2.1.2.2.2.2.2.1 l1) (if s.2.1.2.2.2.2.2.2.2.1 < (s.2.2.1.2.2.2.2.2.1 l1).2.1.1 then s.2.1.2.2.2.2.2.2.2.1 else (s.2.2.1.2.2.2.2.2.1 l1).2.1.1))) l1).2.1.2.1))) l1 (nLcs ((va_up (va_up s.2.2.1.2.2.2.2.2.1 l1 (nRow (s.2.2.1.2.2.2.2.2.1 l1) (if s.2.1.2.2.2.2.2.2.2.1 < (s.2.2.1.2.2.2.2.2.1 l1).2.1.1 then s.2.1.2.2.2.2.2.2.2.1 else (s.2.2.1.2.2.2.2.2.1 l1).2.1.1))) l1 (nLc ((va_up s.2.2.1.2.2.2.2.2.1 l1 (nRow (s.2.2.1.2.2.2.2.2.1 l1) (if s.2.1.2.2.2.2.2.2.2.1 < (s.2.2.1.2.2.2.2.2.1 l1).2.1.1 then s.2.1.2.2.2.2.2.2.2.1 else (s.2.2.1.2.2.2.2.2.1 l1).2.1.1))) l1) (if ((va_up s.2.2.1.2.2.2.2.2.1 l1 (nRow (s.2.2.1.2.2.2.2.2.1 l1) (if s.2.1.2.2.2.2.2.2.2.1 < (s.2.2.1.2.2.2.2.2.1 l1).2.1.1 then s.2.1.2.2.2.2.2.2.2.1 else (s.2.2.1.2.2.2.2.2.1 l1).2.1.1))) l1).2.1.2.1 < s.2.1.2.2.2.2.2.2.2.2 then s.2.1.2.2.2.2.2.2.2.2 else ((va_up s.2.2.1.2.2.2.2.2.1 l1 (nRow (s.2.2.1.2.2.2.2.2.1 l1) (if s.2.1.2.2.2.2.2.2.2.1 < (s.2.2.1.2.2.2.2.2.1 l1).2.1.1 then s.2.1.2.2.2.2.2.2.2.1 else (s.2.2.1.2.2.2.2.2.1 l1).2.1.1))) l1).2.1.2.1))) l1) (((va_up (va_up s.2.2.1.2.2.2.2.2.1 l1 (nRow (s.2.2.1.2.2.2.2.2.1 l1) (if s.2.1.2.2.2.2.2.2.2.1 < (s.2.2.1.2.2.2.2.2.1 l1).2.1.1 then s.2.1.2.2.2.2.2.2.2.1 else (s.2.2.1.2.2.2.2.2.1 l1).2.1.1))) l1 (nLc ((va_up s.2.2.1.2.2.2.2.2.1 l1 (nRow (s.2.2.1.2.2.2.2.2.1 l1) (if s.2.1.2.2.2.2.2.2.2.1 < (s.2.2.1.2.2.2.2.2.1 l1).2.1.1 then s.2.1.2.2.2.2.2.2.2.1 else (s.2.2.1.2.2.2.2.2.1 l1).2.1.1))) l1) (if ((va_up s.2.2.1.2.2.2.2.2.1 l1 (nRow (s.2.2.1.2.2.2.2.2.1 l1) (if s.2.1.2.2.2.2.2.2.2.1 < (s.2.2.1.2.2.2.2.2.1 l1).2.1.1 then s.2.1.2.2.2.2.2.2.2.1 else (s.2.2.1.2.2.2.2.2.1 l1).2.1.1))) l1).2.1.2.1 < s.2.1.2.2.2.2.2.2.2.2 then s.2.1.2.2.2.2.2.2.2.2 else ((va_up s.2.2.1.2.2.2.2.2.1 l1 (nRow (s.2.2.1.2.2.2.2.2.1 l1) (if s.2.1.2.2.2.2.2.2.2.1 < (s.2.2.1.2.2.2.2.2.1 l1).2.1.1 then s.2.1.2.2.2.2.2.2.2.1 else (s.2.2.1.2.2.2.2.2.1 l1).2.1.1))) l1).2.1.2.1))) l1).2.1.2.2.2.1))) l1 (nCol ((va_up (va_up (va_up s.2.2.1.2.2.2.2.2.1 l1 (nRow (s.2.2.1.2.2.2.2.2.1 l1) (if s.2.1.2.2.2.2.2.2.2.1 < (s.2.2.1.2.2.2.2.2.1 l1).2.1.1 then s.2.1.2.2.2.2.2.2.2.1 else (s.2.2.1.2.2.2.2.2.1 l1).2.1.1))) l1 (nLc ((va_up s.2.2.1.2.2.2.2.2.1 l1 (nRow (s.2.2.1.2.2.2.2.2.1 l1) (if s.2.1.2.2.2.2.2.2.2.1 < (s.2.2.1.2.2.2.2.2.1 l1).2.1.1 then s.2.1.2.2.2.2.2.2.2.1 else (s.2.2.1.2.2.2.2.2.1 l1).2.1.1))) l1) (if ((va_up s.2.2.1.2.2.2.2.2.1 l1 (nRow (s.2.2.1.2.2.2.2.2.1 l1) (if s.2.1.2.2.2.2.2.2.2.1 < (s.2.2.1.2.2.2.2.2.1 l1).2.1.1 then s.2.1.2.2.2.2.2.2.2.1 else (s.2.2.1.2.2.2.2.2.1 l1).2.1.1))) l1).2.1.2.1 < s.2.1.2.2.2.2.2.2.2.2 then s.2.1.2.2.2.2.2.2.2.2 else ((va_up s.2.2.1.2.2.2.2.2.1 l1 (nRow (s.2.2.1.2.2.2.2.2.1 l1) (if s.2.1.2.2.2.2.2.2.2.1 < (s.2.2.1.2.2.2.2.2.1 l1).2.1.1 then s.2.1.2.2.2.2.2.2.2.1 else (s.2.2.1.2.2.2.2.2.1 l1).2.1.1))) l1).2.1.2.1))) l1 (nLcs ((va_up (va_up s.2.2.1.2.2.2.2.2.1 l1 (nRow (s.2.2.1.2.2.2.2.2.1 l1) (if s.2.1.2.2.2.2.2.2.2.1 < (s.2.2.1.2.2.2.2.2.1 l1).2.1.1 then s.2.1.2.2.2.2.2.2.2.1 else (s.2.2.1.2.2.2.2.2.1 l1).2.1.1))) l1 (nLc ((va_up s.2.2.1.2.2.2.2.2.1 l1 (nRow (s.2.2.1.2.2.2.2.2.1 l1) (if s.2.1.2.2.2.2.2.2.2.1 < (s.2.2.1.2.2.2.2.2.1 l1).2.1.1 then s.2.1.2.2.2.2.2.2.2.1 else (s.2.2.1.2.2.2.2.2.1 l1).2.1.1))) l1) (if ((va_up s.2.2.1.2.2.2.2.2.1 l1 (nRow (s.2.2.1.2.2.2.2.2.1 l1) (if s.2.1.2.2.2.2.2.2.2.1 < (s.2.2.1.2.2.2.2.2.1 l1).2.1.1 then s.2.1.2.2.2.2.2.2.2.1 else (s.2.2.1.2.2.2.2.2.1 l1).2.1.1))) l1).2.1.2.1 < s.2.1.2.2.2.2.2.2.2.2 then s.2.1.2.2.2.2.2.2.2.2 else ((va_up s.2.2.1.2.2.2.2.2.1 l1 (nRow (s.2.2.1.2.2.2.2.2.1 l1) (if s.2.1.2.2.2.2.2.2.2.1 < (s.2.2.1.2.2.2.2.2.1 l1).2.1.1 then s.2.1.2.2.2.2.2.2.2.1 else (s.2.2.1.2.2.2.2.2.1 l1).2.1.1))) l1).2.1.2.1))) l1) (((va_up (va_up s.2.2.1.2.2.2.2.2.1 l1 (nRow (s.2.2.1.2.2.2.2.2.1 l1) (if s.2.1.2.2.2.2.2.2.2.1 < (s.2.2.1.2.2.2.2.2.1 l1).2.1.1 then s.2.1.2.2.2.2.2.2.2.1 else (s.2.2.1.2.2.2.2.2.1 l1).2.1.1))) l1 (nLc ((va_up s.2.2.1.2.2.2.2.2.1 l1 (nRow (s.2.2.1.2.2.2.2.2.1 l1) (if s.2.1.2.2.2.2.2.2.2.1 < (s.2.2.1.2.2.2.2.2.1 l1).2.1.1 then s.2.1.2.2.2.2.2.2.2.1 else (s.2.2.1.2.2.2.2.2.1 l1).2.1.1))) l1) (if ((va_up s.2.2.1.2.2.2.2.2.1 l1 (nRow (s.2.2.1.2.2.2.2.2.1 l1) (if s.2.1.2.2.2.2.2.2.2.1 < (s.2.2.1.2.2.2.2.2.1 l1).2.1.1 then s.2.1.2.2.2.2.2.2.2.1 else (s.2.2.1.2.2.2.2.2.1 l1).2.1.1))) l1).2.1.2.1 < s.2.1.2.2.2.2.2.2.2.2 then s.2.1.2.2.2.2.2.2.2.2 else ((va_up s.2.2.1.2.2.2.2.2.1 l1 (nRow (s.2.2.1.2.2.2.2.2.1 l1) (if s.2.1.2.2.2.2.2.2.2.1 < (s.2.2.1.2.2.2.2.2.1 l1).2.1.1 then s.2.1.2.2.2.2.2.2.2.1 else (s.2.2.1.2.2.2.2.2.1 l1).2.1.1))) l1).2.1.2.1))) l1).2.1.2.2.2.1))) l1) (if s.2.1.2.2.2.2.2.2.2.2 < ((va_up (va_up (va_up s.2.2.1.2.2.2.2.2.1 l1 (nRow (s.2.2.1.2.2.2.2.2.1 l1) (if s.2.1.2.2.2.2.2.2.2.1 < (s.2.2.1.2.2.2.2.2.1 l1).2.1.1 then s.2.1.2.2.2.2.2.2.2.1 else (s.2.2.1.2.2.2.2.2.1 l1).2.1.1))) l1 (nLc ((va_up s.2.2.1.2.2.2.2.2.1 l1 (nRow (s.2.2.1.2.2.2.2.2.1 l1) (if s.2.1.2.2.2.2.2.2.2.1 < (s.2.2.1.2.2.2.2.2.1 l1).2.1.1 then s.2.1.2.2.2.2.2.2.2.1 else (s.2.2.1.2.2.2.2.2.1 l1).2.1.1))) l1) (if ((va_up s.2.2.1.2.2.2.2.2.1 l1 (nRow (s.2.2.1.2.2.2.2.2.1 l1) (if s.2.1.2.2.2.2.2.2.2.1 < (s.2.2.1.2.2.2.2.2.1 l1).2.1.1 then s.2.1.2.2.2.2.2.2.2.1 else (s.2.2.1.2.2.2.2.2.1 l1).2.1.1))) l1).2.1.2.1 < s.2.1.2.2.2.2.2.2.2.2 then s.2.1.2.2.2.2.2.2.2.2 else ((va_up s.2.2.1.2.2.2.2.2.1 l1 (nRow (s.2.2.1.2.2.2.2.2.1 l1) (if s.2.1.2.2.2.2.2.2.2.1 < (s.2.2.1.2.2.2.2.2.1 l1).2.1.1 then s.2.1.2.2.2.2.2.2.2.1 else (s.2.2.1.2.2.2.2.2.1 l1).2.1.1))) l1).2.1.2.1))) l1 (nLcs ((va_up (va_up s.2.2.1.2.2.2.2.2.1 l1 (nRow (s.2.2.1.2.2.2.2.2.1 l1) (if s.2.1.2.2.2.2.2.2.2.1 < (s.2.2.1.2.2.2.2.2.1 l1).2.1.1 then s.2.1.2.2.2.2.2.2.2.1 else (s.2.2.1.2.2.2.2.2.1 l1).2.1.1))) l1 (nLc ((va_up s.2.2.1.2.2.2.2.2.1 l1 (nRow (s.2.2.1.2.2.2.2.2.1 l1) (if s.2.1.2.2.2.2.2.2.2.1 < (s.2.2.1.2.2.2.2.2.1 l1).2.1.1 then s.2.1.2.2.2.2.2.2.2.1 else (s.2.2.1.2.2.2.2.2.1 l1).2.1.1))) l1) (if ((va_up s.2.2.1.2.2.2.2.2.1 l1 (nRow (s.2.2.1.2.2.2.2.2.1 l1) (if s.2.1.2.2.2.2.2.2.2.1 < (s.2.2.1.2.2.2.2.2.1 l1).2.1.1 then s.2.1.2.2.2.2.2.2.2.1 else (s.2.2.1.2.2.2.2.2.1 l1).2.1.1))) l1).2.1.2.1 < s.2.1.2.2.2.2.2.2.2.2 then s.2.1.2.2.2.2.2.2.2.2 else ((va_up s.2.2.1.2.2.2.2.2.1 l1 (nRow (s.2.2.1.2.2.2.2.2.1 l1) (if s.2.1.2.2.2.2.2.2.2.1 < (s.2.2.1.2.2.2.2.2.1 l1).2.1.1 then s.2.1.2.2.2.2.2.2.2.1 else (s.2.2.1.2.2.2.2.2.1 l1).2.1.1))) l1).2.1.2.1))) l1) (((va_up (va_up s.2.2.1.2.2.2.2.2.1 l1 (nRow (s.2.2.1.2.2.2.2.2.1 l1) (if s.2.1.2.2.2.2.2.2.2.1 < (s.2.2.1.2.2.2.2.2.1 l1).2.1.1 then s.2.1.2.2.2.2.2.2.2.1 else (s.2.2.1.2.2.2.2.2.1 l1).2.1.1))) l1 (nLc ((va_up s.2.2.1.2.2.2.2.2.1 l1 (nRow (s.2.2.1.2.2.2.2.2.1 l1) (if s.2.1.2.2.2.2.2.2.2.1 < (s.2.2.1.2.2.2.2.2.1 l1).2.1.1 then s.2.1.2.2.2.2.2.2.2.1 else (s.2.2.1.2.2.2.2.2.1 l1).2.1.1))) l1) (if ((va_up s.2.2.1.2.2.2.2.2.1 l1 (nRow (s.2.2.1.2.2.2.2.2.1 l1) (if s.2.1.2.2.2.2.2.2.2.1 < (s.2.2.1.2.2.2.2.2.1 l1).2.1.1 then s.2.1.2.2.2.2.2.2.2.1 else (s.2.2.1.2.2.2.2.2.1 l1).2.1.1))) l1).2.1.2.1 < s.2.1.2.2.2.2.2.2.2.2 then s.2.1.2.2.2.2.2.2.2.2 else ((va_up s.2.2.1.2.2.2.2.2.1 l1 (nRow (s.2.2.1.2.2.2.2.2.1 l1) (if s.2.1.2.2.2.2.2.2.2.1 < (s.2.2.1.2.2.2.2.2.1 l1).2.1.1 then s.2.1.2.2.2.2.2.2.2.1 else (s.2.2.1.2.2.2.2.2.1 l1).2.1.1))) l1).2.1.2.1))) l1).2.1.2.2.2.1))) l1).2.1.2.1 then s.2.1.2.2.2.2.2.2.2.2 else ((va_up (va_up (va_up s.2.2.1.2.2.2.2.2.1 l1 (nRow (s.2.2.1.2.2.2.2.2.1 l1) (if s.2.1.2.2.2.2.2.2.2.1 < (s.2.2.1.2.2.2.2.2.1 l1).2.1.1 then s.2.1.2.2.2.2.2.2.2.1 else (s.2.2.1.2.2.2.2.2.1 l1).2.1.1))) l1 (nLc ((va_up s.2.2.1.2.2.2.2.2.1 l1 (nRow (s.2.2.1.2.2.2.2.2.1 l1) (if s.2.1.2.2.2.2.2.2.2.1 < (s.2.2.1.2.2.2.2.2.1 l1).2.1.1 then s.2.1.2.2.2.2.2.2.2.1 else (s.2.2.1.2.2.2.2.2.1 l1).2.1.1))) l1) (if ((va_up s.2.2.1.2.2.2.2.2.1 l1 (nRow (s.2.2.1.2.2.2.2.2.1 l1) (if s.2.1.2.2.2.2.2.2.2.1 < (s.2.2.1.2.2.2.2.2.1 l1).2.1.1 then s.2.1.2.2.2.2.2.2.2.1 else (s.2.2.1.2.2.2.2.2.1 l1).2.1.1))) l1).2.1.2.1 < s.2.1.2.2.2.2.2.2.2.2 then s.2.1.2.2.2.2.2.2.2.2 else ((va_up s.2.2.1.2.2.2.2.2.1 l1 (nRow (s.2.2.1.2.2.2.2.2.1 l1) (if s.2.1.2.2.2.2.2.2.2.1 < (s.2.2.1.2.2.2.2.2.1 l1).2.1.1 then s.2.1.2.2.2.2.2.2.2.1 else (s.2.2.1.2.2.2.2.2.1 l1).2.1.1))) l1).2.1.2.1))) l1 (nLcs ((va_up (va_up s.2.2.1.2.2.2.2.2.1 l1 (nRow (s.2.2.1.2.2.2.2.2.1 l1) (if s.2.1.2.2.2.2.2.2.2.1 < (s.2.2.1.2.2.2.2.2.1 l1).2.1.1 then s.2.1.2.2.2.2.2.2.2.1 else (s.2.2.1.2.2.2.2.2.1 l1).2.1.1))) l1 (nLc ((va_up s.2.2.1.2.2.2.2.2.1 l1 (nRow (s.2.2.1.2.2.2.2.2.1 l1) (if s.2.1.2.2.2.2.2.2.2.1 < (s.2.2.1.2.2.2.2.2.1 l1).2.1.1 then s.2.1.2.2.2.2.2.2.2.1 else (s.2.2.1.2.2.2.2.2.1 l1).2.1.1))) l1) (if ((va_up s.2.2.1.2.2.2.2.2.1 l1 (nRow (s.2.2.1.2.2.2.2.2.1 l1) (if s.2.1.2.2.2.2.2.2.2.1 < (s.2.2.1.2.2.2.2.2.1 l1).2.1.1 then s.2.1.2.2.2.2.2.2.2.1 else (s.2.2.1.2.2.2.2.2.1 l1).2.1.1))) l1).2.1.2.1 < s.2.1.2.2.2.2.2.2.2.2 then s.2.1.2.2.2.2.2.2.2.2 else ((va_up s.2.2.1.2.2.2.2.2.1 l1 (nRow (s.2.2.1.2.2.2.2.2.1 l1) (if s.2.1.2.2.2.2.2.2.2.1 < (s.2.2.1.2.2.2.2.2.1 l1).2.1.1 then s.2.1.2.2.2.2.2.2.2.1 else (s.2.2.1.2.2.2.2.2.1 l1).2.1.1))) l1).2.1.2.1))) l1) (((va_up (va_up s.2.2.1.2.2.2.2.2.1 l1 (nRow (s.2.2.1.2.2.2.2.2.1 l1) (if s.2.1.2.2.2.2.2.2.2.1 < (s.2.2.1.2.2.2.2.2.1 l1).2.1.1 then s.2.1.2.2.2.2.2.2.2.1 else (s.2.2.1.2.2.2.2.2.1 l1).2.1.1))) l1 (nLc ((va_up s.2.2.1.2.2.2.2.2.1 l1 (nRow (s.2.2.1.2.2.2.2.2.1 l1) (if s.2.1.2.2.2.2.2.2.2.1 < (s.2.2.1.2.2.2.2.2.1 l1).2.1.1 then s.2.1.2.2.2.2.2.2.2.1 else (s.2.2.1.2.2.2.2.2.1 l1).2.1.1))) l1) (if ((va_up s.2.2.1.2.2.2.2.2.1 l1 (nRow (s.2.2.1.2.2.2.2.2.1 l1) (if s.2.1.2.2.2.2.2.2.2.1 < (s.2.2.1.2.2.2.2.2.1 l1).2.1.1 then s.2.1.2.2.2.2.2.2.2.1 else (s.2.2.1.2.2.2.2.2.1 l1).2.1.1))) l1).2.1.2.1 < s.2.1.2.2.2.2.2.2.2.2 then s.2.1.2.2.2.2.2.2.2.2 else ((va_up s.2.2.1.2.2.2.2.2.1 l1 (nRow (s.2.2.1.2.2.2.2.2.1 l1) (if s.2.1.2.2.2.2.2.2.2.1 < (s.2.2.1.2.2.2.2.2.1 l1).2.1.1 then s.2.1.2.2.2.2.2.2.2.1 else (s.2.2.1.2.2.2.2.2.1 l1).2.1.1))) l1).2.1.2.1))) l1).2.1.2.2.2.1))) l1).2.1.2.1))), s.2.2.1.2.2.2.2.2.2), s.2.2.2)))) else (some (.inl (l1, (s.1, (s.2.1.1, s.2.1.2.2.2.2.1, s.2.1.2.2), (s.2.2.1.1, s.2.2.1.2.1, s.2.2.1.2.2.1, s.2.2.1.2.2.2.1, s.2.2.1.2.2.2.2.1, (va_up (va_up (va_up (va_up (va_up s.2.2.1.2.2.2.2.2.1 l1 (nRow (s.2.2.1.2.2.2.2.2.1 l1) (if s.2.1.2.2.2.2.2.2.2.1 < (s.2.2.1.2.2.2.2.2.1 l1).2.1.1 then s.2.1.2.2.2.2.2.2.2.1 else (s.2.2.1.2.2.2.2.2.1 l1).2.1.1))) l1 (nLc ((va_up s.2.2.1.2.2.2.2.2.1 l1 (nRow (s.2.2.1.2.2.2.2.2.1 l1) (if s.2.1.2.2.2.2.2.2.2.1 < (s.2.2.1.2.2.2.2.2.1 l1).2.1.1 then s.2.1.2.2.2.2.2.2.2.1 else (s.2.2.1.2.2.2.2.2.1 l1).2.1.1))) l1) (if ((va_up s.2.2.1.2.2.2.2.2.1 l1 (nRow (s.2.2.1.2.2.2.2.2.1 l1) (if s.2.1.2.2.2.2.2.2.2.1 < (s.2.2.1.2.2.2.2.2.1 l1).2.1.1 then s.2.1.2.2.2.2.2.2.2.1 else (s.2.2.1.2.2.2.2.2.1 l1).2.1.1))) l1).2.1.2.1 < s.2.1.2.2.2.2.2.2.2.2 then s.2.1.2.2.2.2.2.2.2.2 else ((va_up s.2.2.1.2.2.2.2.2.1 l1 (nRow (s.2.2.1.2.2.2.2.2.1 l1) (if s.2.1.2.2.2.2.2.2.2.1 < (s.2.2.1.2.2.2.2.2.1 l1).2.1.1 then s.2.1.2.2.2.2.2.2.2.1 else (s.2.2.1.2.2.2.2.2.1 l1).2.1.1))) l1).2.1.2.1))) l1 (nLcs ((va_up (va_up s.2.2.1.2.2.2.2.2.1 l1 (nRow (s.2.2.1.2.2.2.2.2.1 l1) (if s.2.1.2.2.2.2.2.2.2.1 < (s.2.2.1.2.2.2.2.2.1 l1).2.1.1 then s.2.1.2.2.2.2.2.2.2.1 else (s.2.2.1.2.2.2.2.2.1 l1).2.1.1))) l1 (nLc ((va_up s.2.2.1.2.2.2.2.2.1 l1 (nRow (s.2.2.1.2.2.2.2.2.1 l1) (if s.2.1.2.2.2.2.2.2.2.1 < (s.2.2.1.2.2.2.2.2.1 l1).2.1.1 then s.2.1.2.2.2.2.2.2.2.1 else (s.2.2.1.2.2.2.2.2.1 l1).2.1.1))) l1) (if ((va_up s.2.2.1.2.2.2.2.2.1 l1 (nRow (s.2.2.1.2.2.2.2.2.1 l1) (if s.2.1.2.2.2.2.2.2.2.1 < (s.2.2.1.2.2.2.2.2.1 l1).2.1.1 then s.2.1.2.2.2.2.2.2.2.1 else (s.2.2.1.2.2.2.2.2.1 l1).2.1.1))) l1).2.1.2.1 < s.2.1.2.2.2.2.2.2.2.2 then s.2.1.2.2.2.2.2.2.2.2 else ((va_up s.2.2.1.2.2.2.2.2.1 l1 (nRow (s.2.2.1.2.2.2.2.2.1 l1) (if s.2.1.2.2.2.2.2.2.2.1 < (s.2.2.1.2.2.2.2.2.1 l1).2.1.1 then s.2.1.2.2.2.2.2.2.2.1 else (s.2.2.1.2.2.2.2.2.1 l1).2.1.1))) l1).2.1.2.1))) l1) (((va_up (va_up s.2.2.1.2.2.2.2.2.1 l1 (nRow (s.2.2.1.2.2.2.2.2.1 l1) (if s.2.1.2.2.2.2.2.2.2.1 < (s.2.2.1.2.2.2.2.2.1 l1).2.1.1 then s.2.1.2.2.2.2.2.2.2.1 else (s.2.2.1.2.2.2.2.2.1 l1).2.1.1))) l1 (nLc ((va_up s.2.2.1.2.2.2.2.2.1 l1 (nRow (s.2.2.1.2.2.2.2.2.1 l1) (if s.2.1.2.2.2.2.2.2.2.1 < (s.2.2.1.2.2.2.2.2.1 l1).2.1.1 then s.2.1.2.2.2.2.2.2.2.1 else (s.2.2.1.2.2.2.2.2.1 l1).2.1.1))) l1) (if ((va_up s.2.2.1.2.2.2.2.2.1 l1 (nRow (s.2.2.1.2.2.2.2.2.1 l1) (if s.2.1.2.2.2.2.2.2.2.1 < (s.2.2.1.2.2.2.2.2.1 l1).2.1.1 then s.2.1.2.2.2.2.2.2.2.1 else (s.2.2.1.2.2.2.2.2.1 l1).2.1.1))) l1).2.1.2.1 < s.2.1.2.2.2.2.2.2.2.2 then s.2.1.2.2.2.2.2.2.2.2 else ((va_up s.2.2.1.2.2.2.2.2.1 l1 (nRow (s.2.2.1.2.2.2.2.2.1 l1) (if s.2.1.2.2.2.2.2.2.2.1 < (s.2.2.1.2.2.2.2.2.1 l1).2.1.1 then s.2.1.2.2.2.2.2.2.2.1 else (s.2.2.1.2.2.2.2.2.1 l1).2.1.1))) l1).2.1.2.1))) l1).2.1.2.2.2.1))) l1 (nCs ((va_up (va_up (va_up s.2.2.1.2.2.2.2.2.1 l1 (nRow (s.2.2.1.2.2.2.2.2.1 l1) (if s.2.1.2.2.2.2.2.2.2.1 < (s.2.2.1.2.2.2.2.2.1 l1).2.1.1 then s.2.1.2.2.2.2.2.2.2.1 else (s.2.2.1.2.2.2.2.2.1 l1).2.1.1))) l1 (nLc ((va_up s.2.2.1.2.2.2.2.2.1 l1 (nRow (s.2.2.1.2.2.2.2.2.1 l1) (if s.2.1.2.2.2.2.2.2.2.1 < (s.2.2.1.2.2.2.2.2.1 l1).2.1.1 then s.2.1.2.2.2.2.2.2.2.1 else (s.2.2.1.2.2.2.2.2.1 l1).2.1.1))) l1) (if ((va_up s.2.2.1.2.2.2.2.2.1 l1 (nRow (s.2.2.1.2.2.2.2.2.1 l1) (if s.2.1.2.2.2.2.2.2.2.1 < (s.2.2.1.2.2.2.2.2.1 l1).2.1.1 then s.2.1.2.2.2.2.2.2.2.1 else (s.2.2.1.2.2.2.2.2.1 l1).2.1.1))) l1).2.1.2.1 < s.2.1.2.2.2.2.2.2.2.2 then s.2.1.2.2.2.2.2.2.2.2 else ((va_up s.2.2.1.2.2.2.2.2.1 l1 (nRow (s.2.2.1.2.2.2.2.2.1 l1) (if s.2.1.2.2.2.2.2.2.2.1 < (s.2.2.1.2.2.2.2.2.1 l1).2.1.1 then s.2.1.2.2.2.2.2.2.2.1 else (s.2.2.1.2.2.2.2.2.1 l1).2.1.1))) l1).2.1.2.1))) l1 (nLcs ((va_up (va_up s.2.2.1.2.2.2.2.2.1 l1 (nRow (s.2.2.1.2.2.2.2.2.1 l1) (if s.2.1.2.2.2.2.2.2.2.1 < (s.2.2.1.2.2.2.2.2.1 l1).2.1.1 then s.2.1.2.2.2.2.2.2.2.1 else (s.2.2.1.2.2.2.2.2.1 l1).2.1.1))) l1 (nLc ((va_up s.2.2.1.2.2.2.2.2.1 l1 (nRow (s.2.2.1.2.2.2.2.2.1 l1) (if s.2.1.2.2.2.2.2.2.2.1 < (s.2.2.1.2.2.2.2.2.1 l1).2.1.1 then s.2.1.2.2.2.2.2.2.2.1 else (s.2.2.1.2.2.2.2.2.1 l1).2.1.1))) l1) (if ((va_up s.2.2.1.2.2.2.2.2.1 l1 (nRow (s.2.2.1.2.2.2.2.2.1 l1) (if s.2.1.2.2.2.2.2.2.2.1 < (s.2.2.1.2.2.2.2.2.1 l1).2.1.1 then s.2.1.2.2.2.2.2.2.2.1 else (s.2.2.1.2.2.2.2.2.1 l1).2.1.1))) l1).2.1.2.1 < s.2.1.2.2.2.2.2.2.2.2 then s.2.1.2.2.2.2.2.2.2.2 else ((va_up s.2.2.1.2.2.2.2.2.1 l1 (nRow (s.2.2.1.2.2.2.2.2.1 l1) (if s.2.1.2.2.2.2.2.2.2.1 < (s.2.2.1.2.2.2.2.2.1 l1).2.1.1 then s.2.1.2.2.2.2.2.2.2.1 else (s.2.2.1.2.2.2.2.2.1 l1).2.1.1))) l1).2.1.2.1))) l1) (((va_up (va_up s.2.2.1.2.2.2.2.2.1 l1 (nRow (s.2.2.1.2.2.2.2.2.1 l1) (if s.2.1.2.2.2.2.2.2.2.1 < (s.2.2.1.2.2.2.2.2.1 l1).2.1.1 then s.2.1.2.2.2.2.2.2.2.1 else (s.2.2.1.2.2.2.2.2.1 l1).2.1.1))) l1 (nLc ((va_up s.2.2.1.2.2.2.2.2.1 l1 (nRow (s.2.2.1.2.2.2.2.2.1 l1) (if s.2.1.2.2.2.2.2.2.2.1 < (s.2.2.1.2.2.2.2.2.1 l1).2.1.1 then s.2.1.2.2.2.2.2.2.2.1 else (s.2.2.1.2.2.2.2.2.1 l1).2.1.1))) l1) (if ((va_up s.2.2.1.2.2.2.2.2.1 l1 (nRow (s.2.2.1.2.2.2.2.2.1 l1) (if s.2.1.2.2.2.2.2.2.2.1 < (s.2.2.1.2.2.2.2.2.1 l1).2.1.1 then s.2.1.2.2.2.2.2.2.2.1 else (s.2.2.1.2.2.2.2.2.1 l1).2.1.1))) l1).2.1.2.1 < s.2.1.2.2.2.2.2.2.2.2 then s.2.1.2.2.2.2.2.2.2.2 else ((va_up s.2.2.1.2.2.2.2.2.1 l1 (nRow (s.2.2.1.2.2.2.2.2.1 l1) (if s.2.1.2.2.2.2.2.2.2.1 < (s.2.2.1.2.2.2.2.2.1 l1).2.1.1 then s.2.1.2.2.2.2.2.2.2.1 else (s.2.2.1.2.2.2.2.2.1 l1).2.1.1))) l1).2.1.2.1))) l1).2.1.2.2.2.1))) l1) s.2.1.2.2.2.2.2.2.1)) l1 (nCol ((va_up (va_up (va_up (va_up s.2.2.1.2.2.2.2.2.1 l1 (nRow (s.2.2.1.2.2.2.2.2.1 l1) (if s.2.1.2.2.2.2.2.2.2.1 < (s.2.2.1.2.2.2.2.2.1 l1).2.1.1 then s.2.1.2.2.2.2.2.2.2.1 else (s.2.2.1.2.2.2.2.2.1 l1).2.1.1))) l1 (nLc ((va_up s.2.2.1.2.2.2.2.2.1 l1 (nRow (s.2.2.1.2.2.2.2.2.1 l1) (if s.2.1.2.2.2.2.2.2.2.1 < (s.2.2.1.2.2.2.2.2.1 l1).2.1.1 then s.2.1.2.2.2.2.2.2.2.1 else (s.2.2.1.2.2.2.2.2.1 l1).2.1.1))) l1) (if ((va_up s.2.2.1.2.2.2.2.2.1 l1 (nRow (s.2.2.1.2.2.2.2.2.1 l1) (if s.2.1.2.2.2.2.2.2.2.1 < (s.2.2.1.2.2.2.2.2.1 l1).2.1.1 then s.2.1.2.2.2.2.2.2.2.1 else (s.2.2.1.2.2.2.2.2.1 l1).2.1.1))) l1).2.1.2.1 < s.2.1.2.2.2.2.2.2.2.2 then s.2.1.2.2.2.2.2.2.2.2 else ((va_up s.2.2.1.2.2.2.2.2.1 l1 (nRow (s.2.2.1.2.2.2.2.2.1 l1) (if s.2.1.2.2.2.2.2.2.2.1 < (s.2.2.1.2.2.2.2.2.1 l1).2.1.1 then s.2.1.2.2.2.2.2.2.2.1 else (s.2.2.1.2.2.2.2.2.1 l1).2.1.1))) l1).2.1.2.1))) l1 (nLcs ((va_up (va_up s.2.2.1.2.2.2.2.2.1 l1 (nRow (s.2.2.1.2.2.2.2.2.1 l1) (if s.2.1.2.2.2.2.2.2.2.1 < (s.2.2.1.2.2.2.2.2.1 l1).2.1.1 then s.2.1.2.2.2.2.2.2.2.1 else (s.2.2.1.2.2.2.2.2.1 l1).2.1.1))) l1 (nLc ((va_up s.2.2.1.2.2.2.2.2.1 l1 (nRow (s.2.2.1.2.2.2.2.2.1 l1) (if s.2.1.2.2.2.2.2.2.2.1 < (s.2.2.1.2.2.2.2.2.1 l1).2.1.1 then s.2.1.2.2.2.2.2.2.2.1 else (s.2.2.1.2.2.2.2.2.1 l1).2.1.1))) l1) (if ((va_up s.2.2.1.2.2.2.2.2.1 l1 (nRow (s.2.2.1.2.2.2.2.2.1 l1) (if s.2.1.2.2.2.2.2.2.2.1 < (s.2.2.1.2.2.2.2.2.1 l1).2.1.1 then s.2.1.2.2.2.2.2.2.2.1 else (s.2.2.1.2.2.2.2.2.1 l1).2.1.1))) l1).2.1.2.1 < s.2.1.2.2.2.2.2.2.2.2 then s.2.1.2.2.2.2.2.2.2.2 else ((va_up s.2.2.1.2.2.2.2.2.1 l1 (nRow (s.2.2.1.2.2.2.2.2.1 l1) (if s.2.1.2.2.2.2.2.2.2.1 < (s.2.2.1.2.2.2.2.2.1 l1).2.1.1 then s.2.1.2.2.2.2.2.2.2.1 else (s.2.2.1.2.2.2.2.2.1 l1).2.1.1))) l1).2.1.2.1))) l1) (((va_up (va_up s.2.2.1.2.2.2.2.2.1 l1 (nRow (s.2.2.1.2.2.2.2.2.1 l1) (if s.2.1.2.2.2.2.2.2.2.1 < (s.2.2.1.2.2.2.2.2.1 l1).2.1.1 then s.2.1.2.2.2.2.2.2.2.1 else (s.2.2.1.2.2.2.2.2.1 l1).2.1.1))) l1 (nLc ((va_up s.2.2.1.2.2.2.2.2.1 l1 (nRow (s.2.2.1.2.2.2.2.2.1 l1) (if s.2.1.2.2.2.2.2.2.2.1 < (s.2.2.1.2.2.2.2.2.1 l1).2.1.1 then s.2.1.2.2.2.2.2.2.2.1 else (s.2.2.1.2.2.2.2.2.1 l1).2.1.1))) l1) (if ((va_up s.2.2.1.2.2.2.2.2.1 l1 (nRow (s.2.2.1.2.2.2.2.2.1 l1) (if s.2.1.2.2.2.2.2.2.2.1 < (s.2.2.1.2.2.2.2.2.1 l1).2.1.1 then s.2.1.2.2.2.2.2.2.2.1 else (s.2.2.1.2.2.2.2.2.1 l1).2.1.1))) l1).2.1.2.1 < s.2.1.2.2.2.2.2.2.2.2 then s.2.1.2.2.2.2.2.2.2.2 else ((va_up s.2.2.1.2.2.2.2.2.1 l1 (nRow (s.2.2.1.2.2.2.2.2.1 l1) (if s.2.1.2.2.2.2.2.2.2.1 < (s.2.2.1.2.2.2.2.2.1 l1).2.1.1 then s.2.1.2.2.2.2.2.2.2.1 else (s.2.2.1.2.2.2.2.2.1 l1).2.1.1))) l1).2.1.2.1))) l1).2.1.2.2.2.1))) l1 (nCs ((va_up (va_up (va_up s.2.2.1.2.2.2.2.2.1 l1 (nRow (s.2.2.1.2.2.2.2.2.1 l1) (if s.2.1.2.2.2.2.2.2.2.1 < (s.2.2.1.2.2.2.2.2.1 l1).2.1.1 then s.2.1.2.2.2.2.2.2.2.1 else (s.2.2.1.2.2.2.2.2.1 l1).2.1.1))) l1 (nLc ((va_up s.2.2.1.2.2.2.2.2.1 l1 (nRow (s.2.2.1.2.2.2.2.2.1 l1) (if s.2.1.2.2.2.2.2.2.2.1 < (s.2.2.1.2.2.2.2.2.1 l1).2.1.1 then s.2.1.2.2.2.2.2.2.2.1 else (s.2.2.1.2.2.2.2.2.1 l1).2.1.1))) l1) (if ((va_up s.2.2.1.2.2.2.2.2.1 l1 (nRow (s.2.2.1.2.2.2.2.2.1 l1) (if s.2.1.2.2.2.2.2.2.2.1 < (s.2.2.1.2.2.2.2.2.1 l1).2.1.1 then s.2.1.2.2.2.2.2.2.2.1 else (s.2.2.1.2.2.2.2.2.1 l1).2.1.1))) l1).2.1.2.1 < s.2.1.2.2.2.2.2.2.2.2 then s.2.1.2.2.2.2.2.2.2.2 else ((va_up s.2.2.1.2.2.2.2.2.1 l1 (nRow (s.2.2.1.2.2.2.2.2.1 l1) (if s.2.1.2.2.2.2.2.2.2.1 < (s.2.2.1.2.2.2.2.2.1 l1).2.1.1 then s.2.1.2.2.2.2.2.2.2.1 else (s.2.2.1.2.2.2.2.2.1 l1).2.1.1))) l1).2.1.2.1))) l1 (nLcs ((va_up (va_up s.2.2.1.2.2.2.2.2.1 l1 (nRow (s.2.2.1.2.2.2.2.2.1 l1) (if s.2.1.2.2.2.2.2.2.2.1 < (s.2.2.1.2.2.2.2.2.1 l1).2.1.1 then s.2.1.2.2.2.2.2.2.2.1 else (s.2.2.1.2.2.2.2.2.1 l1).2.1.1))) l1 (nLc ((va_up s.2.2.1.2.2.2.2.2.1 l1 (nRow (s.2.2.1.2.2.2.2.2.1 l1) (if s.2.1.2.2.2.2.2.2.2.1 < (s.2.2.1.2.2.2.2.2.1 l1).2.1.1 then s.2.1.2.2.2.2.2.2.2.1 else (s.2.2.1.2.2.2.2.2.1 l1).2.1.1))) l1) (if ((va_up s.2.2.1.2.2.2.2.2.1 l1 (nRow (s.2.2.1.2.2.2.2.2.1 l1) (if s.2.1.2.2.2.2.2.2.2.1 < (s.2.2.1.2.2.2.2.2.1 l1).2.1.1 then s.2.1.2.2.2.2.2.2.2.1 else (s.2.2.1.2.2.2.2.2.1 l1).2.1.1))) l1).2.1.2.1 < s.2.1.2.2.2.2.2.2.2.2 then s.2.1.2.2.2.2.2.2.2.2 else ((va_up s.2.2.1.2.2.2.2.2.1 l1 (nRow (s.2.2.1.2.2.2.2.2.1 l1) (if s.2.1.2.2.2.2.2.2.2.1 < (s.2.2.1.2.2.2.2.2.1 l1).2.1.1 then s.2.1.2.2.2.2.2.2.2.1 else (s.2.2.1.2.2.2.2.2.1 l1).2.1.1))) l1).2.1.2.1))) l1) (((va_up (va_up s.2.2.1.2.2.2.2.2.1 l1 (nRow (s.2.2.1.2.2.2.2.2.1 l1) (if s.2.1.2.2.2.2.2.2.2.1 < (s.2.2.1.2.2.2.2.2.1 l1).2.1.1 then s.2.1.2.2.2.2.2.2.2.1 else (s.2.2.1.2.2.2.2.2.1 l1).2.1.1))) l1 (nLc ((va_up s.2.2.1.2.2.2.2.2.1 l1 (nRow (s.2.2.1.2.2.2.2.2.1 l1) (if s.2.1.2.2.2.2.2.2.2.1 < (s.2.2.1.2.2.2.2.2.1 l1).2.1.1 then s.2.1.2.2.2.2.2.2.2.1 else (s.2.2.1.2.2.2.2.2.1 l1).2.1.1))) l1) (if ((va_up s.2.2.1.2.2.2.2.2.1 l1 (nRow (s.2.2.1.2.2.2.2.2.1 l1) (if s.2.1.2.2.2.2.2.2.2.1 < (s.2.2.1.2.2.2.2.2.1 l1).2.1.1 then s.2.1.2.2.2.2.2.2.2.1 else (s.2.2.1.2.2.2.2.2.1 l1).2.1.1))) l1).2.1.2.1 < s.2.1.2.2.2.2.2.2.2.2 then s.2.1.2.2.2.2.2.2.2.2 else ((va_up s.2.2.1.2.2.2.2.2.1 l1 (nRow (s.2.2.1.2.2.2.2.2.1 l1) (if s.2.1.2.2.2.2.2.2.2.1 < (s.2.2.1.2.2.2.2.2.1 l1).2.1.1 then s.2.1.2.2.2.2.2.2.2.1 else (s.2.2.1.2.2.2.2.2.1 l1).2.1.1))) l1).2.1.2.1))) l1).2.1.2.2.2.1))) l1) s.2.1.2.2.2.2.2.2.1)) l1) (if s.2.1.2.2.2.2.2.2.2.2 < ((va_up (va_up (va_up (va_up s.2.2.1.2.2.2.2.2.1 l1 (nRow (s.2.2.1.2.2.2.2.2.1 l1) (if s.2.1.2.2.2.2.2.2.2.1 < (s.2.2.1.2.2.2.2.2.1 l1).2.1.1 then s.2.1.2.2.2.2.2.2.2.1 else (s.2.2.1.2.2.2.2.2.1 l1).2.1.1))) l1 (nLc ((va_up s.2.2.1.2.2.2.2.2.1 l1 (nRow (s.2.2.1.2.2.2.2.2.1 l1) (if s.2.1.2.2.2.2.2.2.2.1 < (s.2.2.1.2.2.2.2.2.1 l1).2.1.1 then s.2.1.2.2.2.2.2.2.2.1 else (s.2.2.1.2.2.2.2.2.1 l1).2.1.1))) l1) (if ((va_up s.2.2.1.2.2.2.2.2.1 l1 (nRow (s.2.2.1.2.2.2.2.2.1 l1) (if s.2.1.2.2.2.2.2.2.2.1 < (s.2.2.1.2.2.2.2.2.1 l1).2.1.1 then s.2.1.2.2.2.2.2.2.2.1 else (s.2.2.1.2.2.2.2.2.1 l1).2.1.1))) l1).2.1.2.1 < s.2.1.2.2.2.2.2.2.2.2 then s.2.1.2.2.2.2.2.2.2.2 else ((va_up s.2.2.1.2.2.2.2.2.1 l1 (nRow (s.2.2.1.2.2.2.2.2.1 l1) (if s.2.1.2.2.2.2.2.2.2.1 < (s.2.2.1.2.2.2.2.2.1 l1).2.1.1 then s.2.1.2.2.2.2.2.2.2.1 else (s.2.2.1.2.2.2.2.2.1 l1).2.1.1))) l1).2.1.2.1))) l1 (nLcs ((va_up (va_up s.2.2.1.2.2.2.2.2.1 l1 (nRow (s.2.2.1.2.2.2.2.2.1 l1) (if s.2.1.2.2.2.2.2.2.2.1 < (s.2.2.1.2.2.2.2.2.1 l1).2.1.1 then s.2.1.2.2.2.2.2.2.2.1 else (s.2.2.1.2.2.2.2.2.1 l1).2.1.1))) l1 (nLc ((va_up s.2.2.1.2.2.2.2.2.1 l1 (nRow (s.2.2.1.2.2.2.2.2.1 l1) (if s.2.1.2.2.2.2.2.2.2.1 < (s.2.2.1.2.2.2.2.2.1 l1).2.1.1 then s.2.1.2.2.2.2.2.2.2.1 else (s.2.2.1.2.2.2.2.2.1 l1).2.1.1))) l1) (if ((va_up s.2.2.1.2.2.2.2.2.1 l1 (nRow (s.2.2.1.2.2.2.2.2.1 l1) (if s.2.1.2.2.2.2.2.2.2.1 < (s.2.2.1.2.2.2.2.2.1 l1).2.1.1 then s.2.1.2.2.2.2.2.2.2.1 else (s.2.2.1.2.2.2.2.2.1 l1).2.1.1))) l1).2.1.2.1 < s.2.1.2.2.2.2.2.2.2.2 then s.2.1.2.2.2.2.2.2.2.2 else ((va_up s.2.2.1.2.2.2.2.2.1 l1 (nRow (s.2.2.1.2.2.2.2.2.1 l1) (if s.2.1.2.2.2.2.2.2.2.1 < (s.2.2.1.2.2.2.2.2.1 l1).2.1.1 then s.2.1.2.2.2.2.2.2.2.1 else (s.2.2.1.2.2.2.2.2.1 l1).2.1.1))) l1).2.1.2.1))) l1) (((va_up (va_up s.2.2.1.2.2.2.2.2.1 l1 (nRow (s.2.2.1.2.2.2.2.2.1 l1) (if s.2.1.2.2.2.2.2.2.2.1 < (s.2.2.1.2.2.2.2.2.1 l1).2.1.1 then s.2.1.2.2.2.2.2.2.2.1 else (s.2.2.1.2.2.2.2.2.1 l1).2.1.1))) l1 (nLc ((va_up s.2.2.1.2.2.2.2.2.1 l1 (nRow (s.2.2.1.2.2.2.2.2.1 l1) (if s.2.1.2.2.2.2.2.2.2.1 < (s.2.2.1.2.2.2.2.2.1 l1).2.1.1 then s.2.1.2.2.2.2.2.2.2.1 else (s.2.2.1.2.2.2.2.2.1 l1).2.1.1))) l1) (if ((va_up s.2.2.1.2.2.2.2.2.1 l1 (nRow (s.2.2.1.2.2.2.2.2.1 l1) (if s.2.1.2.2.2.2.2.2.2.1 < (s.2.2.1.2.2.2.2.2.1 l1).2.1.1 then s.2.1.2.2.2.2.2.2.2.1 else (s.2.2.1.2.2.2.2.2.1 l1).2.1.1))) l1).2.1.2.1 < s.2.1.2.2.2.2.2.2.2.2 then s.2.1.2.2.2.2.2.2.2.2 else ((va_up s.2.2.1.2.2.2.2.2.1 l1 (nRow (s.2.2.1.2.2.2.2.2.1 l1) (if s.2.1.2.2.2.2.2.2.2.1 < (s.2.2.1.2.2.2.2.2.1 l1).2.1.1 then s.2.1.2.2.2.2.2.2.2.1 else (s.2.2.1.2.2.2.2.2.1 l1).2.1.1))) l1).2.1.2.1))) l1).2.1.2.2.2.1))) l1 (nCs ((va_up (va_up (va_up s.2.2.1.2.2.2.2.2.1 l1 (nRow (s.2.2.1.2.2.2.2.2.1 l1) (if s.2.1.2.2.2.2.2.2.2.1 < (s.2.2.1.2.2.2.2.2.1 l1).2.1.1 then s.2.1.2.2.2.2.2.2.2.1 else (s.2.2.1.2.2.2.2.2.1 l1).2.1.1))) l1 (nLc ((va_up s.2.2.1.2.2.2.2.2.1 l1 (nRow (s.2.2.1.2.2.2.2.2.1 l1) (if s.2.1.2.2.2.2.2.2.2.1 < (s.2.2.1.2.2.2.2.2.1 l1).2.1.1 then s.2.1.2.2.2.2.2.2.2.1 else (s.2.2.1.2.2.2.2.2.1 l1).2.1.1))) l1) (if ((va_up s.2.2.1.2.2.2.2.2.1 l1 (nRow (s.2.2.1.2.2.2.2.2.1 l1) (if s.2.1.2.2.2.2.2.2.2.1 < (s.2.2.1.2.2.2.2.2.1 l1).2.1.1 then s.2.1.2.2.2.2.2.2.2.1 else (s.2.2.1.2.2.2.2.2.1 l1).2.1.1))) l1).2.1.2.1 < s.2.1.2.2.2.2.2.2.2.2 then s.2.1.2.2.2.2.2.2.2.2 else ((va_up s.2.2.1.2.2.2.2.2.1 l1 (nRow (s.2.2.1.2.2.2.2.2.1 l1) (if s.2.1.2.2.2.2.2.2.2.1 < (s.2.2.1.2.2.2.2.2.1 l1).2.1.1 then s.2.1.2.2.2.2.2.2.2.1 else (s.2.2.1.2.2.2.2.2.1 l1).2.1.1))) l1).2.1.2.1))) l1 (nLcs ((va_up (va_up s.2.2.1.2.2.2.2.2.1 l1 (nRow (s.2.2.1.2.2.2.2.2.1 l1) (if s.2.1.2.2.2.2.2.2.2.1 < (s.2.2.1.2.2.2.2.2.1 l1).2.1.1 then s.2.1.2.2.2.2.2.2.2.1 else (s.2.2.1.2.2.2.2.2.1 l1).2.1.1))) l1 (nLc ((va_up s.2.2.1.2.2.2.2.2.1 l1 (nRow (s.2.2.1.2.2.2.2.2.1 l1) (if s.2.1.2.2.2.2.2.2.2.1 < (s.2.2.1.2.2.2.2.2.1 l1).2.1.1 then s.2.1.2.2.2.2.2.2.2.1 else (s.2.2.1.2.2.2.2.2.1 l1).2.1.1))) l1) (if ((va_up s.2.2.1.2.2.2.2.2.1 l1 (nRow (s.2.2.1.2.2.2.2.2.1 l1) (if s.2.1.2.2.2.2.2.2.2.1 < (s.2.2.1.2.2.2.2.2.1 l1).2.1.1 then s.2.1.2.2.2.2.2.2.2.1 else (s.2.2.1.2.2.2.2.2.1 l1).2.1.1))) l1).2.1.2.1 < s.2.1.2.2.2.2.2.2.2.2 then s.2.1.2.2.2.2.2.2.2.2 else ((va_up s.2.2.1.2.2.2.2.2.1 l1 (nRow (s.2.2.1.2.2.2.2.2.1 l1) (if s.2.1.2.2.2.2.2.2.2.1 < (s.2.2.1.2.2.2.2.2.1 l1).2.1.1 then s.2.1.2.2.2.2.2.2.2.1 else (s.2.2.1.2.2.2.2.2.1 l1).2.1.1))) l1).2.1.2.1))) l1) (((va_up (va_up s.2.2.1.2.2.2.2.2.1 l1 (nRow (s.2.2.1.2.2.2.2.2.1 l1) (if s.2.1.2.2.2.2.2.2.2.1 < (s.2.2.1.2.2.2.2.2.1 l1).2.1.1 then s.2.1.2.2.2.2.2.2.2.1 else (s.2.2.1.2.2.2.2.2.1 l1).2.1.1))) l1 (nLc ((va_up s.2.2.1.2.2.2.2.2.1 l1 (nRow (s.2.2.1.2.2.2.2.2.1 l1) (if s.2.1.2.2.2.2.2.2.2.1 < (s.2.2.1.2.2.2.2.2.1 l1).2.1.1 then s.2.1.2.2.2.2.2.2.2.1 else (s.2.2.1.2.2.2.2.2.1 l1).2.1.1))) l1) (if ((va_up s.2.2.1.2.2.2.2.2.1 l1 (nRow (s.2.2.1.2.2.2.2.2.1 l1) (if s.2.1.2.2.2.2.2.2.2.1 < (s.2.2.1.2.2.2.2.2.1 l1).2.1.1 then s.2.1.2.2.2.2.2.2.2.1 else (s.2.2.1.2.2.2.2.2.1 l1).2.1.1))) l1).2.1.2.1 < s.2.1.2.2.2.2.2.2.2.2 then s.2.1.2.2.2.2.2.2.2.2 else ((va_up s.2.2.1.2.2.2.2.2.1 l1 (nRow (s.2.2.1.2.2.2.2.2.1 l1) (if s.2.1.2.2.2.2.2.2.2.1 < (s.2.2.1.2.2.2.2.2.1 l1).2.1.1 then s.2.1.2.2.2.2.2.2.2.1 else (s.2.2.1.2.2.2.2.2.1 l1).2.1.1))) l1).2.1.2.1))) l1).2.1.2.2.2.1))) l1) s.2.1.2.2.2.2.2.2.1)) l1).2.1.2.1 then s.2.1.2.2.2.2.2.2.2.2 else ((va_up (va_up (va_up (va_up s.2.2.1.2.2.2.2.2.1 l1 (nRow (s.2.2.1.2.2.2.2.2.1 l1) (if s.2.1.2.2.2.2.2.2.2.1 < (s.2.2.1.2.2.2.2.2.1 l1).2.1.1 then s.2.1.2.2.2.2.2.2.2.1 else (s.2.2.1.2.2.2.2.2.1 l1).2.1.1))) l1 (nLc ((va_up s.2.2.1.2.2.2.2.2.1 l1 (nRow (s.2.2.1.2.2.2.2.2.1 l1) (if s.2.1.2.2.2.2.2.2.2.1 < (s.2.2.1.2.2.2.2.2.1 l1).2.1.1 then s.2.1.2.2.2.2.2.2.2.1 else (s.2.2.1.2.2.2.2.2.1 l1).2.1.1))) l1) (if ((va_up s.2.2.1.2.2.2.2.2.1 l1 (nRow (s.2.2.1.2.2.2.2.2.1 l1) (if s.2.1.2.2.2.2.2.2.2.1 < (s.2.2.1.2.2.2.2.2.1 l1).2.1.1 then s.2.1.2.2.2.2.2.2.2.1 else (s.2.2.1.2.2.2.2.2.1 l1).2.1.1))) l1).2.1.2.1 < s.2.1.2.2.2.2.2.2.2.2 then s.2.1.2.2.2.2.2.2.2.2 else ((va_up s.2.2.1.2.2.2.2.2.1 l1 (nRow (s.2.2.1.2.2.2.2.2.1 l1) (if s.2.1.2.2.2.2.2.2.2.1 < (s.2.2.1.2.2.2.2.2.1 l1).2.1.1 then s.2.1.2.2.2.2.2.2.2.1 else (s.2.2.1.2.2.2.2.2.1 l1).2.1.1))) l1).2.1.2.1))) l1 (nLcs ((va_up (va_up s.2.2.1.2.2.2.2.2.1 l1 (nRow (s.2.2.1.2.2.2.2.2.1 l1) (if s.2.1.2.2.2.2.2.2.2.1 < (s.2.2.1.2.2.2.2.2.1 l1).2.1.1 then s.2.1.2.2.2.2.2.2.2.1 else (s.2.2.1.2.2.2.2.2.1 l1).2.1.1))) l1 (nLc ((va_up s.2.2.1.2.2.2.2.2.1 l1 (nRow (s.2.2.1.2.2.2.2.2.1 l1) (if s.2.1.2.2.2.2.2.2.2.1 < (s.2.2.1.2.2.2.2.2.1 l1).2.1.1 then s.2.1.2.2.2.2.2.2.2.1 else (s.2.2.1.2.2.2.2.2.1 l1).2.1.1))) l1) (if ((va_up s.2.2.1.2.2.2.2.2.1 l1 (nRow (s.2.2.1.2.2.2.2.2.1 l1) (if s.2.1.2.2.2.2.2.2.2.1 < (s.2.2.1.2.2.2.2.2.1 l1).2.1.1 then s.2.1.2.2.2.2.2.2.2.1 else (s.2.2.1.2.2.2.2.2.1 l1).2.1.1))) l1).2.1.2.1 < s.2.1.2.2.2.2.2.2.2.2 then s.2.1.2.2.2.2.2.2.2.2 else ((va_up s.2.2.1.2.2.2.2.2.1 l1 (nRow (s.2.2.1.2.2.2.2.2.1 l1) (if s.2.1.2.2.2.2.2.2.2.1 < (s.2.2.1.2.2.2.2.2.1 l1).2.1.1 then s.2.1.2.2.2.2.2.2.2.1 else (s.2.2.1.2.2.2.2.2.1 l1).2.1.1))) l1).2.1.2.1))) l1) (((va_up (va_up s.2.2.1.2.2.2.2.2.1 l1 (nRow (s.2.2.1.2.2.2.2.2.1 l1) (if s.2.1.2.2.2.2.2.2.2.1 < (s.2.2.1.2.2.2.2.2.1 l1).2.1.1 then s.2.1.2.2.2.2.2.2.2.1 else (s.2.2.1.2.2.2.2.2.1 l1).2.1.1))) l1 (nLc ((va_up s.2.2.1.2.2.2.2.2.1 l1 (nRow (s.2.2.1.2.2.2.2.2.1 l1) (if s.2.1.2.2.2.2.2.2.2.1 < (s.2.2.1.2.2.2.2.2.1 l1).2.1.1 then s.2.1.2.2.2.2.2.2.2.1 else (s.2.2.1.2.2.2.2.2.1 l1).2.1.1))) l1) (if ((va_up s.2.2.1.2.2.2.2.2.1 l1 (nRow (s.2.2.1.2.2.2.2.2.1 l1) (if s.2.1.2.2.2.2.2.2.2.1 < (s.2.2.1.2.2.2.2.2.1 l1).2.1.1 then s.2.1.2.2.2.2.2.2.2.1 else (s.2.2.1.2.2.2.2.2.1 l1).2.1.1))) l1).2.1.2.1 < s.2.1.2.2.2.2.2.2.2.2 then s.2.1.2.2.2.2.2.2.2.2 else ((va_up s.2.2.1.2.2.2.2.2.1 l1 (nRow (s.2.2.1.2.2.2.2.2.1 l1) (if s.2.1.2.2.2.2.2.2.2.1 < (s.2.2.1.2.2.2.2.2.1 l1).2.1.1 then s.2.1.2.2.2.2.2.2.2.1 else (s.2.2.1.2.2.2.2.2.1 l1).2.1.1))) l1).2.1.2.1))) l1).2.1.2.2.2.1))) l1 (nCs ((va_up (va_up (va_up s.2.2.1.2.2.2.2.2.1 l1 (nRow (s.2.2.1.2.2.2.2.2.1 l1) (if s.2.1.2.2.2.2.2.2.2.1 < (s.2.2.1.2.2.2.2.2.1 l1).2.1.1 then s.2.1.2.2.2.2.2.2.2.1 else (s.2.2.1.2.2.2.2.2.1 l1).2.1.1))) l1 (nLc ((va_up s.2.2.1.2.2.2.2.2.1 l1 (nRow (s.2.2.1.2.2.2.2.2.1 l1) (if s.2.1.2.2.2.2.2.2.2.1 < (s.2.2.1.2.2.2.2.2.1 l1).2.1.1 then s.2.1.2.2.2.2.2.2.2.1 else (s.2.2.1.2.2.2.2.2.1 l1).2.1.1))) l1) (if ((va_up s.2.2.1.2.2.2.2.2.1 l1 (nRow (s.2.2.1.2.2.2.2.2.1 l1) (if s.2.1.2.2.2.2.2.2.2.1 < (s.2.2.1.2.2.2.2.2.1 l1).2.1.1 then s.2.1.2.2.2.2.2.2.2.1 else (s.2.2.1.2.2.2.2.2.1 l1).2.1.1))) l1).2.1.2.1 < s.2.1.2.2.2.2.2.2.2.2 then s.2.1.2.2.2.2.2.2.2.2 else ((va_up s.2.2.1.2.2.2.2.2.1 l1 (nRow (s.2.2.1.2.2.2.2.2.1 l1) (if s.2.1.2.2.2.2.2.2.2.1 < (s.2.2.1.2.2.2.2.2.1 l1).2.1.1 then s.2.1.2.2.2.2.2.2.2.1 else (s.2.2.1.2.2.2.2.2.1 l1).2.1.1))) l1).2.1.2.1))) l1 (nLcs ((va_up (va_up s.2.2.1.2.2.2.2.2.1 l1 (nRow (s.2.2.1.2.2.2.2.2.1 l1) (if s.2.1.2.2.2.2.2.2.2.1 < (s.2.2.1.2.2.2.2.2.1 l1).2.1.1 then s.2.1.2.2.2.2.2.2.2.1 else (s.2.2.1.2.2.2.2.2.1 l1).2.1.1))) l1 (nLc ((va_up s.2.2.1.2.2.2.2.2.1 l1 (nRow (s.2.2.1.2.2.2.2.2.1 l1) (if s.2.1.2.2.2.2.2.2.2.1 < (s.2.2.1.2.2.2.2.2.1 l1).2.1.1 then s.2.1.2.2.2.2.2.2.2.1 else (s.2.2.1.2.2.2.2.2.1 l1).2.1.1))) l1) (if ((va_up s.2.2.1.2.2.2.2.2.1 l1 (nRow (s.2.2.1.2.2.2.2.2.1 l1) (if s.2.1.2.2.2.2.2.2.2.1 < (s.2.2.1.2.2.2.2.2.1 l1).2.1.1 then s.2.1.2.2.2.2.2.2.2.1 else (s.2.2.1.2.2.2.2.2.1 l1).2.1.1))) l1).2.1.2.1 < s.2.1.2.2.2.2.2.2.2.2 then s.2.1.2.2.2.2.2.2.2.2 else ((va_up s.2.2.1.2.2.2.2.2.1 l1 (nRow (s.2.2.1.2.2.2.2.2.1 l1) (if s.2.1.2.2.2.2.2.2.2.1 < (s.2.2.1.2.2.2.2.2.1 l1).2.1.1 then s.2.1.2.2.2.2.2.2.2.1 else (s.2.2.1.2.2.2.2.2.1 l1).2.1.1))) l1).2.1.2.1))) l1) (((va_up (va_up s.2.2.1.2.2.2.2.2.1 l1 (nRow (s.2.2.1.2.2.2.2.2.1 l1) (if s.2.1.2.2.2.2.2.2.2.1 < (s.2.2.1.2.2.2.2.2.1 l1).2.1.1 then s.2.1.2.2.2.2.2.2.2.1 else (s.2.2.1.2.2.2.2.2.1 l1).2.1.1))) l1 (nLc ((va_up s.2.2.1.2.2.2.2.2.1 l1 (nRow (s.2.2.1.2.2.2.2.2.1 l1) (if s.2.1.2.2.2.2.2.2.2.1 < (s.2.2.1.2.2.2.2.2.1 l1).2.1.1 then s.2.1.2.2.2.2.2.2.2.1 else (s.2.2.1.2.2.2.2.2.1 l1).2.1.1))) l1) (if ((va_up s.2.2.1.2.2.2.2.2.1 l1 (nRow (s.2.2.1.2.2.2.2.2.1 l1) (if s.2.1.2.2.2.2.2.2.2.1 < (s.2.2.1.2.2.2.2.2.1 l1).2.1.1 then s.2.1.2.2.2.2.2.2.2.1 else (s.2.2.1.2.2.2.2.2.1 l1).2.1.1))) l1).2.1.2.1 < s.2.1.2.2.2.2.2.2.2.2 then s.2.1.2.2.2.2.2.2.2.2 else ((va_up s.2.2.1.2.2.2.2.2.1 l1 (nRow (s.2.2.1.2.2.2.2.2.1 l1) (if s.2.1.2.2.2.2.2.2.2.1 < (s.2.2.1.2.2.2.2.2.1 l1).2.1.1 then s.2.1.2.2.2.2.2.2.2.1 else (s.2.2.1.2.2.2.2.2.1 l1).2.1.1))) l1).2.1.2.1))) l1).2.1.2.2.2.1))) l1) s.2.1.2.2.2.2.2.2.1)) l1).2.1.2.1))), s.2.2.1.2.2.2.2.2.2), s.2.2.2)))))) else none
def FM_cells_104 (l1 : Nat) (t0 : Nat) (t1 : Bool) (s : xMs) : Option (xo Nat xMs) := if t0 < s.2.2.1.2.2.2.2.1 then (if l1 < s.2.2.1.2.2.2.2.1 then (if ((va_up s.2.2.1.2.2.2.2.2.1 t0 (nLrs (s.2.2.1.2.2.2.2.2.1 t0) t1)) l1).2.1.1 ≤ s.2.1.2.2.2.2.2.2.2.1 then (FM_cells_126 l1 (s.1, s.2.1, (s.2.2.1.1, s.2.2.1.2.1, s.2.2.1.2.2.1, s.2.2.1.2.2.2.1, s.2.2.1.2.2.2.2.1, (va_up s.2.2.1.2.2.2.2.2.1 t0 (nLrs (s.2.2.1.2.2.2.2.2.1 t0) t1)), s.2.2.1.2.2.2.2.2.2), s.2.2.2)) else (FM_cells_126 l1 (s.1, s.2.1, (s.2.2.1.1, s.2.2.1.2.1, s.2.2.1.2.2.1, s.2.2.1.2.2.2.1, s.2.2.1.2.2.2.2.1, (va_up (va_up s.2.2.1.2.2.2.2.2.1 t0 (nLrs (s.2.2.1.2.2.2.2.2.1 t0) t1)) l1 (nRs ((va_up s.2.2.1.2.2.2.2.2.1 t0 (nLrs (s.2.2.1.2.2.2.2.2.1 t0) t1)) l1) s.2.1.2.2.2.2.2.1)), s.2.2.1.2.2.2.2.2.2), s.2.2.2))) else none) else none
def FM_cells_61 (l1 : Nat) (s : xMs) : Option (xo Nat xMs) := if l1 < s.2.2.1.2.2.2.2.1 then (if ((va_up (va_up s.2.2.1.2.2.2.2.2.1 l1 (nKind (s.2.2.1.2.2.2.2.2.1 l1) 5)) l1 (nLr ((va_up s.2.2.1.2.2.2.2.2.1 l1 (nKind (s.2.2.1.2.2.2.2.2.1 l1) 5)) l1) (if ((va_up s.2.2.1.2.2.2.2.2.1 l1 (nKind (s.2.2.1.2.2.2.2.2.1 l1) 5)) l1).2.1.1 < s.2.1.2.2.2.2.2.2.2.1 then s.2.1.2.2.2.2.2.2.2.1 else ((va_up s.2.2.1.2.2.2.2.2.1 l1 (nKind (s.2.2.1.2.2.2.2.2.1 l1) 5)) l1).2.1.1))) l1).2.1.1 ≤ s.2.1.2.2.2.2.2.2.2.1 then (FM_cells_104 l1 l1 s.2.1.2.2.2.2.2.1 (s.1, s.2.1, (s.2.2.1.1, s.2.2.1.2.1, s.2.2.1.2.2.1, s.2.2.1.2.2.2.1, s.2.2.1.2.2.2.2.1, (va_up (va_up s.2.2.1.2.2.2.2.2.1 l1 (nKind (s.2.2.1.2.2.2.2.2.1 l1) 5)) l1 (nLr ((va_up s.2.2.1.2.2.2.2.2.1 l1 (nKind (s.2.2.1.2.2.2.2.2.1 l1) 5)) l1) (if ((va_up s.2.2.1.2.2.2.2.2.1 l1 (nKind (s.2.2.1.2.2.2.2.2.1 l1) 5)) l1).2.1.1 < s.2.1.2.2.2.2.2.2.2.1 then s.2.1.2.2.2.2.2.2.2.1 else ((va_up s.2.2.1.2.2.2.2.2.1 l1 (nKind (s.2.2.1.2.2.2.2.2.1 l1) 5)) l1).2.1.1))), s.2.2.1.2.2.2.2.2.2), s.2.2.2)) else (FM_cells_104 l1 l1 ((va_up (va_up s.2.2.1.2.2.2.2.2.1 l1 (nKind (s.2.2.1.2.2.2.2.2.1 l1) 5)) l1 (nLr ((va_up s.2.2.1.2.2.2.2.2.1 l1 (nKind (s.2.2.1.2.2.2.2.2.1 l1) 5)) l1) (if ((va_up s.2.2.1.2.2.2.2.2.1 l1 (nKind (s.2.2.1.2.2.2.2.2.1 l1) 5)) l1).2.1.1 < s.2.1.2.2.2.2.2.2.2.1 then s.2.1.2.2.2.2.2.2.2.1 else ((va_up s.2.2.1.2.2.2.2.2.1 l1 (nKind (s.2.2.1.2.2.2.2.2.1 l1) 5)) l1).2.1.1))) l1).2.1.2.2.1 (s.1, s.2.1, (s.2.2.1.1, s.2.2.1.2.1, s.2.2.1.2.2.1, s.2.2.1.2.2.2.1, s.2.2.1.2.2.2.2.1, (va_up (va_up s.2.2.1.2.2.2.2.2.1 l1 (nKind (s.2.2.1.2.2.2.2.2.1 l1) 5)) l1 (nLr ((va_up s.2.2.1.2.2.2.2.2.1 l1 (nKind (s.2.2.1.2.2.2.2.2.1 l1) 5)) l1) (if ((va_up s.2.2.1.2.2.2.2.2.1 l1 (nKind (s.2.2.1.2.2.2.2.2.1 l1) 5)) l1).2.1.1 < s.2.1.2.2.2.2.2.2.2.1 then s.2.1.2.2.2.2.2.2.2.1 else ((va_up s.2.2.1.2.2.2.2.2.1 l1 (nKind (s.2.2.1.2.2.2.2.2.1 l1) 5)) l1).2.1.1))), s.2.2.1.2.2.2.2.2.2), s.2.2.2))) else none
/-- FormulaShaperModel.cells -/
def FM_cells  (s : xMs) : Option (xo Nat xMs) := (FM_node 4 s).bind fun r232 => (FM_corner r232.1 r232.2).bind fun r235 => (FM_next 58 r235).bind fun r238 => if r238.1 = true then ((FM_blanks (r238.2.1, (r238.2.2.1.1, (r238.2.2.1.2.1 + 1), r238.2.2.1.2.2), r238.2.2.2)).bind fun r242 => (FM_cell_Z r242).bind fun r245 => if r245.1 = true then (FM_cells_61 r232.1 r245.2) else (xo_b (FM_bad r245.2.2.1.2.1 r245.2) fun r258 => FM_cells_61 r232.1 r258.2)) else (some (.inl (r232.1, (r238.2.1, (r238.2.2.1.1, r235.2.1.2.1, r238.2.2.1.2.2), r238.2.2.2))))
set_option maxRecDepth 20000 in
theorem CM_cells_126 {w : xw_G} {h : xw_H} (hb : xMb h)  {l1 : Nat} {s : xMs} {out : (xo Nat xMs)} {h0 : xw_H} {m0 n0 : Nat} (hm : m0 ≤ s.2.2.1.2.2.2.2.2.2.1 ∧ n0 ≤ s.2.2.1.2.2.2.2.2.2.2) (hF : FM_cells_126 l1 s = some out) : xw_Y w mM_cells 7 121 (xo_P (fun x => some (.ref (xn x))) (fun s => mV s h) out) h0 m0 n0 s.2.2.1.2.2.2.2.2.2.1 s.2.2.1.2.2.2.2.2.2.2 (xo_s out).2.2.1.2.2.2.2.2.2.1 (xo_s out).2.2.1.2.2.2.2.2.2.2 126 [some (.ref 2000), some (.ref (xn l1)), none] [] (mV s h) := by
  unfold FM_cells_126 at hF
  refine xy_r (xw_aload_n dM_cells_126 rfl) ?_
  refine xy_r (xw_aload_n dM_cells_127 rfl) ?_
  obtain ⟨g254, hF⟩ := xg_g hF
  refine xy_r (xw_get dM_cells_128 fM_368 (mV_n g254) rfl) ?_
  refine xy_r (xw_aload_n dM_cells_131 rfl) ?_
  refine xy_r (xw_get dM_cells_132 fM_311 rfl rfl) ?_
  refine xy_q (fun hq => xw_mmin dM_cells_135 tw_1268 (Nat.le_of_ble_eq_true rfl) (Nat.le_of_ble_eq_true rfl) (Nat.sub_le_sub_right hq.1 _) (Nat.sub_le_sub_right hq.2 _)) ?_
  refine xy_r (xg_put dM_cells_138 fM_368 (mV_n g254) (xn_le _) (Nat.le_of_ble_eq_true rfl) (fun _ => rfl) (fun _ => rfl) (mV_pn (q := (nRow (s.2.2.1.2.2.2.2.2.1 l1) (if s.2.1.2.2.2.2.2.2.2.1 < (s.2.2.1.2.2.2.2.2.1 l1).2.1.1 then s.2.1.2.2.2.2.2.2.2.1 else (s.2.2.1.2.2.2.2.2.1 l1).2.1.1))) g254)) ?_
  refine xy_r (xw_aload_n dM_cells_141 rfl) ?_
  refine xy_r (xw_aload_n dM_cells_142 rfl) ?_
  refine xy_r (xw_get dM_cells_143 fM_371 (mV_n g254) rfl) ?_
  refine xy_r (xw_aload_n dM_cells_146 rfl) ?_
  refine xy_r (xw_get dM_cells_147 fM_302 rfl rfl) ?_
  refine xy_q (fun hq => xw_mmax dM_cells_150 tw_1267 (Nat.le_of_ble_eq_true rfl) (Nat.le_of_ble_eq_true rfl) (Nat.sub_le_sub_right hq.1 _) (Nat.sub_le_sub_right hq.2 _)) ?_
  refine xy_r (xg_put dM_cells_153 fM_398 (mV_n g254) (xn_le _) (Nat.le_of_ble_eq_true rfl) (fun _ => rfl) (fun _ => rfl) (mV_pn (q := (nLc ((va_up s.2.2.1.2.2.2.2.2.1 l1 (nRow (s.2.2.1.2.2.2.2.2.1 l1) (if s.2.1.2.2.2.2.2.2.2.1 < (s.2.2.1.2.2.2.2.2.1 l1).2.1.1 then s.2.1.2.2.2.2.2.2.2.1 else (s.2.2.1.2.2.2.2.2.1 l1).2.1.1))) l1) (if ((va_up s.2.2.1.2.2.2.2.2.1 l1 (nRow (s.2.2.1.2.2.2.2.2.1 l1) (if s.2.1.2.2.2.2.2.2.2.1 < (s.2.2.1.2.2.2.2.2.1 l1).2.1.1 then s.2.1.2.2.2.2.2.2.2.1 else (s.2.2.1.2.2.2.2.2.1 l1).2.1.1))) l1).2.1.2.1 < s.2.1.2.2.2.2.2.2.2.2 then s.2.1.2.2.2.2.2.2.2.2 else ((va_up s.2.2.1.2.2.2.2.2.1 l1 (nRow (s.2.2.1.2.2.2.2.2.1 l1) (if s.2.1.2.2.2.2.2.2.2.1 < (s.2.2.1.2.2.2.2.2.1 l1).2.1.1 then s.2.1.2.2.2.2.2.2.2.1 else (s.2.2.1.2.2.2.2.2.1 l1).2.1.1))) l1).2.1.2.1))) g254)) ?_
  refine xy_r (xw_aload_n dM_cells_156 rfl) ?_
  refine xy_r (xw_aload_n dM_cells_157 rfl) ?_
  refine xy_r (xw_get dM_cells_158 fM_371 (mV_n g254) rfl) ?_
  refine xy_r (xw_aload_n dM_cells_161 rfl) ?_
  refine xy_r (xw_get dM_cells_162 fM_302 rfl rfl) ?_
  refine xy_br (xw_icmp_le 175 dM_cells_165 (by decide)) (fun c255 => ?_) (fun c255 => ?_)
  · replace hF := xg_t c255 hF
    refine xy_r (xw_aload_n dM_cells_175 rfl) ?_
    refine xy_r (xw_get dM_cells_176 fM_298 rfl rfl) ?_
    refine xy_r (xg_put dM_cells_179 fM_401 (mV_n g254) (xn_le _) (Nat.le_of_ble_eq_true rfl) (fun _ => xb_nar s.2.1.2.2.2.2.2.2.1) (fun _ => xb_fit s.2.1.2.2.2.2.2.2.1) (mV_pn (q := (nLcs ((va_up (va_up s.2.2.1.2.2.2.2.2.1 l1 (nRow (s.2.2.1.2.2.2.2.2.1 l1) (if s.2.1.2.2.2.2.2.2.2.1 < (s.2.2.1.2.2.2.2.2.1 l1).2.1.1 then s.2.1.2.2.2.2.2.2.2.1 else (s.2.2.1.2.2.2.2.2.1 l1).2.1.1))) l1 (nLc ((va_up s.2.2.1.2.2.2.2.2.1 l1 (nRow (s.2.2.1.2.2.2.2.2.1 l1) (if s.2.1.2.2.2.2.2.2.2.1 < (s.2.2.1.2.2.2.2.2.1 l1).2.1.1 then s.2.1.2.2.2.2.2.2.2.1 else (s.2.2.1.2.2.2.2.2.1 l1).2.1.1))) l1) (if ((va_up s.2.2.1.2.2.2.2.2.1 l1 (nRow (s.2.2.1.2.2.2.2.2.1 l1) (if s.2.1.2.2.2.2.2.2.2.1 < (s.2.2.1.2.2.2.2.2.1 l1).2.1.1 then s.2.1.2.2.2.2.2.2.2.1 else (s.2.2.1.2.2.2.2.2.1 l1).2.1.1))) l1).2.1.2.1 < s.2.1.2.2.2.2.2.2.2.2 then s.2.1.2.2.2.2.2.2.2.2 else ((va_up s.2.2.1.2.2.2.2.2.1 l1 (nRow (s.2.2.1.2.2.2.2.2.1 l1) (if s.2.1.2.2.2.2.2.2.2.1 < (s.2.2.1.2.2.2.2.2.1 l1).2.1.1 then s.2.1.2.2.2.2.2.2.2.1 else (s.2.2.1.2.2.2.2.2.1 l1).2.1.1))) l1).2.1.2.1))) l1) s.2.1.2.2.2.2.2.2.1)) g254)) ?_
    refine xy_r (xw_aload_n dM_cells_182 rfl) ?_
    refine xy_r (xw_get dM_cells_183 fM_302 rfl rfl) ?_
    refine xy_r (xw_aload_n dM_cells_186 rfl) ?_
    refine xy_r (xw_get dM_cells_187 fM_371 (mV_n g254) rfl) ?_
    refine xy_br (xw_icmp_ge 201 dM_cells_190 (by decide)) (fun c256 => ?_) (fun c256 => ?_)
    · replace hF := xg_t c256 hF
      refine xy_r (xw_aload_n dM_cells_201 rfl) ?_
      refine xy_r (xw_aload_n dM_cells_202 rfl) ?_
      refine xy_r (xw_get dM_cells_203 fM_371 (mV_n g254) rfl) ?_
      refine xy_r (xw_aload_n dM_cells_206 rfl) ?_
      refine xy_r (xw_get dM_cells_207 fM_302 rfl rfl) ?_
      refine xy_q (fun hq => xw_mmin dM_cells_210 tw_1268 (Nat.le_of_ble_eq_true rfl) (Nat.le_of_ble_eq_true rfl) (Nat.sub_le_sub_right hq.1 _) (Nat.sub_le_sub_right hq.2 _)) ?_
      refine xy_r (xg_put dM_cells_213 fM_371 (mV_n g254) (xn_le _) (Nat.le_of_ble_eq_true rfl) (fun _ => rfl) (fun _ => rfl) (mV_pn (q := (nCol ((va_up (va_up (va_up s.2.2.1.2.2.2.2.2.1 l1 (nRow (s.2.2.1.2.2.2.2.2.1 l1) (if s.2.1.2.2.2.2.2.2.2.1 < (s.2.2.1.2.2.2.2.2.1 l1).2.1.1 then s.2.1.2.2.2.2.2.2.2.1 else (s.2.2.1.2.2.2.2.2.1 l1).2.1.1))) l1 (nLc ((va_up s.2.2.1.2.2.2.2.2.1 l1 (nRow (s.2.2.1.2.2.2.2.2.1 l1) (if s.2.1.2.2.2.2.2.2.2.1 < (s.2.2.1.2.2.2.2.2.1 l1).2.1.1 then s.2.1.2.2.2.2.2.2.2.1 else (s.2.2.1.2.2.2.2.2.1 l1).2.1.1))) l1) (if ((va_up s.2.2.1.2.2.2.2.2.1 l1 (nRow (s.2.2.1.2.2.2.2.2.1 l1) (if s.2.1.2.2.2.2.2.2.2.1 < (s.2.2.1.2.2.2.2.2.1 l1).2.1.1 then s.2.1.2.2.2.2.2.2.2.1 else (s.2.2.1.2.2.2.2.2.1 l1).2.1.1))) l1).2.1.2.1 < s.2.1.2.2.2.2.2.2.2.2 then s.2.1.2.2.2.2.2.2.2.2 else ((va_up s.2.2.1.2.2.2.2.2.1 l1 (nRow (s.2.2.1.2.2.2.2.2.1 l1) (if s.2.1.2.2.2.2.2.2.2.1 < (s.2.2.1.2.2.2.2.2.1 l1).2.1.1 then s.2.1.2.2.2.2.2.2.2.1 else (s.2.2.1.2.2.2.2.2.1 l1).2.1.1))) l1).2.1.2.1))) l1 (nLcs ((va_up (va_up s.2.2.1.2.2.2.2.2.1 l1 (nRow (s.2.2.1.2.2.2.2.2.1 l1) (if s.2.1.2.2.2.2.2.2.2.1 < (s.2.2.1.2.2.2.2.2.1 l1).2.1.1 then s.2.1.2.2.2.2.2.2.2.1 else (s.2.2.1.2.2.2.2.2.1 l1).2.1.1))) l1 (nLc ((va_up s.2.2.1.2.2.2.2.2.1 l1 (nRow (s.2.2.1.2.2.2.2.2.1 l1) (if s.2.1.2.2.2.2.2.2.2.1 < (s.2.2.1.2.2.2.2.2.1 l1).2.1.1 then s.2.1.2.2.2.2.2.2.2.1 else (s.2.2.1.2.2.2.2.2.1 l1).2.1.1))) l1) (if ((va_up s.2.2.1.2.2.2.2.2.1 l1 (nRow (s.2.2.1.2.2.2.2.2.1 l1) (if s.2.1.2.2.2.2.2.2.2.1 < (s.2.2.1.2.2.2.2.2.1 l1).2.1.1 then s.2.1.2.2.2.2.2.2.2.1 else (s.2.2.1.2.2.2.2.2.1 l1).2.1.1))) l1).2.1.2.1 < s.2.1.2.2.2.2.2.2.2.2 then s.2.1.2.2.2.2.2.2.2.2 else ((va_up s.2.2.1.2.2.2.2.2.1 l1 (nRow (s.2.2.1.2.2.2.2.2.1 l1) (if s.2.1.2.2.2.2.2.2.2.1 < (s.2.2.1.2.2.2.2.2.1 l1).2.1.1 then s.2.1.2.2.2.2.2.2.2.1 else (s.2.2.1.2.2.2.2.2.1 l1).2.1.1))) l1).2.1.2.1))) l1) s.2.1.2.2.2.2.2.2.1)) l1) (if s.2.1.2.2.2.2.2.2.2.2 < ((va_up (va_up (va_up s.2.2.1.2.2.2.2.2.1 l1 (nRow (s.2.2.1.2.2.2.2.2.1 l1) (if s.2.1.2.2.2.2.2.2.2.1 < (s.2.2.1.2.2.2.2.2.1 l1).2.1.1 then s.2.1.2.2.2.2.2.2.2.1 else (s.2.2.1.2.2.2.2.2.1 l1).2.1.1))) l1 (nLc ((va_up s.2.2.1.2.2.2.2.2.1 l1 (nRow (s.2.2.1.2.2.2.2.2.1 l1) (if s.2.1.2.2.2.2.2.2.2.1 < (s.2.2.1.2.2.2.2.2.1 l1).2.1.1 then s.2.1.2.2.2.2.2.2.2.1 else (s.2.2.1.2.2.2.2.2.1 l1).2.1.1))) l1) (if ((va_up s.2.2.1.2.2.2.2.2.1 l1 (nRow (s.2.2.1.2.2.2.2.2.1 l1) (if s.2.1.2.2.2.2.2.2.2.1 < (s.2.2.1.2.2.2.2.2.1 l1).2.1.1 then s.2.1.2.2.2.2.2.2.2.1 else (s.2.2.1.2.2.2.2.2.1 l1).2.1.1))) l1).2.1.2.1 < s.2.1.2.2.2.2.2.2.2.2 then s.2.1.2.2.2.2.2.2.2.2 else ((va_up s.2.2.1.2.2.2.2.2.1 l1 (nRow (s.2.2.1.2.2.2.2.2.1 l1) (if s.2.1.2.2.2.2.2.2.2.1 < (s.2.2.1.2.2.2.2.2.1 l1).2.1.1 then s.2.1.2.2.2.2.2.2.2.1 else (s.2.2.1.2.2.2.2.2.1 l1).2.1.1))) l1).2.1.2.1))) l1 (nLcs ((va_up (va_up s.2.2.1.2.2.2.2.2.1 l1 (nRow (s.2.2.1.2.2.2.2.2.1 l1) (if s.2.1.2.2.2.2.2.2.2.1 < (s.2.2.1.2.2.2.2.2.1 l1).2.1.1 then s.2.1.2.2.2.2.2.2.2.1 else (s.2.2.1.2.2.2.2.2.1 l1).2.1.1))) l1 (nLc ((va_up s.2.2.1.2.2.2.2.2.1 l1 (nRow (s.2.2.1.2.2.2.2.2.1 l1) (if s.2.1.2.2.2.2.2.2.2.1 < (s.2.2.1.2.2.2.2.2.1 l1).2.1.1 then s.2.1.2.2.2.2.2.2.2.1 else (s.2.2.1.2.2.2.2.2.1 l1).2.1.1))) l1) (if ((va_up s.2.2.1.2.2.2.2.2.1 l1 (nRow (s.2.2.1.2.2.2.2.2.1 l1) (if s.2.1.2.2.2.2.2.2.2.1 < (s.2.2.1.2.2.2.2.2.1 l1).2.1.1 then s.2.1.2.2.2.2.2.2.2.1 else (s.2.2.1.2.2.2.2.2.1 l1).2.1.1))) l1).2.1.2.1 < s.2.1.2.2.2.2.2.2.2.2 then s.2.1.2.2.2.2.2.2.2.2 else ((va_up s.2.2.1.2.2.2.2.2.1 l1 (nRow (s.2.2.1.2.2.2.2.2.1 l1) (if s.2.1.2.2.2.2.2.2.2.1 < (s.2.2.1.2.2.2.2.2.1 l1).2.1.1 then s.2.1.2.2.2.2.2.2.2.1 else (s.2.2.1.2.2.2.2.2.1 l1).2.1.1))) l1).2.1.2.1))) l1) s.2.1.2.2.2.2.2.2.1)) l1).2.1.2.1 then s.2.1.2.2.2.2.2.2.2.2 else ((va_up (va_up (va_up s.2.2.1.2.2.2.2.2.1 l1 (nRow (s.2.2.1.2.2.2.2.2.1 l1) (if s.2.1.2.2.2.2.2.2.2.1 < (s.2.2.1.2.2.2.2.2.1 l1).2.1.1 then s.2.1.2.2.2.2.2.2.2.1 else (s.2.2.1.2.2.2.2.2.1 l1).2.1.1))) l1 (nLc ((va_up s.2.2.1.2.2.2.2.2.1 l1 (nRow (s.2.2.1.2.2.2.2.2.1 l1) (if s.2.1.2.2.2.2.2.2.2.1 < (s.2.2.1.2.2.2.2.2.1 l1).2.1.1 then s.2.1.2.2.2.2.2.2.2.1 else (s.2.2.1.2.2.2.2.2.1 l1).2.1.1))) l1) (if ((va_up s.2.2.1.2.2.2.2.2.1 l1 (nRow (s.2.2.1.2.2.2.2.2.1 l1) (if s.2.1.2.2.2.2.2.2.2.1 < (s.2.2.1.2.2.2.2.2.1 l1).2.1.1 then s.2.1.2.2.2.2.2.2.2.1 else (s.2.2.1.2.2.2.2.2.1 l1).2.1.1))) l1).2.1.2.1 < s.2.1.2.2.2.2.2.2.2.2 then s.2.1.2.2.2.2.2.2.2.2 else ((va_up s.2.2.1.2.2.2.2.2.1 l1 (nRow (s.2.2.1.2.2.2.2.2.1 l1) (if s.2.1.2.2.2.2.2.2.2.1 < (s.2.2.1.2.2.2.2.2.1 l1).2.1.1 then s.2.1.2.2.2.2.2.2.2.1 else (s.2.2.1.2.2.2.2.2.1 l1).2.1.1))) l1).2.1.2.1))) l1 (nLcs ((va_up (va_up s.2.2.1.2.2.2.2.2.1 l1 (nRow (s.2.2.1.2.2.2.2.2.1 l1) (if s.2.1.2.2.2.2.2.2.2.1 < (s.2.2.1.2.2.2.2.2.1 l1).2.1.1 then s.2.1.2.2.2.2.2.2.2.1 else (s.2.2.1.2.2.2.2.2.1 l1).2.1.1))) l1 (nLc ((va_up s.2.2.1.2.2.2.2.2.1 l1 (nRow (s.2.2.1.2.2.2.2.2.1 l1) (if s.2.1.2.2.2.2.2.2.2.1 < (s.2.2.1.2.2.2.2.2.1 l1).2.1.1 then s.2.1.2.2.2.2.2.2.2.1 else (s.2.2.1.2.2.2.2.2.1 l1).2.1.1))) l1) (if ((va_up s.2.2.1.2.2.2.2.2.1 l1 (nRow (s.2.2.1.2.2.2.2.2.1 l1) (if s.2.1.2.2.2.2.2.2.2.1 < (s.2.2.1.2.2.2.2.2.1 l1).2.1.1 then s.2.1.2.2.2.2.2.2.2.1 else (s.2.2.1.2.2.2.2.2.1 l1).2.1.1))) l1).2.1.2.1 < s.2.1.2.2.2.2.2.2.2.2 then s.2.1.2.2.2.2.2.2.2.2 else ((va_up s.2.2.1.2.2.2.2.2.1 l1 (nRow (s.2.2.1.2.2.2.2.2.1 l1) (if s.2.1.2.2.2.2.2.2.2.1 < (s.2.2.1.2.2.2.2.2.1 l1).2.1.1 then s.2.1.2.2.2.2.2.2.2.1 else (s.2.2.1.2.2.2.2.2.1 l1).2.1.1))) l1).2.1.2.1))) l1) s.2.1.2.2.2.2.2.2.1)) l1).2.1.2.1))) g254)) ?_
      refine xy_r (xw_aload_n dM_cells_216 rfl) ?_
      refine xy_r (xw_aload_n dM_cells_217 rfl) ?_
      refine xy_r (xw_get dM_cells_218 fM_314 rfl rfl) ?_
      refine xy_r (xg_put dM_cells_221 fM_221 rfl (by decide) (Nat.le_of_ble_eq_true rfl) (fun _ => rfl) (fun _ => rfl) (mV_o (s' := (s.1, (s.2.1.1, s.2.1.2.2.2.2.1, s.2.1.2.2), (s.2.2.1.1, s.2.2.1.2.1, s.2.2.1.2.2.1, s.2.2.1.2.2.2.1, s.2.2.1.2.2.2.2.1, (va_up (va_up (va_up (va_up s.2.2.1.2.2.2.2.2.1 l1 (nRow (s.2.2.1.2.2.2.2.2.1 l1) (if s.2.1.2.2.2.2.2.2.2.1 < (s.2.2.1.2.2.2.2.2.1 l1).2.1.1 then s.2.1.2.2.2.2.2.2.2.1 else (s.2.2.1.2.2.2.2.2.1 l1).2.1.1))) l1 (nLc ((va_up s.2.2.1.2.2.2.2.2.1 l1 (nRow (s.2.2.1.2.2.2.2.2.1 l1) (if s.2.1.2.2.2.2.2.2.2.1 < (s.2.2.1.2.2.2.2.2.1 l1).2.1.1 then s.2.1.2.2.2.2.2.2.2.1 else (s.2.2.1.2.2.2.2.2.1 l1).2.1.1))) l1) (if ((va_up s.2.2.1.2.2.2.2.2.1 l1 (nRow (s.2.2.1.2.2.2.2.2.1 l1) (if s.2.1.2.2.2.2.2.2.2.1 < (s.2.2.1.2.2.2.2.2.1 l1).2.1.1 then s.2.1.2.2.2.2.2.2.2.1 else (s.2.2.1.2.2.2.2.2.1 l1).2.1.1))) l1).2.1.2.1 < s.2.1.2.2.2.2.2.2.2.2 then s.2.1.2.2.2.2.2.2.2.2 else ((va_up s.2.2.1.2.2.2.2.2.1 l1 (nRow (s.2.2.1.2.2.2.2.2.1 l1) (if s.2.1.2.2.2.2.2.2.2.1 < (s.2.2.1.2.2.2.2.2.1 l1).2.1.1 then s.2.1.2.2.2.2.2.2.2.1 else (s.2.2.1.2.2.2.2.2.1 l1).2.1.1))) l1).2.1.2.1))) l1 (nLcs ((va_up (va_up s.2.2.1.2.2.2.2.2.1 l1 (nRow (s.2.2.1.2.2.2.2.2.1 l1) (if s.2.1.2.2.2.2.2.2.2.1 < (s.2.2.1.2.2.2.2.2.1 l1).2.1.1 then s.2.1.2.2.2.2.2.2.2.1 else (s.2.2.1.2.2.2.2.2.1 l1).2.1.1))) l1 (nLc ((va_up s.2.2.1.2.2.2.2.2.1 l1 (nRow (s.2.2.1.2.2.2.2.2.1 l1) (if s.2.1.2.2.2.2.2.2.2.1 < (s.2.2.1.2.2.2.2.2.1 l1).2.1.1 then s.2.1.2.2.2.2.2.2.2.1 else (s.2.2.1.2.2.2.2.2.1 l1).2.1.1))) l1) (if ((va_up s.2.2.1.2.2.2.2.2.1 l1 (nRow (s.2.2.1.2.2.2.2.2.1 l1) (if s.2.1.2.2.2.2.2.2.2.1 < (s.2.2.1.2.2.2.2.2.1 l1).2.1.1 then s.2.1.2.2.2.2.2.2.2.1 else (s.2.2.1.2.2.2.2.2.1 l1).2.1.1))) l1).2.1.2.1 < s.2.1.2.2.2.2.2.2.2.2 then s.2.1.2.2.2.2.2.2.2.2 else ((va_up s.2.2.1.2.2.2.2.2.1 l1 (nRow (s.2.2.1.2.2.2.2.2.1 l1) (if s.2.1.2.2.2.2.2.2.2.1 < (s.2.2.1.2.2.2.2.2.1 l1).2.1.1 then s.2.1.2.2.2.2.2.2.2.1 else (s.2.2.1.2.2.2.2.2.1 l1).2.1.1))) l1).2.1.2.1))) l1) s.2.1.2.2.2.2.2.2.1)) l1 (nCol ((va_up (va_up (va_up s.2.2.1.2.2.2.2.2.1 l1 (nRow (s.2.2.1.2.2.2.2.2.1 l1) (if s.2.1.2.2.2.2.2.2.2.1 < (s.2.2.1.2.2.2.2.2.1 l1).2.1.1 then s.2.1.2.2.2.2.2.2.2.1 else (s.2.2.1.2.2.2.2.2.1 l1).2.1.1))) l1 (nLc ((va_up s.2.2.1.2.2.2.2.2.1 l1 (nRow (s.2.2.1.2.2.2.2.2.1 l1) (if s.2.1.2.2.2.2.2.2.2.1 < (s.2.2.1.2.2.2.2.2.1 l1).2.1.1 then s.2.1.2.2.2.2.2.2.2.1 else (s.2.2.1.2.2.2.2.2.1 l1).2.1.1))) l1) (if ((va_up s.2.2.1.2.2.2.2.2.1 l1 (nRow (s.2.2.1.2.2.2.2.2.1 l1) (if s.2.1.2.2.2.2.2.2.2.1 < (s.2.2.1.2.2.2.2.2.1 l1).2.1.1 then s.2.1.2.2.2.2.2.2.2.1 else (s.2.2.1.2.2.2.2.2.1 l1).2.1.1))) l1).2.1.2.1 < s.2.1.2.2.2.2.2.2.2.2 then s.2.1.2.2.2.2.2.2.2.2 else ((va_up s.2.2.1.2.2.2.2.2.1 l1 (nRow (s.2.2.1.2.2.2.2.2.1 l1) (if s.2.1.2.2.2.2.2.2.2.1 < (s.2.2.1.2.2.2.2.2.1 l1).2.1.1 then s.2.1.2.2.2.2.2.2.2.1 else (s.2.2.1.2.2.2.2.2.1 l1).2.1.1))) l1).2.1.2.1))) l1 (nLcs ((va_up (va_up s.2.2.1.2.2.2.2.2.1 l1 (nRow (s.2.2.1.2.2.2.2.2.1 l1) (if s.2.1.2.2.2.2.2.2.2.1 < (s.2.2.1.2.2.2.2.2.1 l1).2.1.1 then s.2.1.2.2.2.2.2.2.2.1 else (s.2.2.1.2.2.2.2.2.1 l1).2.1.1))) l1 (nLc ((va_up s.2.2.1.2.2.2.2.2.1 l1 (nRow (s.2.2.1.2.2.2.2.2.1 l1) (if s.2.1.2.2.2.2.2.2.2.1 < (s.2.2.1.2.2.2.2.2.1 l1).2.1.1 then s.2.1.2.2.2.2.2.2.2.1 else (s.2.2.1.2.2.2.2.2.1 l1).2.1.1))) l1) (if ((va_up s.2.2.1.2.2.2.2.2.1 l1 (nRow (s.2.2.1.2.2.2.2.2.1 l1) (if s.2.1.2.2.2.2.2.2.2.1 < (s.2.2.1.2.2.2.2.2.1 l1).2.1.1 then s.2.1.2.2.2.2.2.2.2.1 else (s.2.2.1.2.2.2.2.2.1 l1).2.1.1))) l1).2.1.2.1 < s.2.1.2.2.2.2.2.2.2.2 then s.2.1.2.2.2.2.2.2.2.2 else ((va_up s.2.2.1.2.2.2.2.2.1 l1 (nRow (s.2.2.1.2.2.2.2.2.1 l1) (if s.2.1.2.2.2.2.2.2.2.1 < (s.2.2.1.2.2.2.2.2.1 l1).2.1.1 then s.2.1.2.2.2.2.2.2.2.1 else (s.2.2.1.2.2.2.2.2.1 l1).2.1.1))) l1).2.1.2.1))) l1) s.2.1.2.2.2.2.2.2.1)) l1) (if s.2.1.2.2.2.2.2.2.2.2 < ((va_up (va_up (va_up s.2.2.1.2.2.2.2.2.1 l1 (nRow (s.2.2.1.2.2.2.2.2.1 l1) (if s.2.1.2.2.2.2.2.2.2.1 < (s.2.2.1.2.2.2.2.2.1 l1).2.1.1 then s.2.1.2.2.2.2.2.2.2.1 else (s.2.2.1.2.2.2.2.2.1 l1).2.1.1))) l1 (nLc ((va_up s.2.2.1.2.2.2.2.2.1 l1 (nRow (s.2.2.1.2.2.2.2.2.1 l1) (if s.2.1.2.2.2.2.2.2.2.1 < (s.2.2.1.2.2.2.2.2.1 l1).2.1.1 then s.2.1.2.2.2.2.2.2.2.1 else (s.2.2.1.2.2.2.2.2.1 l1).2.1.1))) l1) (if ((va_up s.2.2.1.2.2.2.2.2.1 l1 (nRow (s.2.2.1.2.2.2.2.2.1 l1) (if s.2.1.2.2.2.2.2.2.2.1 < (s.2.2.1.2.2.2.2.2.1 l1).2.1.1 then s.2.1.2.2.2.2.2.2.2.1 else (s.2.2.1.2.2.2.2.2.1 l1).2.1.1))) l1).2.1.2.1 < s.2.1.2.2.2.2.2.2.2.2 then s.2.1.2.2.2.2.2.2.2.2 else ((va_up s.2.2.1.2.2.2.2.2.1 l1 (nRow (s.2.2.1.2.2.2.2.2.1 l1) (if s.2.1.2.2.2.2.2.2.2.1 < (s.2.2.1.2.2.2.2.2.1 l1).2.1.1 then s.2.1.2.2.2.2.2.2.2.1 else (s.2.2.1.2.2.2.2.2.1 l1).2.1.1))) l1).2.1.2.1))) l1 (nLcs ((va_up (va_up s.2.2.1.2.2.2.2.2.1 l1 (nRow (s.2.2.1.2.2.2.2.2.1 l1) (if s.2.1.2.2.2.2.2.2.2.1 < (s.2.2.1.2.2.2.2.2.1 l1).2.1.1 then s.2.1.2.2.2.2.2.2.2.1 else (s.2.2.1.2.2.2.2.2.1 l1).2.1.1))) l1 (nLc ((va_up s.2.2.1.2.2.2.2.2.1 l1 (nRow (s.2.2.1.2.2.2.2.2.1 l1) (if s.2.1.2.2.2.2.2.2.2.1 < (s.2.2.1.2.2.2.2.2.1 l1).2.1.1 then s.2.1.2.2.2.2.2.2.2.1 else (s.2.2.1.2.2.2.2.2.1 l1).2.1.1))) l1) (if ((va_up s.2.2.1.2.2.2.2.2.1 l1 (nRow (s.2.2.1.2.2.2.2.2.1 l1) (if s.2.1.2.2.2.2.2.2.2.1 < (s.2.2.1.2.2.2.2.2.1 l1).2.1.1 then s.2.1.2.2.2.2.2.2.2.1 else (s.2.2.1.2.2.2.2.2.1 l1).2.1.1))) l1).2.1.2.1 < s.2.1.2.2.2.2.2.2.2.2 then s.2.1.2.2.2.2.2.2.2.2 else ((va_up s.2.2.1.2.2.2.2.2.1 l1 (nRow (s.2.2.1.2.2.2.2.2.1 l1) (if s.2.1.2.2.2.2.2.2.2.1 < (s.2.2.1.2.2.2.2.2.1 l1).2.1.1 then s.2.1.2.2.2.2.2.2.2.1 else (s.2.2.1.2.2.2.2.2.1 l1).2.1.1))) l1).2.1.2.1))) l1) s.2.1.2.2.2.2.2.2.1)) l1).2.1.2.1 then s.2.1.2.2.2.2.2.2.2.2 else ((va_up (va_up (va_up s.2.2.1.2.2.2.2.2.1 l1 (nRow (s.2.2.1.2.2.2.2.2.1 l1) (if s.2.1.2.2.2.2.2.2.2.1 < (s.2.2.1.2.2.2.2.2.1 l1).2.1.1 then s.2.1.2.2.2.2.2.2.2.1 else (s.2.2.1.2.2.2.2.2.1 l1).2.1.1))) l1 (nLc ((va_up s.2.2.1.2.2.2.2.2.1 l1 (nRow (s.2.2.1.2.2.2.2.2.1 l1) (if s.2.1.2.2.2.2.2.2.2.1 < (s.2.2.1.2.2.2.2.2.1 l1).2.1.1 then s.2.1.2.2.2.2.2.2.2.1 else (s.2.2.1.2.2.2.2.2.1 l1).2.1.1))) l1) (if ((va_up s.2.2.1.2.2.2.2.2.1 l1 (nRow (s.2.2.1.2.2.2.2.2.1 l1) (if s.2.1.2.2.2.2.2.2.2.1 < (s.2.2.1.2.2.2.2.2.1 l1).2.1.1 then s.2.1.2.2.2.2.2.2.2.1 else (s.2.2.1.2.2.2.2.2.1 l1).2.1.1))) l1).2.1.2.1 < s.2.1.2.2.2.2.2.2.2.2 then s.2.1.2.2.2.2.2.2.2.2 else ((va_up s.2.2.1.2.2.2.2.2.1 l1 (nRow (s.2.2.1.2.2.2.2.2.1 l1) (if s.2.1.2.2.2.2.2.2.2.1 < (s.2.2.1.2.2.2.2.2.1 l1).2.1.1 then s.2.1.2.2.2.2.2.2.2.1 else (s.2.2.1.2.2.2.2.2.1 l1).2.1.1))) l1).2.1.2.1))) l1 (nLcs ((va_up (va_up s.2.2.1.2.2.2.2.2.1 l1 (nRow (s.2.2.1.2.2.2.2.2.1 l1) (if s.2.1.2.2.2.2.2.2.2.1 < (s.2.2.1.2.2.2.2.2.1 l1).2.1.1 then s.2.1.2.2.2.2.2.2.2.1 else (s.2.2.1.2.2.2.2.2.1 l1).2.1.1))) l1 (nLc ((va_up s.2.2.1.2.2.2.2.2.1 l1 (nRow (s.2.2.1.2.2.2.2.2.1 l1) (if s.2.1.2.2.2.2.2.2.2.1 < (s.2.2.1.2.2.2.2.2.1 l1).2.1.1 then s.2.1.2.2.2.2.2.2.2.1 else (s.2.2.1.2.2.2.2.2.1 l1).2.1.1))) l1) (if ((va_up s.2.2.1.2.2.2.2.2.1 l1 (nRow (s.2.2.1.2.2.2.2.2.1 l1) (if s.2.1.2.2.2.2.2.2.2.1 < (s.2.2.1.2.2.2.2.2.1 l1).2.1.1 then s.2.1.2.2.2.2.2.2.2.1 else (s.2.2.1.2.2.2.2.2.1 l1).2.1.1))) l1).2.1.2.1 < s.2.1.2.2.2.2.2.2.2.2 then s.2.1.2.2.2.2.2.2.2.2 else ((va_up s.2.2.1.2.2.2.2.2.1 l1 (nRow (s.2.2.1.2.2.2.2.2.1 l1) (if s.2.1.2.2.2.2.2.2.2.1 < (s.2.2.1.2.2.2.2.2.1 l1).2.1.1 then s.2.1.2.2.2.2.2.2.2.1 else (s.2.2.1.2.2.2.2.2.1 l1).2.1.1))) l1).2.1.2.1))) l1) s.2.1.2.2.2.2.2.2.1)) l1).2.1.2.1))), s.2.2.1.2.2.2.2.2.2), s.2.2.2)) rfl)) ?_
      refine xy_r (xw_aload_n dM_cells_224 rfl) ?_
      obtain rfl := Option.some.inj hF
      exact xy_end (xw_areturn dM_cells_225 rfl (Or.inl ⟨_, rfl⟩) (Nat.le_refl _) (Nat.le_refl _) ⟨rfl, rfl⟩)
    · replace hF := xg_f c256 hF
      refine xy_r (xw_aload_n dM_cells_193 rfl) ?_
      refine xy_r (xw_aload_n dM_cells_194 rfl) ?_
      refine xy_r (xw_get dM_cells_195 fM_298 rfl rfl) ?_
      refine xy_r (xg_put dM_cells_198 fM_377 (mV_n g254) (xn_le _) (Nat.le_of_ble_eq_true rfl) (fun _ => xb_nar s.2.1.2.2.2.2.2.2.1) (fun _ => xb_fit s.2.1.2.2.2.2.2.2.1) (mV_pn (q := (nCs ((va_up (va_up (va_up s.2.2.1.2.2.2.2.2.1 l1 (nRow (s.2.2.1.2.2.2.2.2.1 l1) (if s.2.1.2.2.2.2.2.2.2.1 < (s.2.2.1.2.2.2.2.2.1 l1).2.1.1 then s.2.1.2.2.2.2.2.2.2.1 else (s.2.2.1.2.2.2.2.2.1 l1).2.1.1))) l1 (nLc ((va_up s.2.2.1.2.2.2.2.2.1 l1 (nRow (s.2.2.1.2.2.2.2.2.1 l1) (if s.2.1.2.2.2.2.2.2.2.1 < (s.2.2.1.2.2.2.2.2.1 l1).2.1.1 then s.2.1.2.2.2.2.2.2.2.1 else (s.2.2.1.2.2.2.2.2.1 l1).2.1.1))) l1) (if ((va_up s.2.2.1.2.2.2.2.2.1 l1 (nRow (s.2.2.1.2.2.2.2.2.1 l1) (if s.2.1.2.2.2.2.2.2.2.1 < (s.2.2.1.2.2.2.2.2.1 l1).2.1.1 then s.2.1.2.2.2.2.2.2.2.1 else (s.2.2.1.2.2.2.2.2.1 l1).2.1.1))) l1).2.1.2.1 < s.2.1.2.2.2.2.2.2.2.2 then s.2.1.2.2.2.2.2.2.2.2 else ((va_up s.2.2.1.2.2.2.2.2.1 l1 (nRow (s.2.2.1.2.2.2.2.2.1 l1) (if s.2.1.2.2.2.2.2.2.2.1 < (s.2.2.1.2.2.2.2.2.1 l1).2.1.1 then s.2.1.2.2.2.2.2.2.2.1 else (s.2.2.1.2.2.2.2.2.1 l1).2.1.1))) l1).2.1.2.1))) l1 (nLcs ((va_up (va_up s.2.2.1.2.2.2.2.2.1 l1 (nRow (s.2.2.1.2.2.2.2.2.1 l1) (if s.2.1.2.2.2.2.2.2.2.1 < (s.2.2.1.2.2.2.2.2.1 l1).2.1.1 then s.2.1.2.2.2.2.2.2.2.1 else (s.2.2.1.2.2.2.2.2.1 l1).2.1.1))) l1 (nLc ((va_up s.2.2.1.2.2.2.2.2.1 l1 (nRow (s.2.2.1.2.2.2.2.2.1 l1) (if s.2.1.2.2.2.2.2.2.2.1 < (s.2.2.1.2.2.2.2.2.1 l1).2.1.1 then s.2.1.2.2.2.2.2.2.2.1 else (s.2.2.1.2.2.2.2.2.1 l1).2.1.1))) l1) (if ((va_up s.2.2.1.2.2.2.2.2.1 l1 (nRow (s.2.2.1.2.2.2.2.2.1 l1) (if s.2.1.2.2.2.2.2.2.2.1 < (s.2.2.1.2.2.2.2.2.1 l1).2.1.1 then s.2.1.2.2.2.2.2.2.2.1 else (s.2.2.1.2.2.2.2.2.1 l1).2.1.1))) l1).2.1.2.1 < s.2.1.2.2.2.2.2.2.2.2 then s.2.1.2.2.2.2.2.2.2.2 else ((va_up s.2.2.1.2.2.2.2.2.1 l1 (nRow (s.2.2.1.2.2.2.2.2.1 l1) (if s.2.1.2.2.2.2.2.2.2.1 < (s.2.2.1.2.2.2.2.2.1 l1).2.1.1 then s.2.1.2.2.2.2.2.2.2.1 else (s.2.2.1.2.2.2.2.2.1 l1).2.1.1))) l1).2.1.2.1))) l1) s.2.1.2.2.2.2.2.2.1)) l1) s.2.1.2.2.2.2.2.2.1)) g254)) ?_
      refine xy_r (xw_aload_n dM_cells_201 rfl) ?_
      refine xy_r (xw_aload_n dM_cells_202 rfl) ?_
      refine xy_r (xw_get dM_cells_203 fM_371 (mV_n g254) rfl) ?_
      refine xy_r (xw_aload_n dM_cells_206 rfl) ?_
      refine xy_r (xw_get dM_cells_207 fM_302 rfl rfl) ?_
      refine xy_q (fun hq => xw_mmin dM_cells_210 tw_1268 (Nat.le_of_ble_eq_true rfl) (Nat.le_of_ble_eq_true rfl) (Nat.sub_le_sub_right hq.1 _) (Nat.sub_le_sub_right hq.2 _)) ?_
      refine xy_r (xg_put dM_cells_213 fM_371 (mV_n g254) (xn_le _) (Nat.le_of_ble_eq_true rfl) (fun _ => rfl) (fun _ => rfl) (mV_pn (q := (nCol ((va_up (va_up (va_up (va_up s.2.2.1.2.2.2.2.2.1 l1 (nRow (s.2.2.1.2.2.2.2.2.1 l1) (if s.2.1.2.2.2.2.2.2.2.1 < (s.2.2.1.2.2.2.2.2.1 l1).2.1.1 then s.2.1.2.2.2.2.2.2.2.1 else (s.2.2.1.2.2.2.2.2.1 l1).2.1.1))) l1 (nLc ((va_up s.2.2.1.2.2.2.2.2.1 l1 (nRow (s.2.2.1.2.2.2.2.2.1 l1) (if s.2.1.2.2.2.2.2.2.2.1 < (s.2.2.1.2.2.2.2.2.1 l1).2.1.1 then s.2.1.2.2.2.2.2.2.2.1 else (s.2.2.1.2.2.2.2.2.1 l1).2.1.1))) l1) (if ((va_up s.2.2.1.2.2.2.2.2.1 l1 (nRow (s.2.2.1.2.2.2.2.2.1 l1) (if s.2.1.2.2.2.2.2.2.2.1 < (s.2.2.1.2.2.2.2.2.1 l1).2.1.1 then s.2.1.2.2.2.2.2.2.2.1 else (s.2.2.1.2.2.2.2.2.1 l1).2.1.1))) l1).2.1.2.1 < s.2.1.2.2.2.2.2.2.2.2 then s.2.1.2.2.2.2.2.2.2.2 else ((va_up s.2.2.1.2.2.2.2.2.1 l1 (nRow (s.2.2.1.2.2.2.2.2.1 l1) (if s.2.1.2.2.2.2.2.2.2.1 < (s.2.2.1.2.2.2.2.2.1 l1).2.1.1 then s.2.1.2.2.2.2.2.2.2.1 else (s.2.2.1.2.2.2.2.2.1 l1).2.1.1))) l1).2.1.2.1))) l1 (nLcs ((va_up (va_up s.2.2.1.2.2.2.2.2.1 l1 (nRow (s.2.2.1.2.2.2.2.2.1 l1) (if s.2.1.2.2.2.2.2.2.2.1 < (s.2.2.1.2.2.2.2.2.1 l1).2.1.1 then s.2.1.2.2.2.2.2.2.2.1 else (s.2.2.1.2.2.2.2.2.1 l1).2.1.1))) l1 (nLc ((va_up s.2.2.1.2.2.2.2.2.1 l1 (nRow (s.2.2.1.2.2.2.2.2.1 l1) (if s.2.1.2.2.2.2.2.2.2.1 < (s.2.2.1.2.2.2.2.2.1 l1).2.1.1 then s.2.1.2.2.2.2.2.2.2.1 else (s.2.2.1.2.2.2.2.2.1 l1).2.1.1))) l1) (if ((va_up s.2.2.1.2.2.2.2.2.1 l1 (nRow (s.2.2.1.2.2.2.2.2.1 l1) (if s.2.1.2.2.2.2.2.2.2.1 < (s.2.2.1.2.2.2.2.2.1 l1).2.1.1 then s.2.1.2.2.2.2.2.2.2.1 else (s.2.2.1.2.2.2.2.2.1 l1).2.1.1))) l1).2.1.2.1 < s.2.1.2.2.2.2.2.2.2.2 then s.2.1.2.2.2.2.2.2.2.2 else ((va_up s.2.2.1.2.2.2.2.2.1 l1 (nRow (s.2.2.1.2.2.2.2.2.1 l1) (if s.2.1.2.2.2.2.2.2.2.1 < (s.2.2.1.2.2.2.2.2.1 l1).2.1.1 then s.2.1.2.2.2.2.2.2.2.1 else (s.2.2.1.2.2.2.2.2.1 l1).2.1.1))) l1).2.1.2.1))) l1) s.2.1.2.2.2.2.2.2.1)) l1 (nCs ((va_up (va_up (va_up s.2.2.1.2.2.2.2.2.1 l1 (nRow (s.2.2.1.2.2.2.2.2.1 l1) (if s.2.1.2.2.2.2.2.2.2.1 < (s.2.2.1.2.2.2.2.2.1 l1).2.1.1 then s.2.1.2.2.2.2.2.2.2.1 else (s.2.2.1.2.2.2.2.2.1 l1).2.1.1))) l1 (nLc ((va_up s.2.2.1.2.2.2.2.2.1 l1 (nRow (s.2.2.1.2.2.2.2.2.1 l1) (if s.2.1.2.2.2.2.2.2.2.1 < (s.2.2.1.2.2.2.2.2.1 l1).2.1.1 then s.2.1.2.2.2.2.2.2.2.1 else (s.2.2.1.2.2.2.2.2.1 l1).2.1.1))) l1) (if ((va_up s.2.2.1.2.2.2.2.2.1 l1 (nRow (s.2.2.1.2.2.2.2.2.1 l1) (if s.2.1.2.2.2.2.2.2.2.1 < (s.2.2.1.2.2.2.2.2.1 l1).2.1.1 then s.2.1.2.2.2.2.2.2.2.1 else (s.2.2.1.2.2.2.2.2.1 l1).2.1.1))) l1).2.1.2.1 < s.2.1.2.2.2.2.2.2.2.2 then s.2.1.2.2.2.2.2.2.2.2 else ((va_up s.2.2.1.2.2.2.2.2.1 l1 (nRow (s.2.2.1.2.2.2.2.2.1 l1) (if s.2.1.2.2.2.2.2.2.2.1 < (s.2.2.1.2.2.2.2.2.1 l1).2.1.1 then s.2.1.2.2.2.2.2.2.2.1 else (s.2.2.1.2.2.2.2.2.1 l1).2.1.1))) l1).2.1.2.1))) l1 (nLcs ((va_up (va_up s.2.2.1.2.2.2.2.2.1 l1 (nRow (s.2.2.1.2.2.2.2.2.1 l1) (if s.2.1.2.2.2.2.2.2.2.1 < (s.2.2.1.2.2.2.2.2.1 l1).2.1.1 then s.2.1.2.2.2.2.2.2.2.1 else (s.2.2.1.2.2.2.2.2.1 l1).2.1.1))) l1 (nLc ((va_up s.2.2.1.2.2.2.2.2.1 l1 (nRow (s.2.2.1.2.2.2.2.2.1 l1) (if s.2.1.2.2.2.2.2.2.2.1 < (s.2.2.1.2.2.2.2.2.1 l1).2.1.1 then s.2.1.2.2.2.2.2.2.2.1 else (s.2.2.1.2.2.2.2.2.1 l1).2.1.1))) l1) (if ((va_up s.2.2.1.2.2.2.2.2.1 l1 (nRow (s.2.2.1.2.2.2.2.2.1 l1) (if s.2.1.2.2.2.2.2.2.2.1 < (s.2.2.1.2.2.2.2.2.1 l1).2.1.1 then s.2.1.2.2.2.2.2.2.2.1 else (s.2.2.1.2.2.2.2.2.1 l1).2.1.1))) l1).2.1.2.1 < s.2.1.2.2.2.2.2.2.2.2 then s.2.1.2.2.2.2.2.2.2.2 else ((va_up s.2.2.1.2.2.2.2.2.1 l1 (nRow (s.2.2.1.2.2.2.2.2.1 l1) (if s.2.1.2.2.2.2.2.2.2.1 < (s.2.2.1.2.2.2.2.2.1 l1).2.1.1 then s.2.1.2.2.2.2.2.2.2.1 else (s.2.2.1.2.2.2.2.2.1 l1).2.1.1))) l1).2.1.2.1))) l1) s.2.1.2.2.2.2.2.2.1)) l1) s.2.1.2.2.2.2.2.2.1)) l1) (if s.2.1.2.2.2.2.2.2.2.2 < ((va_up (va_up (va_up (va_up s.2.2.1.2.2.2.2.2.1 l1 (nRow (s.2.2.1.2.2.2.2.2.1 l1) (if s.2.1.2.2.2.2.2.2.2.1 < (s.2.2.1.2.2.2.2.2.1 l1).2.1.1 then s.2.1.2.2.2.2.2.2.2.1 else (s.2.2.1.2.2.2.2.2.1 l1).2.1.1))) l1 (nLc ((va_up s.2.2.1.2.2.2.2.2.1 l1 (nRow (s.2.2.1.2.2.2.2.2.1 l1) (if s.2.1.2.2.2.2.2.2.2.1 < (s.2.2.1.2.2.2.2.2.1 l1).2.1.1 then s.2.1.2.2.2.2.2.2.2.1 else (s.2.2.1.2.2.2.2.2.1 l1).2.1.1))) l1) (if ((va_up s.2.2.1.2.2.2.2.2.1 l1 (nRow (s.2.2.1.2.2.2.2.2.1 l1) (if s.2.1.2.2.2.2.2.2.2.1 < (s.2.2.1.2.2.2.2.2.1 l1).2.1.1 then s.2.1.2.2.2.2.2.2.2.1 else (s.2.2.1.2.2.2.2.2.1 l1).2.1.1))) l1).2.1.2.1 < s.2.1.2.2.2.2.2.2.2.2 then s.2.1.2.2.2.2.2.2.2.2 else ((va_up s.2.2.1.2.2.2.2.2.1 l1 (nRow (s.2.2.1.2.2.2.2.2.1 l1) (if s.2.1.2.2.2.2.2.2.2.1 < (s.2.2.1.2.2.2.2.2.1 l1).2.1.1 then s.2.1.2.2.2.2.2.2.2.1 else (s.2.2.1.2.2.2.2.2.1 l1).2.1.1))) l1).2.1.2.1))) l1 (nLcs ((va_up (va_up s.2.2.1.2.2.2.2.2.1 l1 (nRow (s.2.2.1.2.2.2.2.2.1 l1) (if s.2.1.2.2.2.2.2.2.2.1 < (s.2.2.1.2.2.2.2.2.1 l1).2.1.1 then s.2.1.2.2.2.2.2.2.2.1 else (s.2.2.1.2.2.2.2.2.1 l1).2.1.1))) l1 (nLc ((va_up s.2.2.1.2.2.2.2.2.1 l1 (nRow (s.2.2.1.2.2.2.2.2.1 l1) (if s.2.1.2.2.2.2.2.2.2.1 < (s.2.2.1.2.2.2.2.2.1 l1).2.1.1 then s.2.1.2.2.2.2.2.2.2.1 else (s.2.2.1.2.2.2.2.2.1 l1).2.1.1))) l1) (if ((va_up s.2.2.1.2.2.2.2.2.1 l1 (nRow (s.2.2.1.2.2.2.2.2.1 l1) (if s.2.1.2.2.2.2.2.2.2.1 < (s.2.2.1.2.2.2.2.2.1 l1).2.1.1 then s.2.1.2.2.2.2.2.2.2.1 else (s.2.2.1.2.2.2.2.2.1 l1).2.1.1))) l1).2.1.2.1 < s.2.1.2.2.2.2.2.2.2.2 then s.2.1.2.2.2.2.2.2.2.2 else ((va_up s.2.2.1.2.2.2.2.2.1 l1 (nRow (s.2.2.1.2.2.2.2.2.1 l1) (if s.2.1.2.2.2.2.2.2.2.1 < (s.2.2.1.2.2.2.2.2.1 l1).2.1.1 then s.2.1.2.2.2.2.2.2.2.1 else (s.2.2.1.2.2.2.2.2.1 l1).2.1.1))) l1).2.1.2.1))) l1) s.2.1.2.2.2.2.2.2.1)) l1 (nCs ((va_up (va_up (va_up s.2.2.1.2.2.2.2.2.1 l1 (nRow (s.2.2.1.2.2.2.2.2.1 l1) (if s.2.1.2.2.2.2.2.2.2.1 < (s.2.2.1.2.2.2.2.2.1 l1).2.1.1 then s.2.1.2.2.2.2.2.2.2.1 else (s.2.2.1.2.2.2.2.2.1 l1).2.1.1))) l1 (nLc ((va_up s.2.2.1.2.2.2.2.2.1 l1 (nRow (s.2.2.1.2.2.2.2.2.1 l1) (if s.2.1.2.2.2.2.2.2.2.1 < (s.2.2.1.2.2.2.2.2.1 l1).2.1.1 then s.2.1.2.2.2.2.2.2.2.1 else (s.2.2.1.2.2.2.2.2.1 l1).2.1.1))) l1) (if ((va_up s.2.2.1.2.2.2.2.2.1 l1 (nRow (s.2.2.1.2.2.2.2.2.1 l1) (if s.2.1.2.2.2.2.2.2.2.1 < (s.2.2.1.2.2.2.2.2.1 l1).2.1.1 then s.2.1.2.2.2.2.2.2.2.1 else (s.2.2.1.2.2.2.2.2.1 l1).2.1.1))) l1).2.1.2.1 < s.2.1.2.2.2.2.2.2.2.2 then s.2.1.2.2.2.2.2.2.2.2 else ((va_up s.2.2.1.2.2.2.2.2.1 l1 (nRow (s.2.2.1.2.2.2.2.2.1 l1) (if s.2.1.2.2.2.2.2.2.2.1 < (s.2.2.1.2.2.2.2.2.1 l1).2.1.1 then s.2.1.2.2.2.2.2.2.2.1 else (s.2.2.1.2.2.2.2.2.1 l1).2.1.1))) l1).2.1.2.1))) l1 (nLcs ((va_up (va_up s.2.2.1.2.2.2.2.2.1 l1 (nRow (s.2.2.1.2.2.2.2.2.1 l1) (if s.2.1.2.2.2.2.2.2.2.1 < (s.2.2.1.2.2.2.2.2.1 l1).2.1.1 then s.2.1.2.2.2.2.2.2.2.1 else (s.2.2.1.2.2.2.2.2.1 l1).2.1.1))) l1 (nLc ((va_up s.2.2.1.2.2.2.2.2.1 l1 (nRow (s.2.2.1.2.2.2.2.2.1 l1) (if s.2.1.2.2.2.2.2.2.2.1 < (s.2.2.1.2.2.2.2.2.1 l1).2.1.1 then s.2.1.2.2.2.2.2.2.2.1 else (s.2.2.1.2.2.2.2.2.1 l1).2.1.1))) l1) (if ((va_up s.2.2.1.2.2.2.2.2.1 l1 (nRow (s.2.2.1.2.2.2.2.2.1 l1) (if s.2.1.2.2.2.2.2.2.2.1 < (s.2.2.1.2.2.2.2.2.1 l1).2.1.1 then s.2.1.2.2.2.2.2.2.2.1 else (s.2.2.1.2.2.2.2.2.1 l1).2.1.1))) l1).2.1.2.1 < s.2.1.2.2.2.2.2.2.2.2 then s.2.1.2.2.2.2.2.2.2.2 else ((va_up s.2.2.1.2.2.2.2.2.1 l1 (nRow (s.2.2.1.2.2.2.2.2.1 l1) (if s.2.1.2.2.2.2.2.2.2.1 < (s.2.2.1.2.2.2.2.2.1 l1).2.1.1 then s.2.1.2.2.2.2.2.2.2.1 else (s.2.2.1.2.2.2.2.2.1 l1).2.1.1))) l1).2.1.2.1))) l1) s.2.1.2.2.2.2.2.2.1)) l1) s.2.1.2.2.2.2.2.2.1)) l1).2.1.2.1 then s.2.1.2.2.2.2.2.2.2.2 else ((va_up (va_up (va_up (va_up s.2.2.1.2.2.2.2.2.1 l1 (nRow (s.2.2.1.2.2.2.2.2.1 l1) (if s.2.1.2.2.2.2.2.2.2.1 < (s.2.2.1.2.2.2.2.2.1 l1).2.1.1 then s.2.1.2.2.2.2.2.2.2.1 else (s.2.2.1.2.2.2.2.2.1 l1).2.1.1))) l1 (nLc ((va_up s.2.2.1.2.2.2.2.2.1 l1 (nRow (s.2.2.1.2.2.2.2.2.1 l1) (if s.2.1.2.2.2.2.2.2.2.1 < (s.2.2.1.2.2.2.2.2.1 l1).2.1.1 then s.2.1.2.2.2.2.2.2.2.1 else (s.2.2.1.2.2.2.2.2.1 l1).2.1.1))) l1) (if ((va_up s.2.2.1.2.2.2.2.2.1 l1 (nRow (s.2.2.1.2.2.2.2.2.1 l1) (if s.2.1.2.2.2.2.2.2.2.1 < (s.2.2.1.2.2.2.2.2.1 l1).2.1.1 then s.2.1.2.2.2.2.2.2.2.1 else (s.2.2.1.2.2.2.2.2.1 l1).2.1.1))) l1).2.1.2.1 < s.2.1.2.2.2.2.2.2.2.2 then s.2.1.2.2.2.2.2.2.2.2 else ((va_up s.2.2.1.2.2.2.2.2.1 l1 (nRow (s.2.2.1.2.2.2.2.2.1 l1) (if s.2.1.2.2.2.2.2.2.2.1 < (s.2.2.1.2.2.2.2.2.1 l1).2.1.1 then s.2.1.2.2.2.2.2.2.2.1 else (s.2.2.1.2.2.2.2.2.1 l1).2.1.1))) l1).2.1.2.1))) l1 (nLcs ((va_up (va_up s.2.2.1.2.2.2.2.2.1 l1 (nRow (s.2.2.1.2.2.2.2.2.1 l1) (if s.2.1.2.2.2.2.2.2.2.1 < (s.2.2.1.2.2.2.2.2.1 l1).2.1.1 then s.2.1.2.2.2.2.2.2.2.1 else (s.2.2.1.2.2.2.2.2.1 l1).2.1.1))) l1 (nLc ((va_up s.2.2.1.2.2.2.2.2.1 l1 (nRow (s.2.2.1.2.2.2.2.2.1 l1) (if s.2.1.2.2.2.2.2.2.2.1 < (s.2.2.1.2.2.2.2.2.1 l1).2.1.1 then s.2.1.2.2.2.2.2.2.2.1 else (s.2.2.1.2.2.2.2.2.1 l1).2.1.1))) l1) (if ((va_up s.2.2.1.2.2.2.2.2.1 l1 (nRow (s.2.2.1.2.2.2.2.2.1 l1) (if s.2.1.2.2.2.2.2.2.2.1 < (s.2.2.1.2.2.2.2.2.1 l1).2.1.1 then s.2.1.2.2.2.2.2.2.2.1 else (s.2.2.1.2.2.2.2.2.1 l1).2.1.1))) l1).2.1.2.1 < s.2.1.2.2.2.2.2.2.2.2 then s.2.1.2.2.2.2.2.2.2.2 else ((va_up s.2.2.1.2.2.2.2.2.1 l1 (nRow (s.2.2.1.2.2.2.2.2.1 l1) (if s.2.1.2.2.2.2.2.2.2.1 < (s.2.2.1.2.2.2.2.2.1 l1).2.1.1 then s.2.1.2.2.2.2.2.2.2.1 else (s.2.2.1.2.2.2.2.2.1 l1).2.1.1))) l1).2.1.2.1))) l1) s.2.1.2.2.2.2.2.2.1)) l1 (nCs ((va_up (va_up (va_up s.2.2.1.2.2.2.2.2.1 l1 (nRow (s.2.2.1.2.2.2.2.2.1 l1) (if s.2.1.2.2.2.2.2.2.2.1 < (s.2.2.1.2.2.2.2.2.1 l1).2.1.1 then s.2.1.2.2.2.2.2.2.2.1 else (s.2.2.1.2.2.2.2.2.1 l1).2.1.1))) l1 (nLc ((va_up s.2.2.1.2.2.2.2.2.1 l1 (nRow (s.2.2.1.2.2.2.2.2.1 l1) (if s.2.1.2.2.2.2.2.2.2.1 < (s.2.2.1.2.2.2.2.2.1 l1).2.1.1 then s.2.1.2.2.2.2.2.2.2.1 else (s.2.2.1.2.2.2.2.2.1 l1).2.1.1))) l1) (if ((va_up s.2.2.1.2.2.2.2.2.1 l1 (nRow (s.2.2.1.2.2.2.2.2.1 l1) (if s.2.1.2.2.2.2.2.2.2.1 < (s.2.2.1.2.2.2.2.2.1 l1).2.1.1 then s.2.1.2.2.2.2.2.2.2.1 else (s.2.2.1.2.2.2.2.2.1 l1).2.1.1))) l1).2.1.2.1 < s.2.1.2.2.2.2.2.2.2.2 then s.2.1.2.2.2.2.2.2.2.2 else ((va_up s.2.2.1.2.2.2.2.2.1 l1 (nRow (s.2.2.1.2.2.2.2.2.1 l1) (if s.2.1.2.2.2.2.2.2.2.1 < (s.2.2.1.2.2.2.2.2.1 l1).2.1.1 then s.2.1.2.2.2.2.2.2.2.1 else (s.2.2.1.2.2.2.2.2.1 l1).2.1.1))) l1).2.1.2.1))) l1 (nLcs ((va_up (va_up s.2.2.1.2.2.2.2.2.1 l1 (nRow (s.2.2.1.2.2.2.2.2.1 l1) (if s.2.1.2.2.2.2.2.2.2.1 < (s.2.2.1.2.2.2.2.2.1 l1).2.1.1 then s.2.1.2.2.2.2.2.2.2.1 else (s.2.2.1.2.2.2.2.2.1 l1).2.1.1))) l1 (nLc ((va_up s.2.2.1.2.2.2.2.2.1 l1 (nRow (s.2.2.1.2.2.2.2.2.1 l1) (if s.2.1.2.2.2.2.2.2.2.1 < (s.2.2.1.2.2.2.2.2.1 l1).2.1.1 then s.2.1.2.2.2.2.2.2.2.1 else (s.2.2.1.2.2.2.2.2.1 l1).2.1.1))) l1) (if ((va_up s.2.2.1.2.2.2.2.2.1 l1 (nRow (s.2.2.1.2.2.2.2.2.1 l1) (if s.2.1.2.2.2.2.2.2.2.1 < (s.2.2.1.2.2.2.2.2.1 l1).2.1.1 then s.2.1.2.2.2.2.2.2.2.1 else (s.2.2.1.2.2.2.2.2.1 l1).2.1.1))) l1).2.1.2.1 < s.2.1.2.2.2.2.2.2.2.2 then s.2.1.2.2.2.2.2.2.2.2 else ((va_up s.2.2.1.2.2.2.2.2.1 l1 (nRow (s.2.2.1.2.2.2.2.2.1 l1) (if s.2.1.2.2.2.2.2.2.2.1 < (s.2.2.1.2.2.2.2.2.1 l1).2.1.1 then s.2.1.2.2.2.2.2.2.2.1 else (s.2.2.1.2.2.2.2.2.1 l1).2.1.1))) l1).2.1.2.1))) l1) s.2.1.2.2.2.2.2.2.1)) l1) s.2.1.2.2.2.2.2.2.1)) l1).2.1.2.1))) g254)) ?_
      refine xy_r (xw_aload_n dM_cells_216 rfl) ?_
      refine xy_r (xw_aload_n dM_cells_217 rfl) ?_
      refine xy_r (xw_get dM_cells_218 fM_314 rfl rfl) ?_
      refine xy_r (xg_put dM_cells_221 fM_221 rfl (by decide) (Nat.le_of_ble_eq_true rfl) (fun _ => rfl) (fun _ => rfl) (mV_o (s' := (s.1, (s.2.1.1, s.2.1.2.2.2.2.1, s.2.1.2.2), (s.2.2.1.1, s.2.2.1.2.1, s.2.2.1.2.2.1, s.2.2.1.2.2.2.1, s.2.2.1.2.2.2.2.1, (va_up (va_up (va_up (va_up (va_up s.2.2.1.2.2.2.2.2.1 l1 (nRow (s.2.2.1.2.2.2.2.2.1 l1) (if s.2.1.2.2.2.2.2.2.2.1 < (s.2.2.1.2.2.2.2.2.1 l1).2.1.1 then s.2.1.2.2.2.2.2.2.2.1 else (s.2.2.1.2.2.2.2.2.1 l1).2.1.1))) l1 (nLc ((va_up s.2.2.1.2.2.2.2.2.1 l1 (nRow (s.2.2.1.2.2.2.2.2.1 l1) (if s.2.1.2.2.2.2.2.2.2.1 < (s.2.2.1.2.2.2.2.2.1 l1).2.1.1 then s.2.1.2.2.2.2.2.2.2.1 else (s.2.2.1.2.2.2.2.2.1 l1).2.1.1))) l1) (if ((va_up s.2.2.1.2.2.2.2.2.1 l1 (nRow (s.2.2.1.2.2.2.2.2.1 l1) (if s.2.1.2.2.2.2.2.2.2.1 < (s.2.2.1.2.2.2.2.2.1 l1).2.1.1 then s.2.1.2.2.2.2.2.2.2.1 else (s.2.2.1.2.2.2.2.2.1 l1).2.1.1))) l1).2.1.2.1 < s.2.1.2.2.2.2.2.2.2.2 then s.2.1.2.2.2.2.2.2.2.2 else ((va_up s.2.2.1.2.2.2.2.2.1 l1 (nRow (s.2.2.1.2.2.2.2.2.1 l1) (if s.2.1.2.2.2.2.2.2.2.1 < (s.2.2.1.2.2.2.2.2.1 l1).2.1.1 then s.2.1.2.2.2.2.2.2.2.1 else (s.2.2.1.2.2.2.2.2.1 l1).2.1.1))) l1).2.1.2.1))) l1 (nLcs ((va_up (va_up s.2.2.1.2.2.2.2.2.1 l1 (nRow (s.2.2.1.2.2.2.2.2.1 l1) (if s.2.1.2.2.2.2.2.2.2.1 < (s.2.2.1.2.2.2.2.2.1 l1).2.1.1 then s.2.1.2.2.2.2.2.2.2.1 else (s.2.2.1.2.2.2.2.2.1 l1).2.1.1))) l1 (nLc ((va_up s.2.2.1.2.2.2.2.2.1 l1 (nRow (s.2.2.1.2.2.2.2.2.1 l1) (if s.2.1.2.2.2.2.2.2.2.1 < (s.2.2.1.2.2.2.2.2.1 l1).2.1.1 then s.2.1.2.2.2.2.2.2.2.1 else (s.2.2.1.2.2.2.2.2.1 l1).2.1.1))) l1) (if ((va_up s.2.2.1.2.2.2.2.2.1 l1 (nRow (s.2.2.1.2.2.2.2.2.1 l1) (if s.2.1.2.2.2.2.2.2.2.1 < (s.2.2.1.2.2.2.2.2.1 l1).2.1.1 then s.2.1.2.2.2.2.2.2.2.1 else (s.2.2.1.2.2.2.2.2.1 l1).2.1.1))) l1).2.1.2.1 < s.2.1.2.2.2.2.2.2.2.2 then s.2.1.2.2.2.2.2.2.2.2 else ((va_up s.2.2.1.2.2.2.2.2.1 l1 (nRow (s.2.2.1.2.2.2.2.2.1 l1) (if s.2.1.2.2.2.2.2.2.2.1 < (s.2.2.1.2.2.2.2.2.1 l1).2.1.1 then s.2.1.2.2.2.2.2.2.2.1 else (s.2.2.1.2.2.2.2.2.1 l1).2.1.1))) l1).2.1.2.1))) l1) s.2.1.2.2.2.2.2.2.1)) l1 (nCs ((va_up (va_up (va_up s.2.2.1.2.2.2.2.2.1 l1 (nRow (s.2.2.1.2.2.2.2.2.1 l1) (if s.2.1.2.2.2.2.2.2.2.1 < (s.2.2.1.2.2.2.2.2.1 l1).2.1.1 then s.2.1.2.2.2.2.2.2.2.1 else (s.2.2.1.2.2.2.2.2.1 l1).2.1.1))) l1 (nLc ((va_up s.2.2.1.2.2.2.2.2.1 l1 (nRow (s.2.2.1.2.2.2.2.2.1 l1) (if s.2.1.2.2.2.2.2.2.2.1 < (s.2.2.1.2.2.2.2.2.1 l1).2.1.1 then s.2.1.2.2.2.2.2.2.2.1 else (s.2.2.1.2.2.2.2.2.1 l1).2.1.1))) l1) (if ((va_up s.2.2.1.2.2.2.2.2.1 l1 (nRow (s.2.2.1.2.2.2.2.2.1 l1) (if s.2.1.2.2.2.2.2.2.2.1 < (s.2.2.1.2.2.2.2.2.1 l1).2.1.1 then s.2.1.2.2.2.2.2.2.2.1 else (s.2.2.1.2.2.2.2.2.1 l1).2.1.1))) l1).2.1.2.1 < s.2.1.2.2.2.2.2.2.2.2 then s.2.1.2.2.2.2.2.2.2.2 else ((va_up s.2.2.1.2.2.2.2.2.1 l1 (nRow (s.2.2.1.2.2.2.2.2.1 l1) (if s.2.1.2.2.2.2.2.2.2.1 < (s.2.2.1.2.2.2.2.2.1 l1).2.1.1 then s.2.1.2.2.2.2.2.2.2.1 else (s.2.2.1.2.2.2.2.2.1 l1).2.1.1))) l1).2.1.2.1))) l1 (nLcs ((va_up (va_up s.2.2.1.2.2.2.2.2.1 l1 (nRow (s.2.2.1.2.2.2.2.2.1 l1) (if s.2.1.2.2.2.2.2.2.2.1 < (s.2.2.1.2.2.2.2.2.1 l1).2.1.1 then s.2.1.2.2.2.2.2.2.2.1 else (s.2.2.1.2.2.2.2.2.1 l1).2.1.1))) l1 (nLc ((va_up s.2.2.1.2.2.2.2.2.1 l1 (nRow (s.2.2.1.2.2.2.2.2.1 l1) (if s.2.1.2.2.2.2.2.2.2.1 < (s.2.2.1.2.2.2.2.2.1 l1).2.1.1 then s.2.1.2.2.2.2.2.2.2.1 else (s.2.2.1.2.2.2.2.2.1 l1).2.1.1))) l1) (if ((va_up s.2.2.1.2.2.2.2.2.1 l1 (nRow (s.2.2.1.2.2.2.2.2.1 l1) (if s.2.1.2.2.2.2.2.2.2.1 < (s.2.2.1.2.2.2.2.2.1 l1).2.1.1 then s.2.1.2.2.2.2.2.2.2.1 else (s.2.2.1.2.2.2.2.2.1 l1).2.1.1))) l1).2.1.2.1 < s.2.1.2.2.2.2.2.2.2.2 then s.2.1.2.2.2.2.2.2.2.2 else ((va_up s.2.2.1.2.2.2.2.2.1 l1 (nRow (s.2.2.1.2.2.2.2.2.1 l1) (if s.2.1.2.2.2.2.2.2.2.1 < (s.2.2.1.2.2.2.2.2.1 l1).2.1.1 then s.2.1.2.2.2.2.2.2.2.1 else (s.2.2.1.2.2.2.2.2.1 l1).2.1.1))) l1).2.1.2.1))) l1) s.2.1.2.2.2.2.2.2.1)) l1) s.2.1.2.2.2.2.2.2.1)) l1 (nCol ((va_up (va_up (va_up (va_up s.2.2.1.2.2.2.2.2.1 l1 (nRow (s.2.2.1.2.2.2.2.2.1 l1) (if s.2.1.2.2.2.2.2.2.2.1 < (s.2.2.1.2.2.2.2.2.1 l1).2.1.1 then s.2.1.2.2.2.2.2.2.2.1 else (s.2.2.1.2.2.2.2.2.1 l1).2.1.1))) l1 (nLc ((va_up s.2.2.1.2.2.2.2.2.1 l1 (nRow (s.2.2.1.2.2.2.2.2.1 l1) (if s.2.1.2.2.2.2.2.2.2.1 < (s.2.2.1.2.2.2.2.2.1 l1).2.1.1 then s.2.1.2.2.2.2.2.2.2.1 else (s.2.2.1.2.2.2.2.2.1 l1).2.1.1))) l1) (if ((va_up s.2.2.1.2.2.2.2.2.1 l1 (nRow (s.2.2.1.2.2.2.2.2.1 l1) (if s.2.1.2.2.2.2.2.2.2.1 < (s.2.2.1.2.2.2.2.2.1 l1).2.1.1 then s.2.1.2.2.2.2.2.2.2.1 else (s.2.2.1.2.2.2.2.2.1 l1).2.1.1))) l1).2.1.2.1 < s.2.1.2.2.2.2.2.2.2.2 then s.2.1.2.2.2.2.2.2.2.2 else ((va_up s.2.2.1.2.2.2.2.2.1 l1 (nRow (s.2.2.1.2.2.2.2.2.1 l1) (if s.2.1.2.2.2.2.2.2.2.1 < (s.2.2.1.2.2.2.2.2.1 l1).2.1.1 then s.2.1.2.2.2.2.2.2.2.1 else (s.2.2.1.2.2.2.2.2.1 l1).2.1.1))) l1).2.1.2.1))) l1 (nLcs ((va_up (va_up s.2.2.1.2.2.2.2.2.1 l1 (nRow (s.2.2.1.2.2.2.2.2.1 l1) (if s.2.1.2.2.2.2.2.2.2.1 < (s.2.2.1.2.2.2.2.2.1 l1).2.1.1 then s.2.1.2.2.2.2.2.2.2.1 else (s.2.2.1.2.2.2.2.2.1 l1).2.1.1))) l1 (nLc ((va_up s.2.2.1.2.2.2.2.2.1 l1 (nRow (s.2.2.1.2.2.2.2.2.1 l1) (if s.2.1.2.2.2.2.2.2.2.1 < (s.2.2.1.2.2.2.2.2.1 l1).2.1.1 then s.2.1.2.2.2.2.2.2.2.1 else (s.2.2.1.2.2.2.2.2.1 l1).2.1.1))) l1) (if ((va_up s.2.2.1.2.2.2.2.2.1 l1 (nRow (s.2.2.1.2.2.2.2.2.1 l1) (if s.2.1.2.2.2.2.2.2.2.1 < (s.2.2.1.2.2.2.2.2.1 l1).2.1.1 then s.2.1.2.2.2.2.2.2.2.1 else (s.2.2.1.2.2.2.2.2.1 l1).2.1.1))) l1).2.1.2.1 < s.2.1.2.2.2.2.2.2.2.2 then s.2.1.2.2.2.2.2.2.2.2 else ((va_up s.2.2.1.2.2.2.2.2.1 l1 (nRow (s.2.2.1.2.2.2.2.2.1 l1) (if s.2.1.2.2.2.2.2.2.2.1 < (s.2.2.1.2.2.2.2.2.1 l1).2.1.1 then s.2.1.2.2.2.2.2.2.2.1 else (s.2.2.1.2.2.2.2.2.1 l1).2.1.1))) l1).2.1.2.1))) l1) s.2.1.2.2.2.2.2.2.1)) l1 (nCs ((va_up (va_up (va_up s.2.2.1.2.2.2.2.2.1 l1 (nRow (s.2.2.1.2.2.2.2.2.1 l1) (if s.2.1.2.2.2.2.2.2.2.1 < (s.2.2.1.2.2.2.2.2.1 l1).2.1.1 then s.2.1.2.2.2.2.2.2.2.1 else (s.2.2.1.2.2.2.2.2.1 l1).2.1.1))) l1 (nLc ((va_up s.2.2.1.2.2.2.2.2.1 l1 (nRow (s.2.2.1.2.2.2.2.2.1 l1) (if s.2.1.2.2.2.2.2.2.2.1 < (s.2.2.1.2.2.2.2.2.1 l1).2.1.1 then s.2.1.2.2.2.2.2.2.2.1 else (s.2.2.1.2.2.2.2.2.1 l1).2.1.1))) l1) (if ((va_up s.2.2.1.2.2.2.2.2.1 l1 (nRow (s.2.2.1.2.2.2.2.2.1 l1) (if s.2.1.2.2.2.2.2.2.2.1 < (s.2.2.1.2.2.2.2.2.1 l1).2.1.1 then s.2.1.2.2.2.2.2.2.2.1 else (s.2.2.1.2.2.2.2.2.1 l1).2.1.1))) l1).2.1.2.1 < s.2.1.2.2.2.2.2.2.2.2 then s.2.1.2.2.2.2.2.2.2.2 else ((va_up s.2.2.1.2.2.2.2.2.1 l1 (nRow (s.2.2.1.2.2.2.2.2.1 l1) (if s.2.1.2.2.2.2.2.2.2.1 < (s.2.2.1.2.2.2.2.2.1 l1).2.1.1 then s.2.1.2.2.2.2.2.2.2.1 else (s.2.2.1.2.2.2.2.2.1 l1).2.1.1))) l1).2.1.2.1))) l1 (nLcs ((va_up (va_up s.2.2.1.2.2.2.2.2.1 l1 (nRow (s.2.2.1.2.2.2.2.2.1 l1) (if s.2.1.2.2.2.2.2.2.2.1 < (s.2.2.1.2.2.2.2.2.1 l1).2.1.1 then s.2.1.2.2.2.2.2.2.2.1 else (s.2.2.1.2.2.2.2.2.1 l1).2.1.1))) l1 (nLc ((va_up s.2.2.1.2.2.2.2.2.1 l1 (nRow (s.2.2.1.2.2.2.2.2.1 l1) (if s.2.1.2.2.2.2.2.2.2.1 < (s.2.2.1.2.2.2.2.2.1 l1).2.1.1 then s.2.1.2.2.2.2.2.2.2.1 else (s.2.2.1.2.2.2.2.2.1 l1).2.1.1))) l1) (if ((va_up s.2.2.1.2.2.2.2.2.1 l1 (nRow (s.2.2.1.2.2.2.2.2.1 l1) (if s.2.1.2.2.2.2.2.2.2.1 < (s.2.2.1.2.2.2.2.2.1 l1).2.1.1 then s.2.1.2.2.2.2.2.2.2.1 else (s.2.2.1.2.2.2.2.2.1 l1).2.1.1))) l1).2.1.2.1 < s.2.1.2.2.2.2.2.2.2.2 then s.2.1.2.2.2.2.2.2.2.2 else ((va_up s.2.2.1.2.2.2.2.2.1 l1 (nRow (s.2.2.1.2.2.2.2.2.1 l1) (if s.2.1.2.2.2.2.2.2.2.1 < (s.2.2.1.2.2.2.2.2.1 l1).2.1.1 then s.2.1.2.2.2.2.2.2.2.1 else (s.2.2.1.2.2.2.2.2.1 l1).2.1.1))) l1).2.1.2.1))) l1) s.2.1.2.2.2.2.2.2.1)) l1) s.2.1.2.2.2.2.2.2.1)) l1) (if s.2.1.2.2.2.2.2.2.2.2 < ((va_up (va_up (va_up (va_up s.2.2.1.2.2.2.2.2.1 l1 (nRow (s.2.2.1.2.2.2.2.2.1 l1) (if s.2.1.2.2.2.2.2.2.2.1 < (s.2.2.1.2.2.2.2.2.1 l1).2.1.1 then s.2.1.2.2.2.2.2.2.2.1 else (s.2.2.1.2.2.2.2.2.1 l1).2.1.1))) l1 (nLc ((va_up s.2.2.1.2.2.2.2.2.1 l1 (nRow (s.2.2.1.2.2.2.2.2.1 l1) (if s.2.1.2.2.2.2.2.2.2.1 < (s.2.2.1.2.2.2.2.2.1 l1).2.1.1 then s.2.1.2.2.2.2.2.2.2.1 else (s.2.2.1.2.2.2.2.2.1 l1).2.1.1))) l1) (if ((va_up s.2.2.1.2.2.2.2.2.1 l1 (nRow (s.2.2.1.2.2.2.2.2.1 l1) (if s.2.1.2.2.2.2.2.2.2.1 < (s.2.2.1.2.2.2.2.2.1 l1).2.1.1 then s.2.1.2.2.2.2.2.2.2.1 else (s.2.2.1.2.2.2.2.2.1 l1).2.1.1))) l1).2.1.2.1 < s.2.1.2.2.2.2.2.2.2.2 then s.2.1.2.2.2.2.2.2.2.2 else ((va_up s.2.2.1.2.2.2.2.2.1 l1 (nRow (s.2.2.1.2.2.2.2.2.1 l1) (if s.2.1.2.2.2.2.2.2.2.1 < (s.2.2.1.2.2.2.2.2.1 l1).2.1.1 then s.2.1.2.2.2.2.2.2.2.1 else (s.2.2.1.2.2.2.2.2.1 l1).2.1.1))) l1).2.1.2.1))) l1 (nLcs ((va_up (va_up s.2.2.1.2.2.2.2.2.1 l1 (nRow (s.2.2.1.2.2.2.2.2.1 l1) (if s.2.1.2.2.2.2.2.2.2.1 < (s.2.2.1.2.2.2.2.2.1 l1).2.1.1 then s.2.1.2.2.2.2.2.2.2.1 else (s.2.2.1.2.2.2.2.2.1 l1).2.1.1))) l1 (nLc ((va_up s.2.2.1.2.2.2.2.2.1 l1 (nRow (s.2.2.1.2.2.2.2.2.1 l1) (if s.2.1.2.2.2.2.2.2.2.1 < (s.2.2.1.2.2.2.2.2.1 l1).2.1.1 then s.2.1.2.2.2.2.2.2.2.1 else (s.2.2.1.2.2.2.2.2.1 l1).2.1.1))) l1) (if ((va_up s.2.2.1.2.2.2.2.2.1 l1 (nRow (s.2.2.1.2.2.2.2.2.1 l1) (if s.2.1.2.2.2.2.2.2.2.1 < (s.2.2.1.2.2.2.2.2.1 l1).2.1.1 then s.2.1.2.2.2.2.2.2.2.1 else (s.2.2.1.2.2.2.2.2.1 l1).2.1.1))) l1).2.1.2.1 < s.2.1.2.2.2.2.2.2.2.2 then s.2.1.2.2.2.2.2.2.2.2 else ((va_up s.2.2.1.2.2.2.2.2.1 l1 (nRow (s.2.2.1.2.2.2.2.2.1 l1) (if s.2.1.2.2.2.2.2.2.2.1 < (s.2.2.1.2.2.2.2.2.1 l1).2.1.1 then s.2.1.2.2.2.2.2.2.2.1 else (s.2.2.1.2.2.2.2.2.1 l1).2.1.1))) l1).2.1.2.1))) l1) s.2.1.2.2.2.2.2.2.1)) l1 (nCs ((va_up (va_up (va_up s.2.2.1.2.2.2.2.2.1 l1 (nRow (s.2.2.1.2.2.2.2.2.1 l1) (if s.2.1.2.2.2.2.2.2.2.1 < (s.2.2.1.2.2.2.2.2.1 l1).2.1.1 then s.2.1.2.2.2.2.2.2.2.1 else (s.2.2.1.2.2.2.2.2.1 l1).2.1.1))) l1 (nLc ((va_up s.2.2.1.2.2.2.2.2.1 l1 (nRow (s.2.2.1.2.2.2.2.2.1 l1) (if s.2.1.2.2.2.2.2.2.2.1 < (s.2.2.1.2.2.2.2.2.1 l1).2.1.1 then s.2.1.2.2.2.2.2.2.2.1 else (s.2.2.1.2.2.2.2.2.1 l1).2.1.1))) l1) (if ((va_up s.2.2.1.2.2.2.2.2.1 l1 (nRow (s.2.2.1.2.2.2.2.2.1 l1) (if s.2.1.2.2.2.2.2.2.2.1 < (s.2.2.1.2.2.2.2.2.1 l1).2.1.1 then s.2.1.2.2.2.2.2.2.2.1 else (s.2.2.1.2.2.2.2.2.1 l1).2.1.1))) l1).2.1.2.1 < s.2.1.2.2.2.2.2.2.2.2 then s.2.1.2.2.2.2.2.2.2.2 else ((va_up s.2.2.1.2.2.2.2.2.1 l1 (nRow (s.2.2.1.2.2.2.2.2.1 l1) (if s.2.1.2.2.2.2.2.2.2.1 < (s.2.2.1.2.2.2.2.2.1 l1).2.1.1 then s.2.1.2.2.2.2.2.2.2.1 else (s.2.2.1.2.2.2.2.2.1 l1).2.1.1))) l1).2.1.2.1))) l1 (nLcs ((va_up (va_up s.2.2.1.2.2.2.2.2.1 l1 (nRow (s.2.2.1.2.2.2.2.2.1 l1) (if s.2.1.2.2.2.2.2.2.2.1 < (s.2.2.1.2.2.2.2.2.1 l1).2.1.1 then s.2.1.2.2.2.2.2.2.2.1 else (s.2.2.1.2.2.2.2.2.1 l1).2.1.1))) l1 (nLc ((va_up s.2.2.1.2.2.2.2.2.1 l1 (nRow (s.2.2.1.2.2.2.2.2.1 l1) (if s.2.1.2.2.2.2.2.2.2.1 < (s.2.2.1.2.2.2.2.2.1 l1).2.1.1 then s.2.1.2.2.2.2.2.2.2.1 else (s.2.2.1.2.2.2.2.2.1 l1).2.1.1))) l1) (if ((va_up s.2.2.1.2.2.2.2.2.1 l1 (nRow (s.2.2.1.2.2.2.2.2.1 l1) (if s.2.1.2.2.2.2.2.2.2.1 < (s.2.2.1.2.2.2.2.2.1 l1).2.1.1 then s.2.1.2.2.2.2.2.2.2.1 else (s.2.2.1.2.2.2.2.2.1 l1).2.1.1))) l1).2.1.2.1 < s.2.1.2.2.2.2.2.2.2.2 then s.2.1.2.2.2.2.2.2.2.2 else ((va_up s.2.2.1.2.2.2.2.2.1 l1 (nRow (s.2.2.1.2.2.2.2.2.1 l1) (if s.2.1.2.2.2.2.2.2.2.1 < (s.2.2.1.2.2.2.2.2.1 l1).2.1.1 then s.2.1.2.2.2.2.2.2.2.1 else (s.2.2.1.2.2.2.2.2.1 l1).2.1.1))) l1).2.1.2.1))) l1) s.2.1.2.2.2.2.2.2.1)) l1) s.2.1.2.2.2.2.2.2.1)) l1).2.1.2.1 then s.2.1.2.2.2.2.2.2.2.2 else ((va_up (va_up (va_up (va_up s.2.2.1.2.2.2.2.2.1 l1 (nRow (s.2.2.1.2.2.2.2.2.1 l1) (if s.2.1.2.2.2.2.2.2.2.1 < (s.2.2.1.2.2.2.2.2.1 l1).2.1.1 then s.2.1.2.2.2.2.2.2.2.1 else (s.2.2.1.2.2.2.2.2.1 l1).2.1.1))) l1 (nLc ((va_up s.2.2.1.2.2.2.2.2.1 l1 (nRow (s.2.2.1.2.2.2.2.2.1 l1) (if s.2.1.2.2.2.2.2.2.2.1 < (s.2.2.1.2.2.2.2.2.1 l1).2.1.1 then s.2.1.2.2.2.2.2.2.2.1 else (s.2.2.1.2.2.2.2.2.1 l1).2.1.1))) l1) (if ((va_up s.2.2.1.2.2.2.2.2.1 l1 (nRow (s.2.2.1.2.2.2.2.2.1 l1) (if s.2.1.2.2.2.2.2.2.2.1 < (s.2.2.1.2.2.2.2.2.1 l1).2.1.1 then s.2.1.2.2.2.2.2.2.2.1 else (s.2.2.1.2.2.2.2.2.1 l1).2.1.1))) l1).2.1.2.1 < s.2.1.2.2.2.2.2.2.2.2 then s.2.1.2.2.2.2.2.2.2.2 else ((va_up s.2.2.1.2.2.2.2.2.1 l1 (nRow (s.2.2.1.2.2.2.2.2.1 l1) (if s.2.1.2.2.2.2.2.2.2.1 < (s.2.2.1.2.2.2.2.2.1 l1).2.1.1 then s.2.1.2.2.2.2.2.2.2.1 else (s.2.2.1.2.2.2.2.2.1 l1).2.1.1))) l1).2.1.2.1))) l1 (nLcs ((va_up (va_up s.2.2.1.2.2.2.2.2.1 l1 (nRow (s.2.2.1.2.2.2.2.2.1 l1) (if s.2.1.2.2.2.2.2.2.2.1 < (s.2.2.1.2.2.2.2.2.1 l1).2.1.1 then s.2.1.2.2.2.2.2.2.2.1 else (s.2.2.1.2.2.2.2.2.1 l1).2.1.1))) l1 (nLc ((va_up s.2.2.1.2.2.2.2.2.1 l1 (nRow (s.2.2.1.2.2.2.2.2.1 l1) (if s.2.1.2.2.2.2.2.2.2.1 < (s.2.2.1.2.2.2.2.2.1 l1).2.1.1 then s.2.1.2.2.2.2.2.2.2.1 else (s.2.2.1.2.2.2.2.2.1 l1).2.1.1))) l1) (if ((va_up s.2.2.1.2.2.2.2.2.1 l1 (nRow (s.2.2.1.2.2.2.2.2.1 l1) (if s.2.1.2.2.2.2.2.2.2.1 < (s.2.2.1.2.2.2.2.2.1 l1).2.1.1 then s.2.1.2.2.2.2.2.2.2.1 else (s.2.2.1.2.2.2.2.2.1 l1).2.1.1))) l1).2.1.2.1 < s.2.1.2.2.2.2.2.2.2.2 then s.2.1.2.2.2.2.2.2.2.2 else ((va_up s.2.2.1.2.2.2.2.2.1 l1 (nRow (s.2.2.1.2.2.2.2.2.1 l1) (if s.2.1.2.2.2.2.2.2.2.1 < (s.2.2.1.2.2.2.2.2.1 l1).2.1.1 then s.2.1.2.2.2.2.2.2.2.1 else (s.2.2.1.2.2.2.2.2.1 l1).2.1.1))) l1).2.1.2.1))) l1) s.2.1.2.2.2.2.2.2.1)) l1 (nCs ((va_up (va_up (va_up s.2.2.1.2.2.2.2.2.1 l1 (nRow (s.2.2.1.2.2.2.2.2.1 l1) (if s.2.1.2.2.2.2.2.2.2.1 < (s.2.2.1.2.2.2.2.2.1 l1).2.1.1 then s.2.1.2.2.2.2.2.2.2.1 else (s.2.2.1.2.2.2.2.2.1 l1).2.1.1))) l1 (nLc ((va_up s.2.2.1.2.2.2.2.2.1 l1 (nRow (s.2.2.1.2.2.2.2.2.1 l1) (if s.2.1.2.2.2.2.2.2.2.1 < (s.2.2.1.2.2.2.2.2.1 l1).2.1.1 then s.2.1.2.2.2.2.2.2.2.1 else (s.2.2.1.2.2.2.2.2.1 l1).2.1.1))) l1) (if ((va_up s.2.2.1.2.2.2.2.2.1 l1 (nRow (s.2.2.1.2.2.2.2.2.1 l1) (if s.2.1.2.2.2.2.2.2.2.1 < (s.2.2.1.2.2.2.2.2.1 l1).2.1.1 then s.2.1.2.2.2.2.2.2.2.1 else (s.2.2.1.2.2.2.2.2.1 l1).2.1.1))) l1).2.1.2.1 < s.2.1.2.2.2.2.2.2.2.2 then s.2.1.2.2.2.2.2.2.2.2 else ((va_up s.2.2.1.2.2.2.2.2.1 l1 (nRow (s.2.2.1.2.2.2.2.2.1 l1) (if s.2.1.2.2.2.2.2.2.2.1 < (s.2.2.1.2.2.2.2.2.1 l1).2.1.1 then s.2.1.2.2.2.2.2.2.2.1 else (s.2.2.1.2.2.2.2.2.1 l1).2.1.1))) l1).2.1.2.1))) l1 (nLcs ((va_up (va_up s.2.2.1.2.2.2.2.2.1 l1 (nRow (s.2.2.1.2.2.2.2.2.1 l1) (if s.2.1.2.2.2.2.2.2.2.1 < (s.2.2.1.2.2.2.2.2.1 l1).2.1.1 then s.2.1.2.2.2.2.2.2.2.1 else (s.2.2.1.2.2.2.2.2.1 l1).2.1.1))) l1 (nLc ((va_up s.2.2.1.2.2.2.2.2.1 l1 (nRow (s.2.2.1.2.2.2.2.2.1 l1) (if s.2.1.2.2.2.2.2.2.2.1 < (s.2.2.1.2.2.2.2.2.1 l1).2.1.1 then s.2.1.2.2.2.2.2.2.2.1 else (s.2.2.1.2.2.2.2.2.1 l1).2.1.1))) l1) (if ((va_up s.2.2.1.2.2.2.2.2.1 l1 (nRow (s.2.2.1.2.2.2.2.2.1 l1) (if s.2.1.2.2.2.2.2.2.2.1 < (s.2.2.1.2.2.2.2.2.1 l1).2.1.1 then s.2.1.2.2.2.2.2.2.2.1 else (s.2.2.1.2.2.2.2.2.1 l1).2.1.1))) l1).2.1.2.1 < s.2.1.2.2.2.2.2.2.2.2 then s.2.1.2.2.2.2.2.2.2.2 else ((va_up s.2.2.1.2.2.2.2.2.1 l1 (nRow (s.2.2.1.2.2.2.2.2.1 l1) (if s.2.1.2.2.2.2.2.2.2.1 < (s.2.2.1.2.2.2.2.2.1 l1).2.1.1 then s.2.1.2.2.2.2.2.2.2.1 else (s.2.2.1.2.2.2.2.2.1 l1).2.1.1))) l1).2.1.2.1))) l1) s.2.1.2.2.2.2.2.2.1)) l1) s.2.1.2.2.2.2.2.2.1)) l1).2.1.2.1))), s.2.2.1.2.2.2.2.2.2), s.2.2.2)) rfl)) ?_
      refine xy_r (xw_aload_n dM_cells_224 rfl) ?_
      obtain rfl := Option.some.inj hF
      exact xy_end (xw_areturn dM_cells_225 rfl (Or.inl ⟨_, rfl⟩) (Nat.le_refl _) (Nat.le_refl _) ⟨rfl, rfl⟩)
  · replace hF := xg_f c255 hF
    refine xy_r (xw_aload_n dM_cells_168 rfl) ?_
    refine xy_r (xw_get dM_cells_169 fM_377 (mV_n g254) rfl) ?_
    refine xy_r (xw_goto 179 dM_cells_172 (by decide)) ?_
    refine xy_r (xg_put dM_cells_179 fM_401 (mV_n g254) (xn_le _) (Nat.le_of_ble_eq_true rfl) (fun _ => xb_nar ((va_up (va_up s.2.2.1.2.2.2.2.2.1 l1 (nRow (s.2.2.1.2.2.2.2.2.1 l1) (if s.2.1.2.2.2.2.2.2.2.1 < (s.2.2.1.2.2.2.2.2.1 l1).2.1.1 then s.2.1.2.2.2.2.2.2.2.1 else (s.2.2.1.2.2.2.2.2.1 l1).2.1.1))) l1 (nLc ((va_up s.2.2.1.2.2.2.2.2.1 l1 (nRow (s.2.2.1.2.2.2.2.2.1 l1) (if s.2.1.2.2.2.2.2.2.2.1 < (s.2.2.1.2.2.2.2.2.1 l1).2.1.1 then s.2.1.2.2.2.2.2.2.2.1 else (s.2.2.1.2.2.2.2.2.1 l1).2.1.1))) l1) (if ((va_up s.2.2.1.2.2.2.2.2.1 l1 (nRow (s.2.2.1.2.2.2.2.2.1 l1) (if s.2.1.2.2.2.2.2.2.2.1 < (s.2.2.1.2.2.2.2.2.1 l1).2.1.1 then s.2.1.2.2.2.2.2.2.2.1 else (s.2.2.1.2.2.2.2.2.1 l1).2.1.1))) l1).2.1.2.1 < s.2.1.2.2.2.2.2.2.2.2 then s.2.1.2.2.2.2.2.2.2.2 else ((va_up s.2.2.1.2.2.2.2.2.1 l1 (nRow (s.2.2.1.2.2.2.2.2.1 l1) (if s.2.1.2.2.2.2.2.2.2.1 < (s.2.2.1.2.2.2.2.2.1 l1).2.1.1 then s.2.1.2.2.2.2.2.2.2.1 else (s.2.2.1.2.2.2.2.2.1 l1).2.1.1))) l1).2.1.2.1))) l1).2.1.2.2.2.1) (fun _ => xb_fit ((va_up (va_up s.2.2.1.2.2.2.2.2.1 l1 (nRow (s.2.2.1.2.2.2.2.2.1 l1) (if s.2.1.2.2.2.2.2.2.2.1 < (s.2.2.1.2.2.2.2.2.1 l1).2.1.1 then s.2.1.2.2.2.2.2.2.2.1 else (s.2.2.1.2.2.2.2.2.1 l1).2.1.1))) l1 (nLc ((va_up s.2.2.1.2.2.2.2.2.1 l1 (nRow (s.2.2.1.2.2.2.2.2.1 l1) (if s.2.1.2.2.2.2.2.2.2.1 < (s.2.2.1.2.2.2.2.2.1 l1).2.1.1 then s.2.1.2.2.2.2.2.2.2.1 else (s.2.2.1.2.2.2.2.2.1 l1).2.1.1))) l1) (if ((va_up s.2.2.1.2.2.2.2.2.1 l1 (nRow (s.2.2.1.2.2.2.2.2.1 l1) (if s.2.1.2.2.2.2.2.2.2.1 < (s.2.2.1.2.2.2.2.2.1 l1).2.1.1 then s.2.1.2.2.2.2.2.2.2.1 else (s.2.2.1.2.2.2.2.2.1 l1).2.1.1))) l1).2.1.2.1 < s.2.1.2.2.2.2.2.2.2.2 then s.2.1.2.2.2.2.2.2.2.2 else ((va_up s.2.2.1.2.2.2.2.2.1 l1 (nRow (s.2.2.1.2.2.2.2.2.1 l1) (if s.2.1.2.2.2.2.2.2.2.1 < (s.2.2.1.2.2.2.2.2.1 l1).2.1.1 then s.2.1.2.2.2.2.2.2.2.1 else (s.2.2.1.2.2.2.2.2.1 l1).2.1.1))) l1).2.1.2.1))) l1).2.1.2.2.2.1) (mV_pn (q := (nLcs ((va_up (va_up s.2.2.1.2.2.2.2.2.1 l1 (nRow (s.2.2.1.2.2.2.2.2.1 l1) (if s.2.1.2.2.2.2.2.2.2.1 < (s.2.2.1.2.2.2.2.2.1 l1).2.1.1 then s.2.1.2.2.2.2.2.2.2.1 else (s.2.2.1.2.2.2.2.2.1 l1).2.1.1))) l1 (nLc ((va_up s.2.2.1.2.2.2.2.2.1 l1 (nRow (s.2.2.1.2.2.2.2.2.1 l1) (if s.2.1.2.2.2.2.2.2.2.1 < (s.2.2.1.2.2.2.2.2.1 l1).2.1.1 then s.2.1.2.2.2.2.2.2.2.1 else (s.2.2.1.2.2.2.2.2.1 l1).2.1.1))) l1) (if ((va_up s.2.2.1.2.2.2.2.2.1 l1 (nRow (s.2.2.1.2.2.2.2.2.1 l1) (if s.2.1.2.2.2.2.2.2.2.1 < (s.2.2.1.2.2.2.2.2.1 l1).2.1.1 then s.2.1.2.2.2.2.2.2.2.1 else (s.2.2.1.2.2.2.2.2.1 l1).2.1.1))) l1).2.1.2.1 < s.2.1.2.2.2.2.2.2.2.2 then s.2.1.2.2.2.2.2.2.2.2 else ((va_up s.2.2.1.2.2.2.2.2.1 l1 (nRow (s.2.2.1.2.2.2.2.2.1 l1) (if s.2.1.2.2.2.2.2.2.2.1 < (s.2.2.1.2.2.2.2.2.1 l1).2.1.1 then s.2.1.2.2.2.2.2.2.2.1 else (s.2.2.1.2.2.2.2.2.1 l1).2.1.1))) l1).2.1.2.1))) l1) (((va_up (va_up s.2.2.1.2.2.2.2.2.1 l1 (nRow (s.2.2.1.2.2.2.2.2.1 l1) (if s.2.1.2.2.2.2.2.2.2.1 < (s.2.2.1.2.2.2.2.2.1 l1).2.1.1 then s.2.1.2.2.2.2.2.2.2.1 else (s.2.2.1.2.2.2.2.2.1 l1).2.1.1))) l1 (nLc ((va_up s.2.2.1.2.2.2.2.2.1 l1 (nRow (s.2.2.1.2.2.2.2.2.1 l1) (if s.2.1.2.2.2.2.2.2.2.1 < (s.2.2.1.2.2.2.2.2.1 l1).2.1.1 then s.2.1.2.2.2.2.2.2.2.1 else (s.2.2.1.2.2.2.2.2.1 l1).2.1.1))) l1) (if ((va_up s.2.2.1.2.2.2.2.2.1 l1 (nRow (s.2.2.1.2.2.2.2.2.1 l1) (if s.2.1.2.2.2.2.2.2.2.1 < (s.2.2.1.2.2.2.2.2.1 l1).2.1.1 then s.2.1.2.2.2.2.2.2.2.1 else (s.2.2.1.2.2.2.2.2.1 l1).2.1.1))) l1).2.1.2.1 < s.2.1.2.2.2.2.2.2.2.2 then s.2.1.2.2.2.2.2.2.2.2 else ((va_up s.2.2.1.2.2.2.2.2.1 l1 (nRow (s.2.2.1.2.2.2.2.2.1 l1) (if s.2.1.2.2.2.2.2.2.2.1 < (s.2.2.1.2.2.2.2.2.1 l1).2.1.1 then s.2.1.2.2.2.2.2.2.2.1 else (s.2.2.1.2.2.2.2.2.1 l1).2.1.1))) l1).2.1.2.1))) l1).2.1.2.2.2.1))) g254)) ?_
    refine xy_r (xw_aload_n dM_cells_182 rfl) ?_
    refine xy_r (xw_get dM_cells_183 fM_302 rfl rfl) ?_
    refine xy_r (xw_aload_n dM_cells_186 rfl) ?_
    refine xy_r (xw_get dM_cells_187 fM_371 (mV_n g254) rfl) ?_
    refine xy_br (xw_icmp_ge 201 dM_cells_190 (by decide)) (fun c257 => ?_) (fun c257 => ?_)
    · replace hF := xg_t c257 hF
      refine xy_r (xw_aload_n dM_cells_201 rfl) ?_
      refine xy_r (xw_aload_n dM_cells_202 rfl) ?_
      refine xy_r (xw_get dM_cells_203 fM_371 (mV_n g254) rfl) ?_
      refine xy_r (xw_aload_n dM_cells_206 rfl) ?_
      refine xy_r (xw_get dM_cells_207 fM_302 rfl rfl) ?_
      refine xy_q (fun hq => xw_mmin dM_cells_210 tw_1268 (Nat.le_of_ble_eq_true rfl) (Nat.le_of_ble_eq_true rfl) (Nat.sub_le_sub_right hq.1 _) (Nat.sub_le_sub_right hq.2 _)) ?_
      refine xy_r (xg_put dM_cells_213 fM_371 (mV_n g254) (xn_le _) (Nat.le_of_ble_eq_true rfl) (fun _ => rfl) (fun _ => rfl) (mV_pn (q := (nCol ((va_up (va_up (va_up s.2.2.1.2.2.2.2.2.1 l1 (nRow (s.2.2.1.2.2.2.2.2.1 l1) (if s.2.1.2.2.2.2.2.2.2.1 < (s.2.2.1.2.2.2.2.2.1 l1).2.1.1 then s.2.1.2.2.2.2.2.2.2.1 else (s.2.2.1.2.2.2.2.2.1 l1).2.1.1))) l1 (nLc ((va_up s.2.2.1.2.2.2.2.2.1 l1 (nRow (s.2.2.1.2.2.2.2.2.1 l1) (if s.2.1.2.2.2.2.2.2.2.1 < (s.2.2.1.2.2.2.2.2.1 l1).2.1.1 then s.2.1.2.2.2.2.2.2.2.1 else (s.2.2.1.2.2.2.2.2.1 l1).2.1.1))) l1) (if ((va_up s.2.2.1.2.2.2.2.2.1 l1 (nRow (s.2.2.1.2.2.2.2.2.1 l1) (if s.2.1.2.2.2.2.2.2.2.1 < (s.2.2.1.2.2.2.2.2.1 l1).2.1.1 then s.2.1.2.2.2.2.2.2.2.1 else (s.2.2.1.2.2.2.2.2.1 l1).2.1.1))) l1).2.1.2.1 < s.2.1.2.2.2.2.2.2.2.2 then s.2.1.2.2.2.2.2.2.2.2 else ((va_up s.2.2.1.2.2.2.2.2.1 l1 (nRow (s.2.2.1.2.2.2.2.2.1 l1) (if s.2.1.2.2.2.2.2.2.2.1 < (s.2.2.1.2.2.2.2.2.1 l1).2.1.1 then s.2.1.2.2.2.2.2.2.2.1 else (s.2.2.1.2.2.2.2.2.1 l1).2.1.1))) l1).2.1.2.1))) l1 (nLcs ((va_up (va_up s.2.2.1.2.2.2.2.2.1 l1 (nRow (s.2.2.1.2.2.2.2.2.1 l1) (if s.2.1.2.2.2.2.2.2.2.1 < (s.2.2.1.2.2.2.2.2.1 l1).2.1.1 then s.2.1.2.2.2.2.2.2.2.1 else (s.2.2.1.2.2.2.2.2.1 l1).2.1.1))) l1 (nLc ((va_up s.2.2.1.2.2.2.2.2.1 l1 (nRow (s.2.2.1.2.2.2.2.2.1 l1) (if s.2.1.2.2.2.2.2.2.2.1 < (s.2.2.1.2.2.2.2.2.1 l1).2.1.1 then s.2.1.2.2.2.2.2.2.2.1 else (s.2.2.1.2.2.2.2.2.1 l1).2.1.1))) l1) (if ((va_up s.2.2.1.2.2.2.2.2.1 l1 (nRow (s.2.2.1.2.2.2.2.2.1 l1) (if s.2.1.2.2.2.2.2.2.2.1 < (s.2.2.1.2.2.2.2.2.1 l1).2.1.1 then s.2.1.2.2.2.2.2.2.2.1 else (s.2.2.1.2.2.2.2.2.1 l1).2.1.1))) l1).2.1.2.1 < s.2.1.2.2.2.2.2.2.2.2 then s.2.1.2.2.2.2.2.2.2.2 else ((va_up s.2.2.1.2.2.2.2.2.1 l1 (nRow (s.2.2.1.2.2.2.2.2.1 l1) (if s.2.1.2.2.2.2.2.2.2.1 < (s.2.2.1.2.2.2.2.2.1 l1).2.1.1 then s.2.1.2.2.2.2.2.2.2.1 else (s.2.2.1.2.2.2.2.2.1 l1).2.1.1))) l1).2.1.2.1))) l1) (((va_up (va_up s.2.2.1.2.2.2.2.2.1 l1 (nRow (s.2.2.1.2.2.2.2.2.1 l1) (if s.2.1.2.2.2.2.2.2.2.1 < (s.2.2.1.2.2.2.2.2.1 l1).2.1.1 then s.2.1.2.2.2.2.2.2.2.1 else (s.2.2.1.2.2.2.2.2.1 l1).2.1.1))) l1 (nLc ((va_up s.2.2.1.2.2.2.2.2.1 l1 (nRow (s.2.2.1.2.2.2.2.2.1 l1) (if s.2.1.2.2.2.2.2.2.2.1 < (s.2.2.1.2.2.2.2.2.1 l1).2.1.1 then s.2.1.2.2.2.2.2.2.2.1 else (s.2.2.1.2.2.2.2.2.1 l1).2.1.1))) l1) (if ((va_up s.2.2.1.2.2.2.2.2.1 l1 (nRow (s.2.2.1.2.2.2.2.2.1 l1) (if s.2.1.2.2.2.2.2.2.2.1 < (s.2.2.1.2.2.2.2.2.1 l1).2.1.1 then s.2.1.2.2.2.2.2.2.2.1 else (s.2.2.1.2.2.2.2.2.1 l1).2.1.1))) l1).2.1.2.1 < s.2.1.2.2.2.2.2.2.2.2 then s.2.1.2.2.2.2.2.2.2.2 else ((va_up s.2.2.1.2.2.2.2.2.1 l1 (nRow (s.2.2.1.2.2.2.2.2.1 l1) (if s.2.1.2.2.2.2.2.2.2.1 < (s.2.2.1.2.2.2.2.2.1 l1).2.1.1 then s.2.1.2.2.2.2.2.2.2.1 else (s.2.2.1.2.2.2.2.2.1 l1).2.1.1))) l1).2.1.2.1))) l1).2.1.2.2.2.1))) l1) (if s.2.1.2.2.2.2.2.2.2.2 < ((va_up (va_up (va_up s.2.2.1.2.2.2.2.2.1 l1 (nRow (s.2.2.1.2.2.2.2.2.1 l1) (if s.2.1.2.2.2.2.2.2.2.1 < (s.2.2.1.2.2.2.2.2.1 l1).2.1.1 then s.2.1.2.2.2.2.2.2.2.1 else (s.2.2.1.2.2.2.2.2.1 l1).2.1.1))) l1 (nLc ((va_up s.2.2.1.2.2.2.2.2.1 l1 (nRow (s.2.2.1.2.2.2.2.2.1 l1) (if s.2.1.2.2.2.2.2.2.2.1 < (s.2.2.1.2.2.2.2.2.1 l1).2.1.1 then s.2.1.2.2.2.2.2.2.2.1 else (s.2.2.1.2.2.2.2.2.1 l1).2.1.1))) l1) (if ((va_up s.2.2.1.2.2.2.2.2.1 l1 (nRow (s.2.2.1.2.2.2.2.2.1 l1) (if s.2.1.2.2.2.2.2.2.2.1 < (s.2.2.1.2.2.2.2.2.1 l1).2.1.1 then s.2.1.2.2.2.2.2.2.2.1 else (s.2.2.1.2.2.2.2.2.1 l1).2.1.1))) l1).2.1.2.1 < s.2.1.2.2.2.2.2.2.2.2 then s.2.1.2.2.2.2.2.2.2.2 else ((va_up s.2.2.1.2.2.2.2.2.1 l1 (nRow (s.2.2.1.2.2.2.2.2.1 l1) (if s.2.1.2.2.2.2.2.2.2.1 < (s.2.2.1.2.2.2.2.2.1 l1).2.1.1 then s.2.1.2.2.2.2.2.2.2.1 else (s.2.2.1.2.2.2.2.2.1 l1).2.1.1))) l1).2.1.2.1))) l1 (nLcs ((va_up (va_up s.2.2.1.2.2.2.2.2.1 l1 (nRow (s.2.2.1.2.2.2.2.2.1 l1) (if s.2.1.2.2.2.2.2.2.2.1 < (s.2.2.1.2.2.2.2.2.1 l1).2.1.1 then s.2.1.2.2.2.2.2.2.2.1 else (s.2.2.1.2.2.2.2.2.1 l1).2.1.1))) l1 (nLc ((va_up s.2.2.1.2.2.2.2.2.1 l1 (nRow (s.2.2.1.2.2.2.2.2.1 l1) (if s.2.1.2.2.2.2.2.2.2.1 < (s.2.2.1.2.2.2.2.2.1 l1).2.1.1 then s.2.1.2.2.2.2.2.2.2.1 else (s.2.2.1.2.2.2.2.2.1 l1).2.1.1))) l1) (if ((va_up s.2.2.1.2.2.2.2.2.1 l1 (nRow (s.2.2.1.2.2.2.2.2.1 l1) (if s.2.1.2.2.2.2.2.2.2.1 < (s.2.2.1.2.2.2.2.2.1 l1).2.1.1 then s.2.1.2.2.2.2.2.2.2.1 else (s.2.2.1.2.2.2.2.2.1 l1).2.1.1))) l1).2.1.2.1 < s.2.1.2.2.2.2.2.2.2.2 then s.2.1.2.2.2.2.2.2.2.2 else ((va_up s.2.2.1.2.2.2.2.2.1 l1 (nRow (s.2.2.1.2.2.2.2.2.1 l1) (if s.2.1.2.2.2.2.2.2.2.1 < (s.2.2.1.2.2.2.2.2.1 l1).2.1.1 then s.2.1.2.2.2.2.2.2.2.1 else (s.2.2.1.2.2.2.2.2.1 l1).2.1.1))) l1).2.1.2.1))) l1) (((va_up (va_up s.2.2.1.2.2.2.2.2.1 l1 (nRow (s.2.2.1.2.2.2.2.2.1 l1) (if s.2.1.2.2.2.2.2.2.2.1 < (s.2.2.1.2.2.2.2.2.1 l1).2.1.1 then s.2.1.2.2.2.2.2.2.2.1 else (s.2.2.1.2.2.2.2.2.1 l1).2.1.1))) l1 (nLc ((va_up s.2.2.1.2.2.2.2.2.1 l1 (nRow (s.2.2.1.2.2.2.2.2.1 l1) (if s.2.1.2.2.2.2.2.2.2.1 < (s.2.2.1.2.2.2.2.2.1 l1).2.1.1 then s.2.1.2.2.2.2.2.2.2.1 else (s.2.2.1.2.2.2.2.2.1 l1).2.1.1))) l1) (if ((va_up s.2.2.1.2.2.2.2.2.1 l1 (nRow (s.2.2.1.2.2.2.2.2.1 l1) (if s.2.1.2.2.2.2.2.2.2.1 < (s.2.2.1.2.2.2.2.2.1 l1).2.1.1 then s.2.1.2.2.2.2.2.2.2.1 else (s.2.2.1.2.2.2.2.2.1 l1).2.1.1))) l1).2.1.2.1 < s.2.1.2.2.2.2.2.2.2.2 then s.2.1.2.2.2.2.2.2.2.2 else ((va_up s.2.2.1.2.2.2.2.2.1 l1 (nRow (s.2.2.1.2.2.2.2.2.1 l1) (if s.2.1.2.2.2.2.2.2.2.1 < (s.2.2.1.2.2.2.2.2.1 l1).2.1.1 then s.2.1.2.2.2.2.2.2.2.1 else (s.2.2.1.2.2.2.2.2.1 l1).2.1.1))) l1).2.1.2.1))) l1).2.1.2.2.2.1))) l1).2.1.2.1 then s.2.1.2.2.2.2.2.2.2.2 else ((va_up (va_up (va_up s.2.2.1.2.2.2.2.2.1 l1 (nRow (s.2.2.1.2.2.2.2.2.1 l1) (if s.2.1.2.2.2.2.2.2.2.1 < (s.2.2.1.2.2.2.2.2.1 l1).2.1.1 then s.2.1.2.2.2.2.2.2.2.1 else (s.2.2.1.2.2.2.2.2.1 l1).2.1.1))) l1 (nLc ((va_up s.2.2.1.2.2.2.2.2.1 l1 (nRow (s.2.2.1.2.2.2.2.2.1 l1) (if s.2.1.2.2.2.2.2.2.2.1 < (s.2.2.1.2.2.2.2.2.1 l1).2.1.1 then s.2.1.2.2.2.2.2.2.2.1 else (s.2.2.1.2.2.2.2.2.1 l1).2.1.1))) l1) (if ((va_up s.2.2.1.2.2.2.2.2.1 l1 (nRow (s.2.2.1.2.2.2.2.2.1 l1) (if s.2.1.2.2.2.2.2.2.2.1 < (s.2.2.1.2.2.2.2.2.1 l1).2.1.1 then s.2.1.2.2.2.2.2.2.2.1 else (s.2.2.1.2.2.2.2.2.1 l1).2.1.1))) l1).2.1.2.1 < s.2.1.2.2.2.2.2.2.2.2 then s.2.1.2.2.2.2.2.2.2.2 else ((va_up s.2.2.1.2.2.2.2.2.1 l1 (nRow (s.2.2.1.2.2.2.2.2.1 l1) (if s.2.1.2.2.2.2.2.2.2.1 < (s.2.2.1.2.2.2.2.2.1 l1).2.1.1 then s.2.1.2.2.2.2.2.2.2.1 else (s.2.2.1.2.2.2.2.2.1 l1).2.1.1))) l1).2.1.2.1))) l1 (nLcs ((va_up (va_up s.2.2.1.2.2.2.2.2.1 l1 (nRow (s.2.2.1.2.2.2.2.2.1 l1) (if s.2.1.2.2.2.2.2.2.2.1 < (s.2.2.1.2.2.2.2.2.1 l1).2.1.1 then s.2.1.2.2.2.2.2.2.2.1 else (s.2.2.1.2.2.2.2.2.1 l1).2.1.1))) l1 (nLc ((va_up s.2.2.1.2.2.2.2.2.1 l1 (nRow (s.2.2.1.2.2.2.2.2.1 l1) (if s.2.1.2.2.2.2.2.2.2.1 < (s.2.2.1.2.2.2.2.2.1 l1).2.1.1 then s.2.1.2.2.2.2.2.2.2.1 else (s.2.2.1.2.2.2.2.2.1 l1).2.1.1))) l1) (if ((va_up s.2.2.1.2.2.2.2.2.1 l1 (nRow (s.2.2.1.2.2.2.2.2.1 l1) (if s.2.1.2.2.2.2.2.2.2.1 < (s.2.2.1.2.2.2.2.2.1 l1).2.1.1 then s.2.1.2.2.2.2.2.2.2.1 else (s.2.2.1.2.2.2.2.2.1 l1).2.1.1))) l1).2.1.2.1 < s.2.1.2.2.2.2.2.2.2.2 then s.2.1.2.2.2.2.2.2.2.2 else ((va_up s.2.2.1.2.2.2.2.2.1 l1 (nRow (s.2.2.1.2.2.2.2.2.1 l1) (if s.2.1.2.2.2.2.2.2.2.1 < (s.2.2.1.2.2.2.2.2.1 l1).2.1.1 then s.2.1.2.2.2.2.2.2.2.1 else (s.2.2.1.2.2.2.2.2.1 l1).2.1.1))) l1).2.1.2.1))) l1) (((va_up (va_up s.2.2.1.2.2.2.2.2.1 l1 (nRow (s.2.2.1.2.2.2.2.2.1 l1) (if s.2.1.2.2.2.2.2.2.2.1 < (s.2.2.1.2.2.2.2.2.1 l1).2.1.1 then s.2.1.2.2.2.2.2.2.2.1 else (s.2.2.1.2.2.2.2.2.1 l1).2.1.1))) l1 (nLc ((va_up s.2.2.1.2.2.2.2.2.1 l1 (nRow (s.2.2.1.2.2.2.2.2.1 l1) (if s.2.1.2.2.2.2.2.2.2.1 < (s.2.2.1.2.2.2.2.2.1 l1).2.1.1 then s.2.1.2.2.2.2.2.2.2.1 else (s.2.2.1.2.2.2.2.2.1 l1).2.1.1))) l1) (if ((va_up s.2.2.1.2.2.2.2.2.1 l1 (nRow (s.2.2.1.2.2.2.2.2.1 l1) (if s.2.1.2.2.2.2.2.2.2.1 < (s.2.2.1.2.2.2.2.2.1 l1).2.1.1 then s.2.1.2.2.2.2.2.2.2.1 else (s.2.2.1.2.2.2.2.2.1 l1).2.1.1))) l1).2.1.2.1 < s.2.1.2.2.2.2.2.2.2.2 then s.2.1.2.2.2.2.2.2.2.2 else ((va_up s.2.2.1.2.2.2.2.2.1 l1 (nRow (s.2.2.1.2.2.2.2.2.1 l1) (if s.2.1.2.2.2.2.2.2.2.1 < (s.2.2.1.2.2.2.2.2.1 l1).2.1.1 then s.2.1.2.2.2.2.2.2.2.1 else (s.2.2.1.2.2.2.2.2.1 l1).2.1.1))) l1).2.1.2.1))) l1).2.1.2.2.2.1))) l1).2.1.2.1))) g254)) ?_
      refine xy_r (xw_aload_n dM_cells_216 rfl) ?_
      refine xy_r (xw_aload_n dM_cells_217 rfl) ?_
      refine xy_r (xw_get dM_cells_218 fM_314 rfl rfl) ?_
      refine xy_r (xg_put dM_cells_221 fM_221 rfl (by decide) (Nat.le_of_ble_eq_true rfl) (fun _ => rfl) (fun _ => rfl) (mV_o (s' := (s.1, (s.2.1.1, s.2.1.2.2.2.2.1, s.2.1.2.2), (s.2.2.1.1, s.2.2.1.2.1, s.2.2.1.2.2.1, s.2.2.1.2.2.2.1, s.2.2.1.2.2.2.2.1, (va_up (va_up (va_up (va_up s.2.2.1.2.2.2.2.2.1 l1 (nRow (s.2.2.1.2.2.2.2.2.1 l1) (if s.2.1.2.2.2.2.2.2.2.1 < (s.2.2.1.2.2.2.2.2.1 l1).2.1.1 then s.2.1.2.2.2.2.2.2.2.1 else (s.2.2.1.2.2.2.2.2.1 l1).2.1.1))) l1 (nLc ((va_up s.2.2.1.2.2.2.2.2.1 l1 (nRow (s.2.2.1.2.2.2.2.2.1 l1) (if s.2.1.2.2.2.2.2.2.2.1 < (s.2.2.1.2.2.2.2.2.1 l1).2.1.1 then s.2.1.2.2.2.2.2.2.2.1 else (s.2.2.1.2.2.2.2.2.1 l1).2.1.1))) l1) (if ((va_up s.2.2.1.2.2.2.2.2.1 l1 (nRow (s.2.2.1.2.2.2.2.2.1 l1) (if s.2.1.2.2.2.2.2.2.2.1 < (s.2.2.1.2.2.2.2.2.1 l1).2.1.1 then s.2.1.2.2.2.2.2.2.2.1 else (s.2.2.1.2.2.2.2.2.1 l1).2.1.1))) l1).2.1.2.1 < s.2.1.2.2.2.2.2.2.2.2 then s.2.1.2.2.2.2.2.2.2.2 else ((va_up s.2.2.1.2.2.2.2.2.1 l1 (nRow (s.2.2.1.2.2.2.2.2.1 l1) (if s.2.1.2.2.2.2.2.2.2.1 < (s.2.2.1.2.2.2.2.2.1 l1).2.1.1 then s.2.1.2.2.2.2.2.2.2.1 else (s.2.2.1.2.2.2.2.2.1 l1).2.1.1))) l1).2.1.2.1))) l1 (nLcs ((va_up (va_up s.2.2.1.2.2.2.2.2.1 l1 (nRow (s.2.2.1.2.2.2.2.2.1 l1) (if s.2.1.2.2.2.2.2.2.2.1 < (s.2.2.1.2.2.2.2.2.1 l1).2.1.1 then s.2.1.2.2.2.2.2.2.2.1 else (s.2.2.1.2.2.2.2.2.1 l1).2.1.1))) l1 (nLc ((va_up s.2.2.1.2.2.2.2.2.1 l1 (nRow (s.2.2.1.2.2.2.2.2.1 l1) (if s.2.1.2.2.2.2.2.2.2.1 < (s.2.2.1.2.2.2.2.2.1 l1).2.1.1 then s.2.1.2.2.2.2.2.2.2.1 else (s.2.2.1.2.2.2.2.2.1 l1).2.1.1))) l1) (if ((va_up s.2.2.1.2.2.2.2.2.1 l1 (nRow (s.2.2.1.2.2.2.2.2.1 l1) (if s.2.1.2.2.2.2.2.2.2.1 < (s.2.2.1.2.2.2.2.2.1 l1).2.1.1 then s.2.1.2.2.2.2.2.2.2.1 else (s.2.2.1.2.2.2.2.2.1 l1).2.1.1))) l1).2.1.2.1 < s.2.1.2.2.2.2.2.2.2.2 then s.2.1.2.2.2.2.2.2.2.2 else ((va_up s.2.2.1.2.2.2.2.2.1 l1 (nRow (s.2.2.1.2.2.2.2.2.1 l1) (if s.2.1.2.2.2.2.2.2.2.1 < (s.2.2.1.2.2.2.2.2.1 l1).2.1.1 then s.2.1.2.2.2.2.2.2.2.1 else (s.2.2.1.2.2.2.2.2.1 l1).2.1.1))) l1).2.1.2.1))) l1) (((va_up (va_up s.2.2.1.2.2.2.2.2.1 l1 (nRow (s.2.2.1.2.2.2.2.2.1 l1) (if s.2.1.2.2.2.2.2.2.2.1 < (s.2.2.1.2.2.2.2.2.1 l1).2.1.1 then s.2.1.2.2.2.2.2.2.2.1 else (s.2.2.1.2.2.2.2.2.1 l1).2.1.1))) l1 (nLc ((va_up s.2.2.1.2.2.2.2.2.1 l1 (nRow (s.2.2.1.2.2.2.2.2.1 l1) (if s.2.1.2.2.2.2.2.2.2.1 < (s.2.2.1.2.2.2.2.2.1 l1).2.1.1 then s.2.1.2.2.2.2.2.2.2.1 else (s.2.2.1.2.2.2.2.2.1 l1).2.1.1))) l1) (if ((va_up s.2.2.1.2.2.2.2.2.1 l1 (nRow (s.2.2.1.2.2.2.2.2.1 l1) (if s.2.1.2.2.2.2.2.2.2.1 < (s.2.2.1.2.2.2.2.2.1 l1).2.1.1 then s.2.1.2.2.2.2.2.2.2.1 else (s.2.2.1.2.2.2.2.2.1 l1).2.1.1))) l1).2.1.2.1 < s.2.1.2.2.2.2.2.2.2.2 then s.2.1.2.2.2.2.2.2.2.2 else ((va_up s.2.2.1.2.2.2.2.2.1 l1 (nRow (s.2.2.1.2.2.2.2.2.1 l1) (if s.2.1.2.2.2.2.2.2.2.1 < (s.2.2.1.2.2.2.2.2.1 l1).2.1.1 then s.2.1.2.2.2.2.2.2.2.1 else (s.2.2.1.2.2.2.2.2.1 l1).2.1.1))) l1).2.1.2.1))) l1).2.1.2.2.2.1))) l1 (nCol ((va_up (va_up (va_up s.2.2.1.2.2.2.2.2.1 l1 (nRow (s.2.2.1.2.2.2.2.2.1 l1) (if s.2.1.2.2.2.2.2.2.2.1 < (s.2.2.1.2.2.2.2.2.1 l1).2.1.1 then s.2.1.2.2.2.2.2.2.2.1 else (s.2.2.1.2.2.2.2.2.1 l1).2.1.1))) l1 (nLc ((va_up s.2.2.1.2.2.2.2.2.1 l1 (nRow (s.2.2.1.2.2.2.2.2.1 l1) (if s.2.1.2.2.2.2.2.2.2.1 < (s.2.2.1.2.2.2.2.2.1 l1).2.1.1 then s.2.1.2.2.2.2.2.2.2.1 else (s.2.2.1.2.2.2.2.2.1 l1).2.1.1))) l1) (if ((va_up s.2.2.1.2.2.2.2.2.1 l1 (nRow (s.2.2.1.2.2.2.2.2.1 l1) (if s.2.1.2.2.2.2.2.2.2.1 < (s.2.2.1.2.2.2.2.2.1 l1).2.1.1 then s.2.1.2.2.2.2.2.2.2.1 else (s.2.2.1.2.2.2.2.2.1 l1).2.1.1))) l1).2.1.2.1 < s.2.1.2.2.2.2.2.2.2.2 then s.2.1.2.2.2.2.2.2.2.2 else ((va_up s.2.2.1.2.2.2.2.2.1 l1 (nRow (s.2.2.1.2.2.2.2.2.1 l1) (if s.2.1.2.2.2.2.2.2.2.1 < (s.2.2.1.2.2.2.2.2.1 l1).2.1.1 then s.2.1.2.2.2.2.2.2.2.1 else (s.2.2.1.2.2.2.2.2.1 l1).2.1.1))) l1).2.1.2.1))) l1 (nLcs ((va_up (va_up s.2.2.1.2.2.2.2.2.1 l1 (nRow (s.2.2.1.2.2.2.2.2.1 l1) (if s.2.1.2.2.2.2.2.2.2.1 < (s.2.2.1.2.2.2.2.2.1 l1).2.1.1 then s.2.1.2.2.2.2.2.2.2.1 else (s.2.2.1.2.2.2.2.2.1 l1).2.1.1))) l1 (nLc ((va_up s.2.2.1.2.2.2.2.2.1 l1 (nRow (s.2.2.1.2.2.2.2.2.1 l1) (if s.2.1.2.2.2.2.2.2.2.1 < (s.2.2.1.2.2.2.2.2.1 l1).2.1.1 then s.2.1.2.2.2.2.2.2.2.1 else (s.2.2.1.2.2.2.2.2.1 l1).2.1.1))) l1) (if ((va_up s.2.2.1.2.2.2.2.2.1 l1 (nRow (s.2.2.1.2.2.2.2.2.1 l1) (if s.2.1.2.2.2.2.2.2.2.1 < (s.2.2.1.2.2.2.2.2.1 l1).2.1.1 then s.2.1.2.2.2.2.2.2.2.1 else (s.2.2.1.2.2.2.2.2.1 l1).2.1.1))) l1).2.1.2.1 < s.2.1.2.2.2.2.2.2.2.2 then s.2.1.2.2.2.2.2.2.2.2 else ((va_up s.2.2.1.2.2.2.2.2.1 l1 (nRow (s.2.2.1.2.2.2.2.2.1 l1) (if s.2.1.2.2.2.2.2.2.2.1 < (s.2.2.1.2.2.2.2.2.1 l1).2.1.1 then s.2.1.2.2.2.2.2.2.2.1 else (s.2.2.1.2.2.2.2.2.1 l1).2.1.1))) l1).2.1.2.1))) l1) (((va_up (va_up s.2.2.1.2.2.2.2.2.1 l1 (nRow (s.2.2.1.2.2.2.2.2.1 l1) (if s.2.1.2.2.2.2.2.2.2.1 < (s.2.2.1.2.2.2.2.2.1 l1).2.1.1 then s.2.1.2.2.2.2.2.2.2.1 else (s.2.2.1.2.2.2.2.2.1 l1).2.1.1))) l1 (nLc ((va_up s.2.2.1.2.2.2.2.2.1 l1 (nRow (s.2.2.1.2.2.2.2.2.1 l1) (if s.2.1.2.2.2.2.2.2.2.1 < (s.2.2.1.2.2.2.2.2.1 l1).2.1.1 then s.2.1.2.2.2.2.2.2.2.1 else (s.2.2.1.2.2.2.2.2.1 l1).2.1.1))) l1) (if ((va_up s.2.2.1.2.2.2.2.2.1 l1 (nRow (s.2.2.1.2.2.2.2.2.1 l1) (if s.2.1.2.2.2.2.2.2.2.1 < (s.2.2.1.2.2.2.2.2.1 l1).2.1.1 then s.2.1.2.2.2.2.2.2.2.1 else (s.2.2.1.2.2.2.2.2.1 l1).2.1.1))) l1).2.1.2.1 < s.2.1.2.2.2.2.2.2.2.2 then s.2.1.2.2.2.2.2.2.2.2 else ((va_up s.2.2.1.2.2.2.2.2.1 l1 (nRow (s.2.2.1.2.2.2.2.2.1 l1) (if s.2.1.2.2.2.2.2.2.2.1 < (s.2.2.1.2.2.2.2.2.1 l1).2.1.1 then s.2.1.2.2.2.2.2.2.2.1 else (s.2.2.1.2.2.2.2.2.1 l1).2.1.1))) l1).2.1.2.1))) l1).2.1.2.2.2.1))) l1) (if s.2.1.2.2.2.2.2.2.2.2 < ((va_up (va_up (va_up s.2.2.1.2.2.2.2.2.1 l1 (nRow (s.2.2.1.2.2.2.2.2.1 l1) (if s.2.1.2.2.2.2.2.2.2.1 < (s.2.2.1.2.2.2.2.2.1 l1).2.1.1 then s.2.1.2.2.2.2.2.2.2.1 else (s.2.2.1.2.2.2.2.2.1 l1).2.1.1))) l1 (nLc ((va_up s.2.2.1.2.2.2.2.2.1 l1 (nRow (s.2.2.1.2.2.2.2.2.1 l1) (if s.2.1.2.2.2.2.2.2.2.1 < (s.2.2.1.2.2.2.2.2.1 l1).2.1.1 then s.2.1.2.2.2.2.2.2.2.1 else (s.2.2.1.2.2.2.2.2.1 l1).2.1.1))) l1) (if ((va_up s.2.2.1.2.2.2.2.2.1 l1 (nRow (s.2.2.1.2.2.2.2.2.1 l1) (if s.2.1.2.2.2.2.2.2.2.1 < (s.2.2.1.2.2.2.2.2.1 l1).2.1.1 then s.2.1.2.2.2.2.2.2.2.1 else (s.2.2.1.2.2.2.2.2.1 l1).2.1.1))) l1).2.1.2.1 < s.2.1.2.2.2.2.2.2.2.2 then s.2.1.2.2.2.2.2.2.2.2 else ((va_up s.2.2.1.2.2.2.2.2.1 l1 (nRow (s.2.2.1.2.2.2.2.2.1 l1) (if s.2.1.2.2.2.2.2.2.2.1 < (s.2.2.1.2.2.2.2.2.1 l1).2.1.1 then s.2.1.2.2.2.2.2.2.2.1 else (s.2.2.1.2.2.2.2.2.1 l1).2.1.1))) l1).2.1.2.1))) l1 (nLcs ((va_up (va_up s.2.2.1.2.2.2.2.2.1 l1 (nRow (s.2.2.1.2.2.2.2.2.1 l1) (if s.2.1.2.2.2.2.2.2.2.1 < (s.2.2.1.2.2.2.2.2.1 l1).2.1.1 then s.2.1.2.2.2.2.2.2.2.1 else (s.2.2.1.2.2.2.2.2.1 l1).2.1.1))) l1 (nLc ((va_up s.2.2.1.2.2.2.2.2.1 l1 (nRow (s.2.2.1.2.2.2.2.2.1 l1) (if s.2.1.2.2.2.2.2.2.2.1 < (s.2.2.1.2.2.2.2.2.1 l1).2.1.1 then s.2.1.2.2.2.2.2.2.2.1 else (s.2.2.1.2.2.2.2.2.1 l1).2.1.1))) l1) (if ((va_up s.2.2.1.2.2.2.2.2.1 l1 (nRow (s.2.2.1.2.2.2.2.2.1 l1) (if s.2.1.2.2.2.2.2.2.2.1 < (s.2.2.1.2.2.2.2.2.1 l1).2.1.1 then s.2.1.2.2.2.2.2.2.2.1 else (s.2.2.1.2.2.2.2.2.1 l1).2.1.1))) l1).2.1.2.1 < s.2.1.2.2.2.2.2.2.2.2 then s.2.1.2.2.2.2.2.2.2.2 else ((va_up s.2.2.1.2.2.2.2.2.1 l1 (nRow (s.2.2.1.2.2.2.2.2.1 l1) (if s.2.1.2.2.2.2.2.2.2.1 < (s.2.2.1.2.2.2.2.2.1 l1).2.1.1 then s.2.1.2.2.2.2.2.2.2.1 else (s.2.2.1.2.2.2.2.2.1 l1).2.1.1))) l1).2.1.2.1))) l1) (((va_up (va_up s.2.2.1.2.2.2.2.2.1 l1 (nRow (s.2.2.1.2.2.2.2.2.1 l1) (if s.2.1.2.2.2.2.2.2.2.1 < (s.2.2.1.2.2.2.2.2.1 l1).2.1.1 then s.2.1.2.2.2.2.2.2.2.1 else (s.2.2.1.2.2.2.2.2.1 l1).2.1.1))) l1 (nLc ((va_up s.2.2.1.2.2.2.2.2.1 l1 (nRow (s.2.2.1.2.2.2.2.2.1 l1) (if s.2.1.2.2.2.2.2.2.2.1 < (s.2.2.1.2.2.2.2.2.1 l1).2.1.1 then s.2.1.2.2.2.2.2.2.2.1 else (s.2.2.1.2.2.2.2.2.1 l1).2.1.1))) l1) (if ((va_up s.2.2.1.2.2.2.2.2.1 l1 (nRow (s.2.2.1.2.2.2.2.2.1 l1) (if s.2.1.2.2.2.2.2.2.2.1 < (s.2.2.1.2.2.2.2.2.1 l1).2.1.1 then s.2.1.2.2.2.2.2.2.2.1 else (s.2.2.1.2.2.2.2.2.1 l1).2.1.1))) l1).2.1.2.1 < s.2.1.2.2.2.2.2.2.2.2 then s.2.1.2.2.2.2.2.2.2.2 else ((va_up s.2.2.1.2.2.2.2.2.1 l1 (nRow (s.2.2.1.2.2.2.2.2.1 l1) (if s.2.1.2.2.2.2.2.2.2.1 < (s.2.2.1.2.2.2.2.2.1 l1).2.1.1 then s.2.1.2.2.2.2.2.2.2.1 else (s.2.2.1.2.2.2.2.2.1 l1).2.1.1))) l1).2.1.2.1))) l1).2.1.2.2.2.1))) l1).2.1.2.1 then s.2.1.2.2.2.2.2.2.2.2 else ((va_up (va_up (va_up s.2.2.1.2.2.2.2.2.1 l1 (nRow (s.2.2.1.2.2.2.2.2.1 l1) (if s.2.1.2.2.2.2.2.2.2.1 < (s.2.2.1.2.2.2.2.2.1 l1).2.1.1 then s.2.1.2.2.2.2.2.2.2.1 else (s.2.2.1.2.2.2.2.2.1 l1).2.1.1))) l1 (nLc ((va_up s.2.2.1.2.2.2.2.2.1 l1 (nRow (s.2.2.1.2.2.2.2.2.1 l1) (if s.2.1.2.2.2.2.2.2.2.1 < (s.2.2.1.2.2.2.2.2.1 l1).2.1.1 then s.2.1.2.2.2.2.2.2.2.1 else (s.2.2.1.2.2.2.2.2.1 l1).2.1.1))) l1) (if ((va_up s.2.2.1.2.2.2.2.2.1 l1 (nRow (s.2.2.1.2.2.2.2.2.1 l1) (if s.2.1.2.2.2.2.2.2.2.1 < (s.2.2.1.2.2.2.2.2.1 l1).2.1.1 then s.2.1.2.2.2.2.2.2.2.1 else (s.2.2.1.2.2.2.2.2.1 l1).2.1.1))) l1).2.1.2.1 < s.2.1.2.2.2.2.2.2.2.2 then s.2.1.2.2.2.2.2.2.2.2 else ((va_up s.2.2.1.2.2.2.2.2.1 l1 (nRow (s.2.2.1.2.2.2.2.2.1 l1) (if s.2.1.2.2.2.2.2.2.2.1 < (s.2.2.1.2.2.2.2.2.1 l1).2.1.1 then s.2.1.2.2.2.2.2.2.2.1 else (s.2.2.1.2.2.2.2.2.1 l1).2.1.1))) l1).2.1.2.1))) l1 (nLcs ((va_up (va_up s.2.2.1.2.2.2.2.2.1 l1 (nRow (s.2.2.1.2.2.2.2.2.1 l1) (if s.2.1.2.2.2.2.2.2.2.1 < (s.2.2.1.2.2.2.2.2.1 l1).2.1.1 then s.2.1.2.2.2.2.2.2.2.1 else (s.2.2.1.2.2.2.2.2.1 l1).2.1.1))) l1 (nLc ((va_up s.2.2.1.2.2.2.2.2.1 l1 (nRow (s.2.2.1.2.2.2.2.2.1 l1) (if s.2.1.2.2.2.2.2.2.2.1 < (s.2.2.1.2.2.2.2.2.1 l1).2.1.1 then s.2.1.2.2.2.2.2.2.2.1 else (s.2.2.1.2.2.2.2.2.1 l1).2.1.1))) l1) (if ((va_up s.2.2.1.2.2.2.2.2.1 l1 (nRow (s.2.2.1.2.2.2.2.2.1 l1) (if s.2.1.2.2.2.2.2.2.2.1 < (s.2.2.1.2.2.2.2.2.1 l1).2.1.1 then s.2.1.2.2.2.2.2.2.2.1 else (s.2.2.1.2.2.2.2.2.1 l1).2.1.1))) l1).2.1.2.1 < s.2.1.2.2.2.2.2.2.2.2 then s.2.1.2.2.2.2.2.2.2.2 else ((va_up s.2.2.1.2.2.2.2.2.1 l1 (nRow (s.2.2.1.2.2.2.2.2.1 l1) (if s.2.1.2.2.2.2.2.2.2.1 < (s.2.2.1.2.2.2.2.2.1 l1).2.1.1 then s.2.1.2.2.2.2.2.2.2.1 else (s.2.2.1.2.2.2.2.2.1 l1).2.1.1))) l1).2.1.2.1))) l1) (((va_up (va_up s.2.2.1.2.2.2.2.2.1 l1 (nRow (s.2.2.1.2.2.2.2.2.1 l1) (if s.2.1.2.2.2.2.2.2.2.1 < (s.2.2.1.2.2.2.2.2.1 l1).2.1.1 then s.2.1.2.2.2.2.2.2.2.1 else (s.2.2.1.2.2.2.2.2.1 l1).2.1.1))) l1 (nLc ((va_up s.2.2.1.2.2.2.2.2.1 l1 (nRow (s.2.2.1.2.2.2.2.2.1 l1) (if s.2.1.2.2.2.2.2.2.2.1 < (s.2.2.1.2.2.2.2.2.1 l1).2.1.1 then s.2.1.2.2.2.2.2.2.2.1 else (s.2.2.1.2.2.2.2.2.1 l1).2.1.1))) l1) (if ((va_up s.2.2.1.2.2.2.2.2.1 l1 (nRow (s.2.2.1.2.2.2.2.2.1 l1) (if s.2.1.2.2.2.2.2.2.2.1 < (s.2.2.1.2.2.2.2.2.1 l1).2.1.1 then s.2.1.2.2.2.2.2.2.2.1 else (s.2.2.1.2.2.2.2.2.1 l1).2.1.1))) l1).2.1.2.1 < s.2.1.2.2.2.2.2.2.2.2 then s.2.1.2.2.2.2.2.2.2.2 else ((va_up s.2.2.1.2.2.2.2.2.1 l1 (nRow (s.2.2.1.2.2.2.2.2.1 l1) (if s.2.1.2.2.2.2.2.2.2.1 < (s.2.2.1.2.2.2.2.2.1 l1).2.1.1 then s.2.1.2.2.2.2.2.2.2.1 else (s.2.2.1.2.2.2.2.2.1 l1).2.1.1))) l1).2.1.2.1))) l1).2.1.2.2.2.1))) l1).2.1.2.1))), s.2.2.1.2.2.2.2.2.2), s.2.2.2)) rfl)) ?_
      refine xy_r (xw_aload_n dM_cells_224 rfl) ?_
      obtain rfl := Option.some.inj hF
      exact xy_end (xw_areturn dM_cells_225 rfl (Or.inl ⟨_, rfl⟩) (Nat.le_refl _) (Nat.le_refl _) ⟨rfl, rfl⟩)
    · replace hF := xg_f c257 hF
      refine xy_r (xw_aload_n dM_cells_193 rfl) ?_
      refine xy_r (xw_aload_n dM_cells_194 rfl) ?_
      refine xy_r (xw_get dM_cells_195 fM_298 rfl rfl) ?_
      refine xy_r (xg_put dM_cells_198 fM_377 (mV_n g254) (xn_le _) (Nat.le_of_ble_eq_true rfl) (fun _ => xb_nar s.2.1.2.2.2.2.2.2.1) (fun _ => xb_fit s.2.1.2.2.2.2.2.2.1) (mV_pn (q := (nCs ((va_up (va_up (va_up s.2.2.1.2.2.2.2.2.1 l1 (nRow (s.2.2.1.2.2.2.2.2.1 l1) (if s.2.1.2.2.2.2.2.2.2.1 < (s.2.2.1.2.2.2.2.2.1 l1).2.1.1 then s.2.1.2.2.2.2.2.2.2.1 else (s.2.2.1.2.2.2.2.2.1 l1).2.1.1))) l1 (nLc ((va_up s.2.2.1.2.2.2.2.2.1 l1 (nRow (s.2.2.1.2.2.2.2.2.1 l1) (if s.2.1.2.2.2.2.2.2.2.1 < (s.2.2.1.2.2.2.2.2.1 l1).2.1.1 then s.2.1.2.2.2.2.2.2.2.1 else (s.2.2.1.2.2.2.2.2.1 l1).2.1.1))) l1) (if ((va_up s.2.2.1.2.2.2.2.2.1 l1 (nRow (s.2.2.1.2.2.2.2.2.1 l1) (if s.2.1.2.2.2.2.2.2.2.1 < (s.2.2.1.2.2.2.2.2.1 l1).2.1.1 then s.2.1.2.2.2.2.2.2.2.1 else (s.2.2.1.2.2.2.2.2.1 l1).2.1.1))) l1).2.1.2.1 < s.2.1.2.2.2.2.2.2.2.2 then s.2.1.2.2.2.2.2.2.2.2 else ((va_up s.2.2.1.2.2.2.2.2.1 l1 (nRow (s.2.2.1.2.2.2.2.2.1 l1) (if s.2.1.2.2.2.2.2.2.2.1 < (s.2.2.1.2.2.2.2.2.1 l1).2.1.1 then s.2.1.2.2.2.2.2.2.2.1 else (s.2.2.1.2.2.2.2.2.1 l1).2.1.1))) l1).2.1.2.1))) l1 (nLcs ((va_up (va_up s.2.2.1.2.2.2.2.2.1 l1 (nRow (s.2.2.1.2.2.2.2.2.1 l1) (if s.2.1.2.2.2.2.2.2.2.1 < (s.2.2.1.2.2.2.2.2.1 l1).2.1.1 then s.2.1.2.2.2.2.2.2.2.1 else (s.2.2.1.2.2.2.2.2.1 l1).2.1.1))) l1 (nLc ((va_up s.2.2.1.2.2.2.2.2.1 l1 (nRow (s.2.2.1.2.2.2.2.2.1 l1) (if s.2.1.2.2.2.2.2.2.2.1 < (s.2.2.1.2.2.2.2.2.1 l1).2.1.1 then s.2.1.2.2.2.2.2.2.2.1 else (s.2.2.1.2.2.2.2.2.1 l1).2.1.1))) l1) (if ((va_up s.2.2.1.2.2.2.2.2.1 l1 (nRow (s.2.2.1.2.2.2.2.2.1 l1) (if s.2.1.2.2.2.2.2.2.2.1 < (s.2.2.1.2.2.2.2.2.1 l1).2.1.1 then s.2.1.2.2.2.2.2.2.2.1 else (s.2.2.1.2.2.2.2.2.1 l1).2.1.1))) l1).2.1.2.1 < s.2.1.2.2.2.2.2.2.2.2 then s.2.1.2.2.2.2.2.2.2.2 else ((va_up s.2.2.1.2.2.2.2.2.1 l1 (nRow (s.2.2.1.2.2.2.2.2.1 l1) (if s.2.1.2.2.2.2.2.2.2.1 < (s.2.2.1.2.2.2.2.2.1 l1).2.1.1 then s.2.1.2.2.2.2.2.2.2.1 else (s.2.2.1.2.2.2.2.2.1 l1).2.1.1))) l1).2.1.2.1))) l1) (((va_up (va_up s.2.2.1.2.2.2.2.2.1 l1 (nRow (s.2.2.1.2.2.2.2.2.1 l1) (if s.2.1.2.2.2.2.2.2.2.1 < (s.2.2.1.2.2.2.2.2.1 l1).2.1.1 then s.2.1.2.2.2.2.2.2.2.1 else (s.2.2.1.2.2.2.2.2.1 l1).2.1.1))) l1 (nLc ((va_up s.2.2.1.2.2.2.2.2.1 l1 (nRow (s.2.2.1.2.2.2.2.2.1 l1) (if s.2.1.2.2.2.2.2.2.2.1 < (s.2.2.1.2.2.2.2.2.1 l1).2.1.1 then s.2.1.2.2.2.2.2.2.2.1 else (s.2.2.1.2.2.2.2.2.1 l1).2.1.1))) l1) (if ((va_up s.2.2.1.2.2.2.2.2.1 l1 (nRow (s.2.2.1.2.2.2.2.2.1 l1) (if s.2.1.2.2.2.2.2.2.2.1 < (s.2.2.1.2.2.2.2.2.1 l1).2.1.1 then s.2.1.2.2.2.2.2.2.2.1 else (s.2.2.1.2.2.2.2.2.1 l1).2.1.1))) l1).2.1.2.1 < s.2.1.2.2.2.2.2.2.2.2 then s.2.1.2.2.2.2.2.2.2.2 else ((va_up s.2.2.1.2.2.2.2.2.1 l1 (nRow (s.2.2.1.2.2.2.2.2.1 l1) (if s.2.1.2.2.2.2.2.2.2.1 < (s.2.2.1.2.2.2.2.2.1 l1).2.1.1 then s.2.1.2.2.2.2.2.2.2.1 else (s.2.2.1.2.2.2.2.2.1 l1).2.1.1))) l1).2.1.2.1))) l1).2.1.2.2.2.1))) l1) s.2.1.2.2.2.2.2.2.1)) g254)) ?_
      refine xy_r (xw_aload_n dM_cells_201 rfl) ?_
      refine xy_r (xw_aload_n dM_cells_202 rfl) ?_
      refine xy_r (xw_get dM_cells_203 fM_371 (mV_n g254) rfl) ?_
      refine xy_r (xw_aload_n dM_cells_206 rfl) ?_
      refine xy_r (xw_get dM_cells_207 fM_302 rfl rfl) ?_
      refine xy_q (fun hq => xw_mmin dM_cells_210 tw_1268 (Nat.le_of_ble_eq_true rfl) (Nat.le_of_ble_eq_true rfl) (Nat.sub_le_sub_right hq.1 _) (Nat.sub_le_sub_right hq.2 _)) ?_
      refine xy_r (xg_put dM_cells_213 fM_371 (mV_n g254) (xn_le _) (Nat.le_of_ble_eq_true rfl) (fun _ => rfl) (fun _ => rfl) (mV_pn (q := (nCol ((va_up (va_up (va_up (va_up s.2.2.1.2.2.2.2.2.1 l1 (nRow (s.2.2.1.2.2.2.2.2.1 l1) (if s.2.1.2.2.2.2.2.2.2.1 < (s.2.2.1.2.2.2.2.2.1 l1).2.1.1 then s.2.1.2.2.2.2.2.2.2.1 else (s.2.2.1.2.2.2.2.2.1 l1).2.1.1))) l1 (nLc ((va_up s.2.2.1.2.2.2.2.2.1 l1 (nRow (s.2.2.1.2.2.2.2.2.1 l1) (if s.2.1.2.2.2.2.2.2.2.1 < (s.2.2.1.2.2.2.2.2.1 l1).2.1.1 then s.2.1.2.2.2.2.2.2.2.1 else (s.2.2.1.2.2.2.2.2.1 l1).2.1.1))) l1) (if ((va_up s.2.2.1.2.2.2.2.2.1 l1 (nRow (s.2.2.1.2.2.2.2.2.1 l1) (if s.2.1.2.2.2.2.2.2.2.1 < (s.2.2.1.2.2.2.2.2.1 l1).2.1.1 then s.2.1.2.2.2.2.2.2.2.1 else (s.2.2.1.2.2.2.2.2.1 l1).2.1.1))) l1).2.1.2.1 < s.2.1.2.2.2.2.2.2.2.2 then s.2.1.2.2.2.2.2.2.2.2 else ((va_up s.2.2.1.2.2.2.2.2.1 l1 (nRow (s.2.2.1.2.2.2.2.2.1 l1) (if s.2.1.2.2.2.2.2.2.2.1 < (s.2.2.1.2.2.2.2.2.1 l1).2.1.1 then s.2.1.2.2.2.2.2.2.2.1 else (s.2.2.1.2.2.2.2.2.1 l1).2.1.1))) l1).2.1.2.1))) l1 (nLcs ((va_up (va_up s.2.2.1.2.2.2.2.2.1 l1 (nRow (s.2.2.1.2.2.2.2.2.1 l1) (if s.2.1.2.2.2.2.2.2.2.1 < (s.2.2.1.2.2.2.2.2.1 l1).2.1.1 then s.2.1.2.2.2.2.2.2.2.1 else (s.2.2.1.2.2.2.2.2.1 l1).2.1.1))) l1 (nLc ((va_up s.2.2.1.2.2.2.2.2.1 l1 (nRow (s.2.2.1.2.2.2.2.2.1 l1) (if s.2.1.2.2.2.2.2.2.2.1 < (s.2.2.1.2.2.2.2.2.1 l1).2.1.1 then s.2.1.2.2.2.2.2.2.2.1 else (s.2.2.1.2.2.2.2.2.1 l1).2.1.1))) l1) (if ((va_up s.2.2.1.2.2.2.2.2.1 l1 (nRow (s.2.2.1.2.2.2.2.2.1 l1) (if s.2.1.2.2.2.2.2.2.2.1 < (s.2.2.1.2.2.2.2.2.1 l1).2.1.1 then s.2.1.2.2.2.2.2.2.2.1 else (s.2.2.1.2.2.2.2.2.1 l1).2.1.1))) l1).2.1.2.1 < s.2.1.2.2.2.2.2.2.2.2 then s.2.1.2.2.2.2.2.2.2.2 else ((va_up s.2.2.1.2.2.2.2.2.1 l1 (nRow (s.2.2.1.2.2.2.2.2.1 l1) (if s.2.1.2.2.2.2.2.2.2.1 < (s.2.2.1.2.2.2.2.2.1 l1).2.1.1 then s.2.1.2.2.2.2.2.2.2.1 else (s.2.2.1.2.2.2.2.2.1 l1).2.1.1))) l1).2.1.2.1))) l1) (((va_up (va_up s.2.2.1.2.2.2.2.2.1 l1 (nRow (s.2.2.1.2.2.2.2.2.1 l1) (if s.2.1.2.2.2.2.2.2.2.1 < (s.2.2.1.2.2.2.2.2.1 l1).2.1.1 then s.2.1.2.2.2.2.2.2.2.1 else (s.2.2.1.2.2.2.2.2.1 l1).2.1.1))) l1 (nLc ((va_up s.2.2.1.2.2.2.2.2.1 l1 (nRow (s.2.2.1.2.2.2.2.2.1 l1) (if s.2.1.2.2.2.2.2.2.2.1 < (s.2.2.1.2.2.2.2.2.1 l1).2.1.1 then s.2.1.2.2.2.2.2.2.2.1 else (s.2.2.1.2.2.2.2.2.1 l1).2.1.1))) l1) (if ((va_up s.2.2.1.2.2.2.2.2.1 l1 (nRow (s.2.2.1.2.2.2.2.2.1 l1) (if s.2.1.2.2.2.2.2.2.2.1 < (s.2.2.1.2.2.2.2.2.1 l1).2.1.1 then s.2.1.2.2.2.2.2.2.2.1 else (s.2.2.1.2.2.2.2.2.1 l1).2.1.1))) l1).2.1.2.1 < s.2.1.2.2.2.2.2.2.2.2 then s.2.1.2.2.2.2.2.2.2.2 else ((va_up s.2.2.1.2.2.2.2.2.1 l1 (nRow (s.2.2.1.2.2.2.2.2.1 l1) (if s.2.1.2.2.2.2.2.2.2.1 < (s.2.2.1.2.2.2.2.2.1 l1).2.1.1 then s.2.1.2.2.2.2.2.2.2.1 else (s.2.2.1.2.2.2.2.2.1 l1).2.1.1))) l1).2.1.2.1))) l1).2.1.2.2.2.1))) l1 (nCs ((va_up (va_up (va_up s.2.2.1.2.2.2.2.2.1 l1 (nRow (s.2.2.1.2.2.2.2.2.1 l1) (if s.2.1.2.2.2.2.2.2.2.1 < (s.2.2.1.2.2.2.2.2.1 l1).2.1.1 then s.2.1.2.2.2.2.2.2.2.1 else (s.2.2.1.2.2.2.2.2.1 l1).2.1.1))) l1 (nLc ((va_up s.2.2.1.2.2.2.2.2.1 l1 (nRow (s.2.2.1.2.2.2.2.2.1 l1) (if s.2.1.2.2.2.2.2.2.2.1 < (s.2.2.1.2.2.2.2.2.1 l1).2.1.1 then s.2.1.2.2.2.2.2.2.2.1 else (s.2.2.1.2.2.2.2.2.1 l1).2.1.1))) l1) (if ((va_up s.2.2.1.2.2.2.2.2.1 l1 (nRow (s.2.2.1.2.2.2.2.2.1 l1) (if s.2.1.2.2.2.2.2.2.2.1 < (s.2.2.1.2.2.2.2.2.1 l1).2.1.1 then s.2.1.2.2.2.2.2.2.2.1 else (s.2.2.1.2.2.2.2.2.1 l1).2.1.1))) l1).2.1.2.1 < s.2.1.2.2.2.2.2.2.2.2 then s.2.1.2.2.2.2.2.2.2.2 else ((va_up s.2.2.1.2.2.2.2.2.1 l1 (nRow (s.2.2.1.2.2.2.2.2.1 l1) (if s.2.1.2.2.2.2.2.2.2.1 < (s.2.2.1.2.2.2.2.2.1 l1).2.1.1 then s.2.1.2.2.2.2.2.2.2.1 else (s.2.2.1.2.2.2.2.2.1 l1).2.1.1))) l1).2.1.2.1))) l1 (nLcs ((va_up (va_up s.2.2.1.2.2.2.2.2.1 l1 (nRow (s.2.2.1.2.2.2.2.2.1 l1) (if s.2.1.2.2.2.2.2.2.2.1 < (s.2.2.1.2.2.2.2.2.1 l1).2.1.1 then s.2.1.2.2.2.2.2.2.2.1 else (s.2.2.1.2.2.2.2.2.1 l1).2.1.1))) l1 (nLc ((va_up s.2.2.1.2.2.2.2.2.1 l1 (nRow (s.2.2.1.2.2.2.2.2.1 l1) (if s.2.1.2.2.2.2.2.2.2.1 < (s.2.2.1.2.2.2.2.2.1 l1).2.1.1 then s.2.1.2.2.2.2.2.2.2.1 else (s.2.2.1.2.2.2.2.2.1 l1).2.1.1))) l1) (if ((va_up s.2.2.1.2.2.2.2.2.1 l1 (nRow (s.2.2.1.2.2.2.2.2.1 l1) (if s.2.1.2.2.2.2.2.2.2.1 < (s.2.2.1.2.2.2.2.2.1 l1).2.1.1 then s.2.1.2.2.2.2.2.2.2.1 else (s.2.2.1.2.2.2.2.2.1 l1).2.1.1))) l1).2.1.2.1 < s.2.1.2.2.2.2.2.2.2.2 then s.2.1.2.2.2.2.2.2.2.2 else ((va_up s.2.2.1.2.2.2.2.2.1 l1 (nRow (s.2.2.1.2.2.2.2.2.1 l1) (if s.2.1.2.2.2.2.2.2.2.1 < (s.2.2.1.2.2.2.2.2.1 l1).2.1.1 then s.2.1.2.2.2.2.2.2.2.1 else (s.2.2.1.2.2.2.2.2.1 l1).2.1.1))) l1).2.1.2.1))) l1) (((va_up (va_up s.2.2.1.2.2.2.2.2.1 l1 (nRow (s.2.2.1.2.2.2.2.2.1 l1) (if s.2.1.2.2.2.2.2.2.2.1 < (s.2.2.1.2.2.2.2.2.1 l1).2.1.1 then s.2.1.2.2.2.2.2.2.2.1 else (s.2.2.1.2.2.2.2.2.1 l1).2.1.1))) l1 (nLc ((va_up s.2.2.1.2.2.2.2.2.1 l1 (nRow (s.2.2.1.2.2.2.2.2.1 l1) (if s.2.1.2.2.2.2.2.2.2.1 < (s.2.2.1.2.2.2.2.2.1 l1).2.1.1 then s.2.1.2.2.2.2.2.2.2.1 else (s.2.2.1.2.2.2.2.2.1 l1).2.1.1))) l1) (if ((va_up s.2.2.1.2.2.2.2.2.1 l1 (nRow (s.2.2.1.2.2.2.2.2.1 l1) (if s.2.1.2.2.2.2.2.2.2.1 < (s.2.2.1.2.2.2.2.2.1 l1).2.1.1 then s.2.1.2.2.2.2.2.2.2.1 else (s.2.2.1.2.2.2.2.2.1 l1).2.1.1))) l1).2.1.2.1 < s.2.1.2.2.2.2.2.2.2.2 then s.2.1.2.2.2.2.2.2.2.2 else ((va_up s.2.2.1.2.2.2.2.2.1 l1 (nRow (s.2.2.1.2.2.2.2.2.1 l1) (if s.2.1.2.2.2.2.2.2.2.1 < (s.2.2.1.2.2.2.2.2.1 l1).2.1.1 then s.2.1.2.2.2.2.2.2.2.1 else (s.2.2.1.2.2.2.2.2.1 l1).2.1.1))) l1).2.1.2.1))) l1).2.1.2.2.2.1))) l1) s.2.1.2.2.2.2.2.2.1)) l1) (if s.2.1.2.2.2.2.2.2.2.2 < ((va_up (va_up (va_up (va_up s.2.2.1.2.2.2.2.2.1 l1 (nRow (s.2.2.1.2.2.2.2.2.1 l1) (if s.2.1.2.2.2.2.2.2.2.1 < (s.2.2.1.2.2.2.2.2.1 l1).2.1.1 then s.2.1.2.2.2.2.2.2.2.1 else (s.2.2.1.2.2.2.2.2.1 l1).2.1.1))) l1 (nLc ((va_up s.2.2.1.2.2.2.2.2.1 l1 (nRow (s.2.2.1.2.2.2.2.2.1 l1) (if s.2.1.2.2.2.2.2.2.2.1 < (s.2.2.1.2.2.2.2.2.1 l1).2.1.1 then s.2.1.2.2.2.2.2.2.2.1 else (s.2.2.1.2.2.2.2.2.1 l1).2.1.1))) l1) (if ((va_up s.2.2.1.2.2.2.2.2.1 l1 (nRow (s.2.2.1.2.2.2.2.2.1 l1) (if s.2.1.2.2.2.2.2.2.2.1 < (s.2.2.1.2.2.2.2.2.1 l1).2.1.1 then s.2.1.2.2.2.2.2.2.2.1 else (s.2.2.1.2.2.2.2.2.1 l1).2.1.1))) l1).2.1.2.1 < s.2.1.2.2.2.2.2.2.2.2 then s.2.1.2.2.2.2.2.2.2.2 else ((va_up s.2.2.1.2.2.2.2.2.1 l1 (nRow (s.2.2.1.2.2.2.2.2.1 l1) (if s.2.1.2.2.2.2.2.2.2.1 < (s.2.2.1.2.2.2.2.2.1 l1).2.1.1 then s.2.1.2.2.2.2.2.2.2.1 else (s.2.2.1.2.2.2.2.2.1 l1).2.1.1))) l1).2.1.2.1))) l1 (nLcs ((va_up (va_up s.2.2.1.2.2.2.2.2.1 l1 (nRow (s.2.2.1.2.2.2.2.2.1 l1) (if s.2.1.2.2.2.2.2.2.2.1 < (s.2.2.1.2.2.2.2.2.1 l1).2.1.1 then s.2.1.2.2.2.2.2.2.2.1 else (s.2.2.1.2.2.2.2.2.1 l1).2.1.1))) l1 (nLc ((va_up s.2.2.1.2.2.2.2.2.1 l1 (nRow (s.2.2.1.2.2.2.2.2.1 l1) (if s.2.1.2.2.2.2.2.2.2.1 < (s.2.2.1.2.2.2.2.2.1 l1).2.1.1 then s.2.1.2.2.2.2.2.2.2.1 else (s.2.2.1.2.2.2.2.2.1 l1).2.1.1))) l1) (if ((va_up s.2.2.1.2.2.2.2.2.1 l1 (nRow (s.2.2.1.2.2.2.2.2.1 l1) (if s.2.1.2.2.2.2.2.2.2.1 < (s.2.2.1.2.2.2.2.2.1 l1).2.1.1 then s.2.1.2.2.2.2.2.2.2.1 else (s.2.2.1.2.2.2.2.2.1 l1).2.1.1))) l1).2.1.2.1 < s.2.1.2.2.2.2.2.2.2.2 then s.2.1.2.2.2.2.2.2.2.2 else ((va_up s.2.2.1.2.2.2.2.2.1 l1 (nRow (s.2.2.1.2.2.2.2.2.1 l1) (if s.2.1.2.2.2.2.2.2.2.1 < (s.2.2.1.2.2.2.2.2.1 l1).2.1.1 then s.2.1.2.2.2.2.2.2.2.1 else (s.2.2.1.2.2.2.2.2.1 l1).2.1.1))) l1).2.1.2.1))) l1) (((va_up (va_up s.2.2.1.2.2.2.2.2.1 l1 (nRow (s.2.2.1.2.2.2.2.2.1 l1) (if s.2.1.2.2.2.2.2.2.2.1 < (s.2.2.1.2.2.2.2.2.1 l1).2.1.1 then s.2.1.2.2.2.2.2.2.2.1 else (s.2.2.1.2.2.2.2.2.1 l1).2.1.1))) l1 (nLc ((va_up s.2.2.1.2.2.2.2.2.1 l1 (nRow (s.2.2.1.2.2.2.2.2.1 l1) (if s.2.1.2.2.2.2.2.2.2.1 < (s.2.2.1.2.2.2.2.2.1 l1).2.1.1 then s.2.1.2.2.2.2.2.2.2.1 else (s.2.2.1.2.2.2.2.2.1 l1).2.1.1))) l1) (if ((va_up s.2.2.1.2.2.2.2.2.1 l1 (nRow (s.2.2.1.2.2.2.2.2.1 l1) (if s.2.1.2.2.2.2.2.2.2.1 < (s.2.2.1.2.2.2.2.2.1 l1).2.1.1 then s.2.1.2.2.2.2.2.2.2.1 else (s.2.2.1.2.2.2.2.2.1 l1).2.1.1))) l1).2.1.2.1 < s.2.1.2.2.2.2.2.2.2.2 then s.2.1.2.2.2.2.2.2.2.2 else ((va_up s.2.2.1.2.2.2.2.2.1 l1 (nRow (s.2.2.1.2.2.2.2.2.1 l1) (if s.2.1.2.2.2.2.2.2.2.1 < (s.2.2.1.2.2.2.2.2.1 l1).2.1.1 then s.2.1.2.2.2.2.2.2.2.1 else (s.2.2.1.2.2.2.2.2.1 l1).2.1.1))) l1).2.1.2.1))) l1).2.1.2.2.2.1))) l1 (nCs ((va_up (va_up (va_up s.2.2.1.2.2.2.2.2.1 l1 (nRow (s.2.2.1.2.2.2.2.2.1 l1) (if s.2.1.2.2.2.2.2.2.2.1 < (s.2.2.1.2.2.2.2.2.1 l1).2.1.1 then s.2.1.2.2.2.2.2.2.2.1 else (s.2.2.1.2.2.2.2.2.1 l1).2.1.1))) l1 (nLc ((va_up s.2.2.1.2.2.2.2.2.1 l1 (nRow (s.2.2.1.2.2.2.2.2.1 l1) (if s.2.1.2.2.2.2.2.2.2.1 < (s.2.2.1.2.2.2.2.2.1 l1).2.1.1 then s.2.1.2.2.2.2.2.2.2.1 else (s.2.2.1.2.2.2.2.2.1 l1).2.1.1))) l1) (if ((va_up s.2.2.1.2.2.2.2.2.1 l1 (nRow (s.2.2.1.2.2.2.2.2.1 l1) (if s.2.1.2.2.2.2.2.2.2.1 < (s.2.2.1.2.2.2.2.2.1 l1).2.1.1 then s.2.1.2.2.2.2.2.2.2.1 else (s.2.2.1.2.2.2.2.2.1 l1).2.1.1))) l1).2.1.2.1 < s.2.1.2.2.2.2.2.2.2.2 then s.2.1.2.2.2.2.2.2.2.2 else ((va_up s.2.2.1.2.2.2.2.2.1 l1 (nRow (s.2.2.1.2.2.2.2.2.1 l1) (if s.2.1.2.2.2.2.2.2.2.1 < (s.2.2.1.2.2.2.2.2.1 l1).2.1.1 then s.2.1.2.2.2.2.2.2.2.1 else (s.2.2.1.2.2.2.2.2.1 l1).2.1.1))) l1).2.1.2.1))) l1 (nLcs ((va_up (va_up s.2.2.1.2.2.2.2.2.1 l1 (nRow (s.2.2.1.2.2.2.2.2.1 l1) (if s.2.1.2.2.2.2.2.2.2.1 < (s.2.2.1.2.2.2.2.2.1 l1).2.1.1 then s.2.1.2.2.2.2.2.2.2.1 else (s.2.2.1.2.2.2.2.2.1 l1).2.1.1))) l1 (nLc ((va_up s.2.2.1.2.2.2.2.2.1 l1 (nRow (s.2.2.1.2.2.2.2.2.1 l1) (if s.2.1.2.2.2.2.2.2.2.1 < (s.2.2.1.2.2.2.2.2.1 l1).2.1.1 then s.2.1.2.2.2.2.2.2.2.1 else (s.2.2.1.2.2.2.2.2.1 l1).2.1.1))) l1) (if ((va_up s.2.2.1.2.2.2.2.2.1 l1 (nRow (s.2.2.1.2.2.2.2.2.1 l1) (if s.2.1.2.2.2.2.2.2.2.1 < (s.2.2.1.2.2.2.2.2.1 l1).2.1.1 then s.2.1.2.2.2.2.2.2.2.1 else (s.2.2.1.2.2.2.2.2.1 l1).2.1.1))) l1).2.1.2.1 < s.2.1.2.2.2.2.2.2.2.2 then s.2.1.2.2.2.2.2.2.2.2 else ((va_up s.2.2.1.2.2.2.2.2.1 l1 (nRow (s.2.2.1.2.2.2.2.2.1 l1) (if s.2.1.2.2.2.2.2.2.2.1 < (s.2.2.1.2.2.2.2.2.1 l1).2.1.1 then s.2.1.2.2.2.2.2.2.2.1 else (s.2.2.1.2.2.2.2.2.1 l1).2.1.1))) l1).2.1.2.1))) l1) (((va_up (va_up s.2.2.1.2.2.2.2.2.1 l1 (nRow (s.2.2.1.2.2.2.2.2.1 l1) (if s.2.1.2.2.2.2.2.2.2.1 < (s.2.2.1.2.2.2.2.2.1 l1).2.1.1 then s.2.1.2.2.2.2.2.2.2.1 else (s.2.2.1.2.2.2.2.2.1 l1).2.1.1))) l1 (nLc ((va_up s.2.2.1.2.2.2.2.2.1 l1 (nRow (s.2.2.1.2.2.2.2.2.1 l1) (if s.2.1.2.2.2.2.2.2.2.1 < (s.2.2.1.2.2.2.2.2.1 l1).2.1.1 then s.2.1.2.2.2.2.2.2.2.1 else (s.2.2.1.2.2.2.2.2.1 l1).2.1.1))) l1) (if ((va_up s.2.2.1.2.2.2.2.2.1 l1 (nRow (s.2.2.1.2.2.2.2.2.1 l1) (if s.2.1.2.2.2.2.2.2.2.1 < (s.2.2.1.2.2.2.2.2.1 l1).2.1.1 then s.2.1.2.2.2.2.2.2.2.1 else (s.2.2.1.2.2.2.2.2.1 l1).2.1.1))) l1).2.1.2.1 < s.2.1.2.2.2.2.2.2.2.2 then s.2.1.2.2.2.2.2.2.2.2 else ((va_up s.2.2.1.2.2.2.2.2.1 l1 (nRow (s.2.2.1.2.2.2.2.2.1 l1) (if s.2.1.2.2.2.2.2.2.2.1 < (s.2.2.1.2.2.2.2.2.1 l1).2.1.1 then s.2.1.2.2.2.2.2.2.2.1 else (s.2.2.1.2.2.2.2.2.1 l1).2.1.1))) l1).2.1.2.1))) l1).2.1.2.2.2.1))) l1) s.2.1.2.2.2.2.2.2.1)) l1).2.1.2.1 then s.2.1.2.2.2.2.2.2.2.2 else ((va_up (va_up (va_up (va_up s.2.2.1.2.2.2.2.2.1 l1 (nRow (s.2.2.1.2.2.2.2.2.1 l1) (if s.2.1.2.2.2.2.2.2.2.1 < (s.2.2.1.2.2.2.2.2.1 l1).2.1.1 then s.2.1.2.2.2.2.2.2.2.1 else (s.2.2.1.2.2.2.2.2.1 l1).2.1.1))) l1 (nLc ((va_up s.2.2.1.2.2.2.2.2.1 l1 (nRow (s.2.2.1.2.2.2.2.2.1 l1) (if s.2.1.2.2.2.2.2.2.2.1 < (s.2.2.1.2.2.2.2.2.1 l1).2.1.1 then s.2.1.2.2.2.2.2.2.2.1 else (s.2.2.1.2.2.2.2.2.1 l1).2.1.1))) l1) (if ((va_up s.2.2.1.2.2.2.2.2.1 l1 (nRow (s.2.2.1.2.2.2.2.2.1 l1) (if s.2.1.2.2.2.2.2.2.2.1 < (s.2.2.1.2.2.2.2.2.1 l1).2.1.1 then s.2.1.2.2.2.2.2.2.2.1 else (s.2.2.1.2.2.2.2.2.1 l1).2.1.1))) l1).2.1.2.1 < s.2.1.2.2.2.2.2.2.2.2 then s.2.1.2.2.2.2.2.2.2.2 else ((va_up s.2.2.1.2.2.2.2.2.1 l1 (nRow (s.2.2.1.2.2.2.2.2.1 l1) (if s.2.1.2.2.2.2.2.2.2.1 < (s.2.2.1.2.2.2.2.2.1 l1).2.1.1 then s.2.1.2.2.2.2.2.2.2.1 else (s.2.2.1.2.2.2.2.2.1 l1).2.1.1))) l1).2.1.2.1))) l1 (nLcs ((va_up (va_up s.2.2.1.2.2.2.2.2.1 l1 (nRow (s.2.2.1.2.2.2.2.2.1 l1) (if s.2.1.2.2.2.2.2.2.2.1 < (s.2.2.1.2.2.2.2.2.1 l1).2.1.1 then s.2.1.2.2.2.2.2.2.2.1 else (s.2.2.1.2.2.2.2.2.1 l1).2.1.1))) l1 (nLc ((va_up s.2.2.1.2.2.2.2.2.1 l1 (nRow (s.2.2.1.2.2.2.2.2.1 l1) (if s.2.1.2.2.2.2.2.2.2.1 < (s.2.2.1.2.2.2.2.2.1 l1).2.1.1 then s.2.1.2.2.2.2.2.2.2.1 else (s.2.2.1.2.2.2.2.2.1 l1).2.1.1))) l1) (if ((va_up s.2.2.1.2.2.2.2.2.1 l1 (nRow (s.2.2.1.2.2.2.2.2.1 l1) (if s.2.1.2.2.2.2.2.2.2.1 < (s.2.2.1.2.2.2.2.2.1 l1).2.1.1 then s.2.1.2.2.2.2.2.2.2.1 else (s.2.2.1.2.2.2.2.2.1 l1).2.1.1))) l1).2.1.2.1 < s.2.1.2.2.2.2.2.2.2.2 then s.2.1.2.2.2.2.2.2.2.2 else ((va_up s.2.2.1.2.2.2.2.2.1 l1 (nRow (s.2.2.1.2.2.2.2.2.1 l1) (if s.2.1.2.2.2.2.2.2.2.1 < (s.2.2.1.2.2.2.2.2.1 l1).2.1.1 then s.2.1.2.2.2.2.2.2.2.1 else (s.2.2.1.2.2.2.2.2.1 l1).2.1.1))) l1).2.1.2.1))) l1) (((va_up (va_up s.2.2.1.2.2.2.2.2.1 l1 (nRow (s.2.2.1.2.2.2.2.2.1 l1) (if s.2.1.2.2.2.2.2.2.2.1 < (s.2.2.1.2.2.2.2.2.1 l1).2.1.1 then s.2.1.2.2.2.2.2.2.2.1 else (s.2.2.1.2.2.2.2.2.1 l1).2.1.1))) l1 (nLc ((va_up s.2.2.1.2.2.2.2.2.1 l1 (nRow (s.2.2.1.2.2.2.2.2.1 l1) (if s.2.1.2.2.2.2.2.2.2.1 < (s.2.2.1.2.2.2.2.2.1 l1).2.1.1 then s.2.1.2.2.2.2.2.2.2.1 else (s.2.2.1.2.2.2.2.2.1 l1).2.1.1))) l1) (if ((va_up s.2.2.1.2.2.2.2.2.1 l1 (nRow (s.2.2.1.2.2.2.2.2.1 l1) (if s.2.1.2.2.2.2.2.2.2.1 < (s.2.2.1.2.2.2.2.2.1 l1).2.1.1 then s.2.1.2.2.2.2.2.2.2.1 else (s.2.2.1.2.2.2.2.2.1 l1).2.1.1))) l1).2.1.2.1 < s.2.1.2.2.2.2.2.2.2.2 then s.2.1.2.2.2.2.2.2.2.2 else ((va_up s.2.2.1.2.2.2.2.2.1 l1 (nRow (s.2.2.1.2.2.2.2.2.1 l1) (if s.2.1.2.2.2.2.2.2.2.1 < (s.2.2.1.2.2.2.2.2.1 l1).2.1.1 then s.2.1.2.2.2.2.2.2.2.1 else (s.2.2.1.2.2.2.2.2.1 l1).2.1.1))) l1).2.1.2.1))) l1).2.1.2.2.2.1))) l1 (nCs ((va_up (va_up (va_up s.2.2.1.2.2.2.2.2.1 l1 (nRow (s.2.2.1.2.2.2.2.2.1 l1) (if s.2.1.2.2.2.2.2.2.2.1 < (s.2.2.1.2.2.2.2.2.1 l1).2.1.1 then s.2.1.2.2.2.2.2.2.2.1 else (s.2.2.1.2.2.2.2.2.1 l1).2.1.1))) l1 (nLc ((va_up s.2.2.1.2.2.2.2.2.1 l1 (nRow (s.2.2.1.2.2.2.2.2.1 l1) (if s.2.1.2.2.2.2.2.2.2.1 < (s.2.2.1.2.2.2.2.2.1 l1).2.1.1 then s.2.1.2.2.2.2.2.2.2.1 else (s.2.2.1.2.2.2.2.2.1 l1).2.1.1))) l1) (if ((va_up s.2.2.1.2.2.2.2.2.1 l1 (nRow (s.2.2.1.2.2.2.2.2.1 l1) (if s.2.1.2.2.2.2.2.2.2.1 < (s.2.2.1.2.2.2.2.2.1 l1).2.1.1 then s.2.1.2.2.2.2.2.2.2.1 else (s.2.2.1.2.2.2.2.2.1 l1).2.1.1))) l1).2.1.2.1 < s.2.1.2.2.2.2.2.2.2.2 then s.2.1.2.2.2.2.2.2.2.2 else ((va_up s.2.2.1.2.2.2.2.2.1 l1 (nRow (s.2.2.1.2.2.2.2.2.1 l1) (if s.2.1.2.2.2.2.2.2.2.1 < (s.2.2.1.2.2.2.2.2.1 l1).2.1.1 then s.2.1.2.2.2.2.2.2.2.1 else (s.2.2.1.2.2.2.2.2.1 l1).2.1.1))) l1).2.1.2.1))) l1 (nLcs ((va_up (va_up s.2.2.1.2.2.2.2.2.1 l1 (nRow (s.2.2.1.2.2.2.2.2.1 l1) (if s.2.1.2.2.2.2.2.2.2.1 < (s.2.2.1.2.2.2.2.2.1 l1).2.1.1 then s.2.1.2.2.2.2.2.2.2.1 else (s.2.2.1.2.2.2.2.2.1 l1).2.1.1))) l1 (nLc ((va_up s.2.2.1.2.2.2.2.2.1 l1 (nRow (s.2.2.1.2.2.2.2.2.1 l1) (if s.2.1.2.2.2.2.2.2.2.1 < (s.2.2.1.2.2.2.2.2.1 l1).2.1.1 then s.2.1.2.2.2.2.2.2.2.1 else (s.2.2.1.2.2.2.2.2.1 l1).2.1.1))) l1) (if ((va_up s.2.2.1.2.2.2.2.2.1 l1 (nRow (s.2.2.1.2.2.2.2.2.1 l1) (if s.2.1.2.2.2.2.2.2.2.1 < (s.2.2.1.2.2.2.2.2.1 l1).2.1.1 then s.2.1.2.2.2.2.2.2.2.1 else (s.2.2.1.2.2.2.2.2.1 l1).2.1.1))) l1).2.1.2.1 < s.2.1.2.2.2.2.2.2.2.2 then s.2.1.2.2.2.2.2.2.2.2 else ((va_up s.2.2.1.2.2.2.2.2.1 l1 (nRow (s.2.2.1.2.2.2.2.2.1 l1) (if s.2.1.2.2.2.2.2.2.2.1 < (s.2.2.1.2.2.2.2.2.1 l1).2.1.1 then s.2.1.2.2.2.2.2.2.2.1 else (s.2.2.1.2.2.2.2.2.1 l1).2.1.1))) l1).2.1.2.1))) l1) (((va_up (va_up s.2.2.1.2.2.2.2.2.1 l1 (nRow (s.2.2.1.2.2.2.2.2.1 l1) (if s.2.1.2.2.2.2.2.2.2.1 < (s.2.2.1.2.2.2.2.2.1 l1).2.1.1 then s.2.1.2.2.2.2.2.2.2.1 else (s.2.2.1.2.2.2.2.2.1 l1).2.1.1))) l1 (nLc ((va_up s.2.2.1.2.2.2.2.2.1 l1 (nRow (s.2.2.1.2.2.2.2.2.1 l1) (if s.2.1.2.2.2.2.2.2.2.1 < (s.2.2.1.2.2.2.2.2.1 l1).2.1.1 then s.2.1.2.2.2.2.2.2.2.1 else (s.2.2.1.2.2.2.2.2.1 l1).2.1.1))) l1) (if ((va_up s.2.2.1.2.2.2.2.2.1 l1 (nRow (s.2.2.1.2.2.2.2.2.1 l1) (if s.2.1.2.2.2.2.2.2.2.1 < (s.2.2.1.2.2.2.2.2.1 l1).2.1.1 then s.2.1.2.2.2.2.2.2.2.1 else (s.2.2.1.2.2.2.2.2.1 l1).2.1.1))) l1).2.1.2.1 < s.2.1.2.2.2.2.2.2.2.2 then s.2.1.2.2.2.2.2.2.2.2 else ((va_up s.2.2.1.2.2.2.2.2.1 l1 (nRow (s.2.2.1.2.2.2.2.2.1 l1) (if s.2.1.2.2.2.2.2.2.2.1 < (s.2.2.1.2.2.2.2.2.1 l1).2.1.1 then s.2.1.2.2.2.2.2.2.2.1 else (s.2.2.1.2.2.2.2.2.1 l1).2.1.1))) l1).2.1.2.1))) l1).2.1.2.2.2.1))) l1) s.2.1.2.2.2.2.2.2.1)) l1).2.1.2.1))) g254)) ?_
      refine xy_r (xw_aload_n dM_cells_216 rfl) ?_
      refine xy_r (xw_aload_n dM_cells_217 rfl) ?_
      refine xy_r (xw_get dM_cells_218 fM_314 rfl rfl) ?_
      refine xy_r (xg_put dM_cells_221 fM_221 rfl (by decide) (Nat.le_of_ble_eq_true rfl) (fun _ => rfl) (fun _ => rfl) (mV_o (s' := (s.1, (s.2.1.1, s.2.1.2.2.2.2.1, s.2.1.2.2), (s.2.2.1.1, s.2.2.1.2.1, s.2.2.1.2.2.1, s.2.2.1.2.2.2.1, s.2.2.1.2.2.2.2.1, (va_up (va_up (va_up (va_up (va_up s.2.2.1.2.2.2.2.2.1 l1 (nRow (s.2.2.1.2.2.2.2.2.1 l1) (if s.2.1.2.2.2.2.2.2.2.1 < (s.2.2.1.2.2.2.2.2.1 l1).2.1.1 then s.2.1.2.2.2.2.2.2.2.1 else (s.2.2.1.2.2.2.2.2.1 l1).2.1.1))) l1 (nLc ((va_up s.2.2.1.2.2.2.2.2.1 l1 (nRow (s.2.2.1.2.2.2.2.2.1 l1) (if s.2.1.2.2.2.2.2.2.2.1 < (s.2.2.1.2.2.2.2.2.1 l1).2.1.1 then s.2.1.2.2.2.2.2.2.2.1 else (s.2.2.1.2.2.2.2.2.1 l1).2.1.1))) l1) (if ((va_up s.2.2.1.2.2.2.2.2.1 l1 (nRow (s.2.2.1.2.2.2.2.2.1 l1) (if s.2.1.2.2.2.2.2.2.2.1 < (s.2.2.1.2.2.2.2.2.1 l1).2.1.1 then s.2.1.2.2.2.2.2.2.2.1 else (s.2.2.1.2.2.2.2.2.1 l1).2.1.1))) l1).2.1.2.1 < s.2.1.2.2.2.2.2.2.2.2 then s.2.1.2.2.2.2.2.2.2.2 else ((va_up s.2.2.1.2.2.2.2.2.1 l1 (nRow (s.2.2.1.2.2.2.2.2.1 l1) (if s.2.1.2.2.2.2.2.2.2.1 < (s.2.2.1.2.2.2.2.2.1 l1).2.1.1 then s.2.1.2.2.2.2.2.2.2.1 else (s.2.2.1.2.2.2.2.2.1 l1).2.1.1))) l1).2.1.2.1))) l1 (nLcs ((va_up (va_up s.2.2.1.2.2.2.2.2.1 l1 (nRow (s.2.2.1.2.2.2.2.2.1 l1) (if s.2.1.2.2.2.2.2.2.2.1 < (s.2.2.1.2.2.2.2.2.1 l1).2.1.1 then s.2.1.2.2.2.2.2.2.2.1 else (s.2.2.1.2.2.2.2.2.1 l1).2.1.1))) l1 (nLc ((va_up s.2.2.1.2.2.2.2.2.1 l1 (nRow (s.2.2.1.2.2.2.2.2.1 l1) (if s.2.1.2.2.2.2.2.2.2.1 < (s.2.2.1.2.2.2.2.2.1 l1).2.1.1 then s.2.1.2.2.2.2.2.2.2.1 else (s.2.2.1.2.2.2.2.2.1 l1).2.1.1))) l1) (if ((va_up s.2.2.1.2.2.2.2.2.1 l1 (nRow (s.2.2.1.2.2.2.2.2.1 l1) (if s.2.1.2.2.2.2.2.2.2.1 < (s.2.2.1.2.2.2.2.2.1 l1).2.1.1 then s.2.1.2.2.2.2.2.2.2.1 else (s.2.2.1.2.2.2.2.2.1 l1).2.1.1))) l1).2.1.2.1 < s.2.1.2.2.2.2.2.2.2.2 then s.2.1.2.2.2.2.2.2.2.2 else ((va_up s.2.2.1.2.2.2.2.2.1 l1 (nRow (s.2.2.1.2.2.2.2.2.1 l1) (if s.2.1.2.2.2.2.2.2.2.1 < (s.2.2.1.2.2.2.2.2.1 l1).2.1.1 then s.2.1.2.2.2.2.2.2.2.1 else (s.2.2.1.2.2.2.2.2.1 l1).2.1.1))) l1).2.1.2.1))) l1) (((va_up (va_up s.2.2.1.2.2.2.2.2.1 l1 (nRow (s.2.2.1.2.2.2.2.2.1 l1) (if s.2.1.2.2.2.2.2.2.2.1 < (s.2.2.1.2.2.2.2.2.1 l1).2.1.1 then s.2.1.2.2.2.2.2.2.2.1 else (s.2.2.1.2.2.2.2.2.1 l1).2.1.1))) l1 (nLc ((va_up s.2.2.1.2.2.2.2.2.1 l1 (nRow (s.2.2.1.2.2.2.2.2.1 l1) (if s.2.1.2.2.2.2.2.2.2.1 < (s.2.2.1.2.2.2.2.2.1 l1).2.1.1 then s.2.1.2.2.2.2.2.2.2.1 else (s.2.2.1.2.2.2.2.2.1 l1).2.1.1))) l1) (if ((va_up s.2.2.1.2.2.2.2.2.1 l1 (nRow (s.2.2.1.2.2.2.2.2.1 l1) (if s.2.1.2.2.2.2.2.2.2.1 < (s.2.2.1.2.2.2.2.2.1 l1).2.1.1 then s.2.1.2.2.2.2.2.2.2.1 else (s.2.2.1.2.2.2.2.2.1 l1).2.1.1))) l1).2.1.2.1 < s.2.1.2.2.2.2.2.2.2.2 then s.2.1.2.2.2.2.2.2.2.2 else ((va_up s.2.2.1.2.2.2.2.2.1 l1 (nRow (s.2.2.1.2.2.2.2.2.1 l1) (if s.2.1.2.2.2.2.2.2.2.1 < (s.2.2.1.2.2.2.2.2.1 l1).2.1.1 then s.2.1.2.2.2.2.2.2.2.1 else (s.2.2.1.2.2.2.2.2.1 l1).2.1.1))) l1).2.1.2.1))) l1).2.1.2.2.2.1))) l1 (nCs ((va_up (va_up (va_up s.2.2.1.2.2.2.2.2.1 l1 (nRow (s.2.2.1.2.2.2.2.2.1 l1) (if s.2.1.2.2.2.2.2.2.2.1 < (s.2.2.1.2.2.2.2.2.1 l1).2.1.1 then s.2.1.2.2.2.2.2.2.2.1 else (s.2.2.1.2.2.2.2.2.1 l1).2.1.1))) l1 (nLc ((va_up s.2.2.1.2.2.2.2.2.1 l1 (nRow (s.2.2.1.2.2.2.2.2.1 l1) (if s.2.1.2.2.2.2.2.2.2.1 < (s.2.2.1.2.2.2.2.2.1 l1).2.1.1 then s.2.1.2.2.2.2.2.2.2.1 else (s.2.2.1.2.2.2.2.2.1 l1).2.1.1))) l1) (if ((va_up s.2.2.1.2.2.2.2.2.1 l1 (nRow (s.2.2.1.2.2.2.2.2.1 l1) (if s.2.1.2.2.2.2.2.2.2.1 < (s.2.2.1.2.2.2.2.2.1 l1).2.1.1 then s.2.1.2.2.2.2.2.2.2.1 else (s.2.2.1.2.2.2.2.2.1 l1).2.1.1))) l1).2.1.2.1 < s.2.1.2.2.2.2.2.2.2.2 then s.2.1.2.2.2.2.2.2.2.2 else ((va_up s.2.2.1.2.2.2.2.2.1 l1 (nRow (s.2.2.1.2.2.2.2.2.1 l1) (if s.2.1.2.2.2.2.2.2.2.1 < (s.2.2.1.2.2.2.2.2.1 l1).2.1.1 then s.2.1.2.2.2.2.2.2.2.1 else (s.2.2.1.2.2.2.2.2.1 l1).2.1.1))) l1).2.1.2.1))) l1 (nLcs ((va_up (va_up s.2.2.1.2.2.2.2.2.1 l1 (nRow (s.2.2.1.2.2.2.2.2.1 l1) (if s.2.1.2.2.2.2.2.2.2.1 < (s.2.2.1.2.2.2.2.2.1 l1).2.1.1 then s.2.1.2.2.2.2.2.2.2.1 else (s.2.2.1.2.2.2.2.2.1 l1).2.1.1))) l1 (nLc ((va_up s.2.2.1.2.2.2.2.2.1 l1 (nRow (s.2.2.1.2.2.2.2.2.1 l1) (if s.2.1.2.2.2.2.2.2.2.1 < (s.2.2.1.2.2.2.2.2.1 l1).2.1.1 then s.2.1.2.2.2.2.2.2.2.1 else (s.2.2.1.2.2.2.2.2.1 l1).2.1.1))) l1) (if ((va_up s.2.2.1.2.2.2.2.2.1 l1 (nRow (s.2.2.1.2.2.2.2.2.1 l1) (if s.2.1.2.2.2.2.2.2.2.1 < (s.2.2.1.2.2.2.2.2.1 l1).2.1.1 then s.2.1.2.2.2.2.2.2.2.1 else (s.2.2.1.2.2.2.2.2.1 l1).2.1.1))) l1).2.1.2.1 < s.2.1.2.2.2.2.2.2.2.2 then s.2.1.2.2.2.2.2.2.2.2 else ((va_up s.2.2.1.2.2.2.2.2.1 l1 (nRow (s.2.2.1.2.2.2.2.2.1 l1) (if s.2.1.2.2.2.2.2.2.2.1 < (s.2.2.1.2.2.2.2.2.1 l1).2.1.1 then s.2.1.2.2.2.2.2.2.2.1 else (s.2.2.1.2.2.2.2.2.1 l1).2.1.1))) l1).2.1.2.1))) l1) (((va_up (va_up s.2.2.1.2.2.2.2.2.1 l1 (nRow (s.2.2.1.2.2.2.2.2.1 l1) (if s.2.1.2.2.2.2.2.2.2.1 < (s.2.2.1.2.2.2.2.2.1 l1).2.1.1 then s.2.1.2.2.2.2.2.2.2.1 else (s.2.2.1.2.2.2.2.2.1 l1).2.1.1))) l1 (nLc ((va_up s.2.2.1.2.2.2.2.2.1 l1 (nRow (s.2.2.1.2.2.2.2.2.1 l1) (if s.2.1.2.2.2.2.2.2.2.1 < (s.2.2.1.2.2.2.2.2.1 l1).2.1.1 then s.2.1.2.2.2.2.2.2.2.1 else (s.2.2.1.2.2.2.2.2.1 l1).2.1.1))) l1) (if ((va_up s.2.2.1.2.2.2.2.2.1 l1 (nRow (s.2.2.1.2.2.2.2.2.1 l1) (if s.2.1.2.2.2.2.2.2.2.1 < (s.2.2.1.2.2.2.2.2.1 l1).2.1.1 then s.2.1.2.2.2.2.2.2.2.1 else (s.2.2.1.2.2.2.2.2.1 l1).2.1.1))) l1).2.1.2.1 < s.2.1.2.2.2.2.2.2.2.2 then s.2.1.2.2.2.2.2.2.2.2 else ((va_up s.2.2.1.2.2.2.2.2.1 l1 (nRow (s.2.2.1.2.2.2.2.2.1 l1) (if s.2.1.2.2.2.2.2.2.2.1 < (s.2.2.1.2.2.2.2.2.1 l1).2.1.1 then s.2.1.2.2.2.2.2.2.2.1 else (s.2.2.1.2.2.2.2.2.1 l1).2.1.1))) l1).2.1.2.1))) l1).2.1.2.2.2.1))) l1) s.2.1.2.2.2.2.2.2.1)) l1 (nCol ((va_up (va_up (va_up (va_up s.2.2.1.2.2.2.2.2.1 l1 (nRow (s.2.2.1.2.2.2.2.2.1 l1) (if s.2.1.2.2.2.2.2.2.2.1 < (s.2.2.1.2.2.2.2.2.1 l1).2.1.1 then s.2.1.2.2.2.2.2.2.2.1 else (s.2.2.1.2.2.2.2.2.1 l1).2.1.1))) l1 (nLc ((va_up s.2.2.1.2.2.2.2.2.1 l1 (nRow (s.2.2.1.2.2.2.2.2.1 l1) (if s.2.1.2.2.2.2.2.2.2.1 < (s.2.2.1.2.2.2.2.2.1 l1).2.1.1 then s.2.1.2.2.2.2.2.2.2.1 else (s.2.2.1.2.2.2.2.2.1 l1).2.1.1))) l1) (if ((va_up s.2.2.1.2.2.2.2.2.1 l1 (nRow (s.2.2.1.2.2.2.2.2.1 l1) (if s.2.1.2.2.2.2.2.2.2.1 < (s.2.2.1.2.2.2.2.2.1 l1).2.1.1 then s.2.1.2.2.2.2.2.2.2.1 else (s.2.2.1.2.2.2.2.2.1 l1).2.1.1))) l1).2.1.2.1 < s.2.1.2.2.2.2.2.2.2.2 then s.2.1.2.2.2.2.2.2.2.2 else ((va_up s.2.2.1.2.2.2.2.2.1 l1 (nRow (s.2.2.1.2.2.2.2.2.1 l1) (if s.2.1.2.2.2.2.2.2.2.1 < (s.2.2.1.2.2.2.2.2.1 l1).2.1.1 then s.2.1.2.2.2.2.2.2.2.1 else (s.2.2.1.2.2.2.2.2.1 l1).2.1.1))) l1).2.1.2.1))) l1 (nLcs ((va_up (va_up s.2.2.1.2.2.2.2.2.1 l1 (nRow (s.2.2.1.2.2.2.2.2.1 l1) (if s.2.1.2.2.2.2.2.2.2.1 < (s.2.2.1.2.2.2.2.2.1 l1).2.1.1 then s.2.1.2.2.2.2.2.2.2.1 else (s.2.2.1.2.2.2.2.2.1 l1).2.1.1))) l1 (nLc ((va_up s.2.2.1.2.2.2.2.2.1 l1 (nRow (s.2.2.1.2.2.2.2.2.1 l1) (if s.2.1.2.2.2.2.2.2.2.1 < (s.2.2.1.2.2.2.2.2.1 l1).2.1.1 then s.2.1.2.2.2.2.2.2.2.1 else (s.2.2.1.2.2.2.2.2.1 l1).2.1.1))) l1) (if ((va_up s.2.2.1.2.2.2.2.2.1 l1 (nRow (s.2.2.1.2.2.2.2.2.1 l1) (if s.2.1.2.2.2.2.2.2.2.1 < (s.2.2.1.2.2.2.2.2.1 l1).2.1.1 then s.2.1.2.2.2.2.2.2.2.1 else (s.2.2.1.2.2.2.2.2.1 l1).2.1.1))) l1).2.1.2.1 < s.2.1.2.2.2.2.2.2.2.2 then s.2.1.2.2.2.2.2.2.2.2 else ((va_up s.2.2.1.2.2.2.2.2.1 l1 (nRow (s.2.2.1.2.2.2.2.2.1 l1) (if s.2.1.2.2.2.2.2.2.2.1 < (s.2.2.1.2.2.2.2.2.1 l1).2.1.1 then s.2.1.2.2.2.2.2.2.2.1 else (s.2.2.1.2.2.2.2.2.1 l1).2.1.1))) l1).2.1.2.1))) l1) (((va_up (va_up s.2.2.1.2.2.2.2.2.1 l1 (nRow (s.2.2.1.2.2.2.2.2.1 l1) (if s.2.1.2.2.2.2.2.2.2.1 < (s.2.2.1.2.2.2.2.2.1 l1).2.1.1 then s.2.1.2.2.2.2.2.2.2.1 else (s.2.2.1.2.2.2.2.2.1 l1).2.1.1))) l1 (nLc ((va_up s.2.2.1.2.2.2.2.2.1 l1 (nRow (s.2.2.1.2.2.2.2.2.1 l1) (if s.2.1.2.2.2.2.2.2.2.1 < (s.2.2.1.2.2.2.2.2.1 l1).2.1.1 then s.2.1.2.2.2.2.2.2.2.1 else (s.2.2.1.2.2.2.2.2.1 l1).2.1.1))) l1) (if ((va_up s.2.2.1.2.2.2.2.2.1 l1 (nRow (s.2.2.1.2.2.2.2.2.1 l1) (if s.2.1.2.2.2.2.2.2.2.1 < (s.2.2.1.2.2.2.2.2.1 l1).2.1.1 then s.2.1.2.2.2.2.2.2.2.1 else (s.2.2.1.2.2.2.2.2.1 l1).2.1.1))) l1).2.1.2.1 < s.2.1.2.2.2.2.2.2.2.2 then s.2.1.2.2.2.2.2.2.2.2 else ((va_up s.2.2.1.2.2.2.2.2.1 l1 (nRow (s.2.2.1.2.2.2.2.2.1 l1) (if s.2.1.2.2.2.2.2.2.2.1 < (s.2.2.1.2.2.2.2.2.1 l1).2.1.1 then s.2.1.2.2.2.2.2.2.2.1 else (s.2.2.1.2.2.2.2.2.1 l1).2.1.1))) l1).2.1.2.1))) l1).2.1.2.2.2.1))) l1 (nCs ((va_up (va_up (va_up s.2.2.1.2.2.2.2.2.1 l1 (nRow (s.2.2.1.2.2.2.2.2.1 l1) (if s.2.1.2.2.2.2.2.2.2.1 < (s.2.2.1.2.2.2.2.2.1 l1).2.1.1 then s.2.1.2.2.2.2.2.2.2.1 else (s.2.2.1.2.2.2.2.2.1 l1).2.1.1))) l1 (nLc ((va_up s.2.2.1.2.2.2.2.2.1 l1 (nRow (s.2.2.1.2.2.2.2.2.1 l1) (if s.2.1.2.2.2.2.2.2.2.1 < (s.2.2.1.2.2.2.2.2.1 l1).2.1.1 then s.2.1.2.2.2.2.2.2.2.1 else (s.2.2.1.2.2.2.2.2.1 l1).2.1.1))) l1) (if ((va_up s.2.2.1.2.2.2.2.2.1 l1 (nRow (s.2.2.1.2.2.2.2.2.1 l1) (if s.2.1.2.2.2.2.2.2.2.1 < (s.2.2.1.2.2.2.2.2.1 l1).2.1.1 then s.2.1.2.2.2.2.2.2.2.1 else (s.2.2.1.2.2.2.2.2.1 l1).2.1.1))) l1).2.1.2.1 < s.2.1.2.2.2.2.2.2.2.2 then s.2.1.2.2.2.2.2.2.2.2 else ((va_up s.2.2.1.2.2.2.2.2.1 l1 (nRow (s.2.2.1.2.2.2.2.2.1 l1) (if s.2.1.2.2.2.2.2.2.2.1 < (s.2.2.1.2.2.2.2.2.1 l1).2.1.1 then s.2.1.2.2.2.2.2.2.2.1 else (s.2.2.1.2.2.2.2.2.1 l1).2.1.1))) l1).2.1.2.1))) l1 (nLcs ((va_up (va_up s.2.2.1.2.2.2.2.2.1 l1 (nRow (s.2.2.1.2.2.2.2.2.1 l1) (if s.2.1.2.2.2.2.2.2.2.1 < (s.2.2.1.2.2.2.2.2.1 l1).2.1.1 then s.2.1.2.2.2.2.2.2.2.1 else (s.2.2.1.2.2.2.2.2.1 l1).2.1.1))) l1 (nLc ((va_up s.2.2.1.2.2.2.2.2.1 l1 (nRow (s.2.2.1.2.2.2.2.2.1 l1) (if s.2.1.2.2.2.2.2.2.2.1 < (s.2.2.1.2.2.2.2.2.1 l1).2.1.1 then s.2.1.2.2.2.2.2.2.2.1 else (s.2.2.1.2.2.2.2.2.1 l1).2.1.1))) l1) (if ((va_up s.2.2.1.2.2.2.2.2.1 l1 (nRow (s.2.2.1.2.2.2.2.2.1 l1) (if s.2.1.2.2.2.2.2.2.2.1 < (s.2.2.1.2.2.2.2.2.1 l1).2.1.1 then s.2.1.2.2.2.2.2.2.2.1 else (s.2.2.1.2.2.2.2.2.1 l1).2.1.1))) l1).2.1.2.1 < s.2.1.2.2.2.2.2.2.2.2 then s.2.1.2.2.2.2.2.2.2.2 else ((va_up s.2.2.1.2.2.2.2.2.1 l1 (nRow (s.2.2.1.2.2.2.2.2.1 l1) (if s.2.1.2.2.2.2.2.2.2.1 < (s.2.2.1.2.2.2.2.2.1 l1).2.1.1 then s.2.1.2.2.2.2.2.2.2.1 else (s.2.2.1.2.2.2.2.2.1 l1).2.1.1))) l1).2.1.2.1))) l1) (((va_up (va_up s.2.2.1.2.2.2.2.2.1 l1 (nRow (s.2.2.1.2.2.2.2.2.1 l1) (if s.2.1.2.2.2.2.2.2.2.1 < (s.2.2.1.2.2.2.2.2.1 l1).2.1.1 then s.2.1.2.2.2.2.2.2.2.1 else (s.2.2.1.2.2.2.2.2.1 l1).2.1.1))) l1 (nLc ((va_up s.2.2.1.2.2.2.2.2.1 l1 (nRow (s.2.2.1.2.2.2.2.2.1 l1) (if s.2.1.2.2.2.2.2.2.2.1 < (s.2.2.1.2.2.2.2.2.1 l1).2.1.1 then s.2.1.2.2.2.2.2.2.2.1 else (s.2.2.1.2.2.2.2.2.1 l1).2.1.1))) l1) (if ((va_up s.2.2.1.2.2.2.2.2.1 l1 (nRow (s.2.2.1.2.2.2.2.2.1 l1) (if s.2.1.2.2.2.2.2.2.2.1 < (s.2.2.1.2.2.2.2.2.1 l1).2.1.1 then s.2.1.2.2.2.2.2.2.2.1 else (s.2.2.1.2.2.2.2.2.1 l1).2.1.1))) l1).2.1.2.1 < s.2.1.2.2.2.2.2.2.2.2 then s.2.1.2.2.2.2.2.2.2.2 else ((va_up s.2.2.1.2.2.2.2.2.1 l1 (nRow (s.2.2.1.2.2.2.2.2.1 l1) (if s.2.1.2.2.2.2.2.2.2.1 < (s.2.2.1.2.2.2.2.2.1 l1).2.1.1 then s.2.1.2.2.2.2.2.2.2.1 else (s.2.2.1.2.2.2.2.2.1 l1).2.1.1))) l1).2.1.2.1))) l1).2.1.2.2.2.1))) l1) s.2.1.2.2.2.2.2.2.1)) l1) (if s.2.1.2.2.2.2.2.2.2.2 < ((va_up (va_up (va_up (va_up s.2.2.1.2.2.2.2.2.1 l1 (nRow (s.2.2.1.2.2.2.2.2.1 l1) (if s.2.1.2.2.2.2.2.2.2.1 < (s.2.2.1.2.2.2.2.2.1 l1).2.1.1 then s.2.1.2.2.2.2.2.2.2.1 else (s.2.2.1.2.2.2.2.2.1 l1).2.1.1))) l1 (nLc ((va_up s.2.2.1.2.2.2.2.2.1 l1 (nRow (s.2.2.1.2.2.2.2.2.1 l1) (if s.2.1.2.2.2.2.2.2.2.1 < (s.2.2.1.2.2.2.2.2.1 l1).2.1.1 then s.2.1.2.2.2.2.2.2.2.1 else (s.2.2.1.2.2.2.2.2.1 l1).2.1.1))) l1) (if ((va_up s.2.2.1.2.2.2.2.2.1 l1 (nRow (s.2.2.1.2.2.2.2.2.1 l1) (if s.2.1.2.2.2.2.2.2.2.1 < (s.2.2.1.2.2.2.2.2.1 l1).2.1.1 then s.2.1.2.2.2.2.2.2.2.1 else (s.2.2.1.2.2.2.2.2.1 l1).2.1.1))) l1).2.1.2.1 < s.2.1.2.2.2.2.2.2.2.2 then s.2.1.2.2.2.2.2.2.2.2 else ((va_up s.2.2.1.2.2.2.2.2.1 l1 (nRow (s.2.2.1.2.2.2.2.2.1 l1) (if s.2.1.2.2.2.2.2.2.2.1 < (s.2.2.1.2.2.2.2.2.1 l1).2.1.1 then s.2.1.2.2.2.2.2.2.2.1 else (s.2.2.1.2.2.2.2.2.1 l1).2.1.1))) l1).2.1.2.1))) l1 (nLcs ((va_up (va_up s.2.2.1.2.2.2.2.2.1 l1 (nRow (s.2.2.1.2.2.2.2.2.1 l1) (if s.2.1.2.2.2.2.2.2.2.1 < (s.2.2.1.2.2.2.2.2.1 l1).2.1.1 then s.2.1.2.2.2.2.2.2.2.1 else (s.2.2.1.2.2.2.2.2.1 l1).2.1.1))) l1 (nLc ((va_up s.2.2.1.2.2.2.2.2.1 l1 (nRow (s.2.2.1.2.2.2.2.2.1 l1) (if s.2.1.2.2.2.2.2.2.2.1 < (s.2.2.1.2.2.2.2.2.1 l1).2.1.1 then s.2.1.2.2.2.2.2.2.2.1 else (s.2.2.1.2.2.2.2.2.1 l1).2.1.1))) l1) (if ((va_up s.2.2.1.2.2.2.2.2.1 l1 (nRow (s.2.2.1.2.2.2.2.2.1 l1) (if s.2.1.2.2.2.2.2.2.2.1 < (s.2.2.1.2.2.2.2.2.1 l1).2.1.1 then s.2.1.2.2.2.2.2.2.2.1 else (s.2.2.1.2.2.2.2.2.1 l1).2.1.1))) l1).2.1.2.1 < s.2.1.2.2.2.2.2.2.2.2 then s.2.1.2.2.2.2.2.2.2.2 else ((va_up s.2.2.1.2.2.2.2.2.1 l1 (nRow (s.2.2.1.2.2.2.2.2.1 l1) (if s.2.1.2.2.2.2.2.2.2.1 < (s.2.2.1.2.2.2.2.2.1 l1).2.1.1 then s.2.1.2.2.2.2.2.2.2.1 else (s.2.2.1.2.2.2.2.2.1 l1).2.1.1))) l1).2.1.2.1))) l1) (((va_up (va_up s.2.2.1.2.2.2.2.2.1 l1 (nRow (s.2.2.1.2.2.2.2.2.1 l1) (if s.2.1.2.2.2.2.2.2.2.1 < (s.2.2.1.2.2.2.2.2.1 l1).2.1.1 then s.2.1.2.2.2.2.2.2.2.1 else (s.2.2.1.2.2.2.2.2.1 l1).2.1.1))) l1 (nLc ((va_up s.2.2.1.2.2.2.2.2.1 l1 (nRow (s.2.2.1.2.2.2.2.2.1 l1) (if s.2.1.2.2.2.2.2.2.2.1 < (s.2.2.1.2.2.2.2.2.1 l1).2.1.1 then s.2.1.2.2.2.2.2.2.2.1 else (s.2.2.1.2.2.2.2.2.1 l1).2.1.1))) l1) (if ((va_up s.2.2.1.2.2.2.2.2.1 l1 (nRow (s.2.2.1.2.2.2.2.2.1 l1) (if s.2.1.2.2.2.2.2.2.2.1 < (s.2.2.1.2.2.2.2.2.1 l1).2.1.1 then s.2.1.2.2.2.2.2.2.2.1 else (s.2.2.1.2.2.2.2.2.1 l1).2.1.1))) l1).2.1.2.1 < s.2.1.2.2.2.2.2.2.2.2 then s.2.1.2.2.2.2.2.2.2.2 else ((va_up s.2.2.1.2.2.2.2.2.1 l1 (nRow (s.2.2.1.2.2.2.2.2.1 l1) (if s.2.1.2.2.2.2.2.2.2.1 < (s.2.2.1.2.2.2.2.2.1 l1).2.1.1 then s.2.1.2.2.2.2.2.2.2.1 else (s.2.2.1.2.2.2.2.2.1 l1).2.1.1))) l1).2.1.2.1))) l1).2.1.2.2.2.1))) l1 (nCs ((va_up (va_up (va_up s.2.2.1.2.2.2.2.2.1 l1 (nRow (s.2.2.1.2.2.2.2.2.1 l1) (if s.2.1.2.2.2.2.2.2.2.1 < (s.2.2.1.2.2.2.2.2.1 l1).2.1.1 then s.2.1.2.2.2.2.2.2.2.1 else (s.2.2.1.2.2.2.2.2.1 l1).2.1.1))) l1 (nLc ((va_up s.2.2.1.2.2.2.2.2.1 l1 (nRow (s.2.2.1.2.2.2.2.2.1 l1) (if s.2.1.2.2.2.2.2.2.2.1 < (s.2.2.1.2.2.2.2.2.1 l1).2.1.1 then s.2.1.2.2.2.2.2.2.2.1 else (s.2.2.1.2.2.2.2.2.1 l1).2.1.1))) l1) (if ((va_up s.2.2.1.2.2.2.2.2.1 l1 (nRow (s.2.2.1.2.2.2.2.2.1 l1) (if s.2.1.2.2.2.2.2.2.2.1 < (s.2.2.1.2.2.2.2.2.1 l1).2.1.1 then s.2.1.2.2.2.2.2.2.2.1 else (s.2.2.1.2.2.2.2.2.1 l1).2.1.1))) l1).2.1.2.1 < s.2.1.2.2.2.2.2.2.2.2 then s.2.1.2.2.2.2.2.2.2.2 else ((va_up s.2.2.1.2.2.2.2.2.1 l1 (nRow (s.2.2.1.2.2.2.2.2.1 l1) (if s.2.1.2.2.2.2.2.2.2.1 < (s.2.2.1.2.2.2.2.2.1 l1).2.1.1 then s.2.1.2.2.2.2.2.2.2.1 else (s.2.2.1.2.2.2.2.2.1 l1).2.1.1))) l1).2.1.2.1))) l1 (nLcs ((va_up (va_up s.2.2.1.2.2.2.2.2.1 l1 (nRow (s.2.2.1.2.2.2.2.2.1 l1) (if s.2.1.2.2.2.2.2.2.2.1 < (s.2.2.1.2.2.2.2.2.1 l1).2.1.1 then s.2.1.2.2.2.2.2.2.2.1 else (s.2.2.1.2.2.2.2.2.1 l1).2.1.1))) l1 (nLc ((va_up s.2.2.1.2.2.2.2.2.1 l1 (nRow (s.2.2.1.2.2.2.2.2.1 l1) (if s.2.1.2.2.2.2.2.2.2.1 < (s.2.2.1.2.2.2.2.2.1 l1).2.1.1 then s.2.1.2.2.2.2.2.2.2.1 else (s.2.2.1.2.2.2.2.2.1 l1).2.1.1))) l1) (if ((va_up s.2.2.1.2.2.2.2.2.1 l1 (nRow (s.2.2.1.2.2.2.2.2.1 l1) (if s.2.1.2.2.2.2.2.2.2.1 < (s.2.2.1.2.2.2.2.2.1 l1).2.1.1 then s.2.1.2.2.2.2.2.2.2.1 else (s.2.2.1.2.2.2.2.2.1 l1).2.1.1))) l1).2.1.2.1 < s.2.1.2.2.2.2.2.2.2.2 then s.2.1.2.2.2.2.2.2.2.2 else ((va_up s.2.2.1.2.2.2.2.2.1 l1 (nRow (s.2.2.1.2.2.2.2.2.1 l1) (if s.2.1.2.2.2.2.2.2.2.1 < (s.2.2.1.2.2.2.2.2.1 l1).2.1.1 then s.2.1.2.2.2.2.2.2.2.1 else (s.2.2.1.2.2.2.2.2.1 l1).2.1.1))) l1).2.1.2.1))) l1) (((va_up (va_up s.2.2.1.2.2.2.2.2.1 l1 (nRow (s.2.2.1.2.2.2.2.2.1 l1) (if s.2.1.2.2.2.2.2.2.2.1 < (s.2.2.1.2.2.2.2.2.1 l1).2.1.1 then s.2.1.2.2.2.2.2.2.2.1 else (s.2.2.1.2.2.2.2.2.1 l1).2.1.1))) l1 (nLc ((va_up s.2.2.1.2.2.2.2.2.1 l1 (nRow (s.2.2.1.2.2.2.2.2.1 l1) (if s.2.1.2.2.2.2.2.2.2.1 < (s.2.2.1.2.2.2.2.2.1 l1).2.1.1 then s.2.1.2.2.2.2.2.2.2.1 else (s.2.2.1.2.2.2.2.2.1 l1).2.1.1))) l1) (if ((va_up s.2.2.1.2.2.2.2.2.1 l1 (nRow (s.2.2.1.2.2.2.2.2.1 l1) (if s.2.1.2.2.2.2.2.2.2.1 < (s.2.2.1.2.2.2.2.2.1 l1).2.1.1 then s.2.1.2.2.2.2.2.2.2.1 else (s.2.2.1.2.2.2.2.2.1 l1).2.1.1))) l1).2.1.2.1 < s.2.1.2.2.2.2.2.2.2.2 then s.2.1.2.2.2.2.2.2.2.2 else ((va_up s.2.2.1.2.2.2.2.2.1 l1 (nRow (s.2.2.1.2.2.2.2.2.1 l1) (if s.2.1.2.2.2.2.2.2.2.1 < (s.2.2.1.2.2.2.2.2.1 l1).2.1.1 then s.2.1.2.2.2.2.2.2.2.1 else (s.2.2.1.2.2.2.2.2.1 l1).2.1.1))) l1).2.1.2.1))) l1).2.1.2.2.2.1))) l1) s.2.1.2.2.2.2.2.2.1)) l1).2.1.2.1 then s.2.1.2.2.2.2.2.2.2.2 else ((va_up (va_up (va_up (va_up s.2.2.1.2.2.2.2.2.1 l1 (nRow (s.2.2.1.2.2.2.2.2.1 l1) (if s.2.1.2.2.2.2.2.2.2.1 < (s.2.2.1.2.2.2.2.2.1 l1).2.1.1 then s.2.1.2.2.2.2.2.2.2.1 else (s.2.2.1.2.2.2.2.2.1 l1).2.1.1))) l1 (nLc ((va_up s.2.2.1.2.2.2.2.2.1 l1 (nRow (s.2.2.1.2.2.2.2.2.1 l1) (if s.2.1.2.2.2.2.2.2.2.1 < (s.2.2.1.2.2.2.2.2.1 l1).2.1.1 then s.2.1.2.2.2.2.2.2.2.1 else (s.2.2.1.2.2.2.2.2.1 l1).2.1.1))) l1) (if ((va_up s.2.2.1.2.2.2.2.2.1 l1 (nRow (s.2.2.1.2.2.2.2.2.1 l1) (if s.2.1.2.2.2.2.2.2.2.1 < (s.2.2.1.2.2.2.2.2.1 l1).2.1.1 then s.2.1.2.2.2.2.2.2.2.1 else (s.2.2.1.2.2.2.2.2.1 l1).2.1.1))) l1).2.1.2.1 < s.2.1.2.2.2.2.2.2.2.2 then s.2.1.2.2.2.2.2.2.2.2 else ((va_up s.2.2.1.2.2.2.2.2.1 l1 (nRow (s.2.2.1.2.2.2.2.2.1 l1) (if s.2.1.2.2.2.2.2.2.2.1 < (s.2.2.1.2.2.2.2.2.1 l1).2.1.1 then s.2.1.2.2.2.2.2.2.2.1 else (s.2.2.1.2.2.2.2.2.1 l1).2.1.1))) l1).2.1.2.1))) l1 (nLcs ((va_up (va_up s.2.2.1.2.2.2.2.2.1 l1 (nRow (s.2.2.1.2.2.2.2.2.1 l1) (if s.2.1.2.2.2.2.2.2.2.1 < (s.2.2.1.2.2.2.2.2.1 l1).2.1.1 then s.2.1.2.2.2.2.2.2.2.1 else (s.2.2.1.2.2.2.2.2.1 l1).2.1.1))) l1 (nLc ((va_up s.2.2.1.2.2.2.2.2.1 l1 (nRow (s.2.2.1.2.2.2.2.2.1 l1) (if s.2.1.2.2.2.2.2.2.2.1 < (s.2.2.1.2.2.2.2.2.1 l1).2.1.1 then s.2.1.2.2.2.2.2.2.2.1 else (s.2.2.1.2.2.2.2.2.1 l1).2.1.1))) l1) (if ((va_up s.2.2.1.2.2.2.2.2.1 l1 (nRow (s.2.2.1.2.2.2.2.2.1 l1) (if s.2.1.2.2.2.2.2.2.2.1 < (s.2.2.1.2.2.2.2.2.1 l1).2.1.1 then s.2.1.2.2.2.2.2.2.2.1 else (s.2.2.1.2.2.2.2.2.1 l1).2.1.1))) l1).2.1.2.1 < s.2.1.2.2.2.2.2.2.2.2 then s.2.1.2.2.2.2.2.2.2.2 else ((va_up s.2.2.1.2.2.2.2.2.1 l1 (nRow (s.2.2.1.2.2.2.2.2.1 l1) (if s.2.1.2.2.2.2.2.2.2.1 < (s.2.2.1.2.2.2.2.2.1 l1).2.1.1 then s.2.1.2.2.2.2.2.2.2.1 else (s.2.2.1.2.2.2.2.2.1 l1).2.1.1))) l1).2.1.2.1))) l1) (((va_up (va_up s.2.2.1.2.2.2.2.2.1 l1 (nRow (s.2.2.1.2.2.2.2.2.1 l1) (if s.2.1.2.2.2.2.2.2.2.1 < (s.2.2.1.2.2.2.2.2.1 l1).2.1.1 then s.2.1.2.2.2.2.2.2.2.1 else (s.2.2.1.2.2.2.2.2.1 l1).2.1.1))) l1 (nLc ((va_up s.2.2.1.2.2.2.2.2.1 l1 (nRow (s.2.2.1.2.2.2.2.2.1 l1) (if s.2.1.2.2.2.2.2.2.2.1 < (s.2.2.1.2.2.2.2.2.1 l1).2.1.1 then s.2.1.2.2.2.2.2.2.2.1 else (s.2.2.1.2.2.2.2.2.1 l1).2.1.1))) l1) (if ((va_up s.2.2.1.2.2.2.2.2.1 l1 (nRow (s.2.2.1.2.2.2.2.2.1 l1) (if s.2.1.2.2.2.2.2.2.2.1 < (s.2.2.1.2.2.2.2.2.1 l1).2.1.1 then s.2.1.2.2.2.2.2.2.2.1 else (s.2.2.1.2.2.2.2.2.1 l1).2.1.1))) l1).2.1.2.1 < s.2.1.2.2.2.2.2.2.2.2 then s.2.1.2.2.2.2.2.2.2.2 else ((va_up s.2.2.1.2.2.2.2.2.1 l1 (nRow (s.2.2.1.2.2.2.2.2.1 l1) (if s.2.1.2.2.2.2.2.2.2.1 < (s.2.2.1.2.2.2.2.2.1 l1).2.1.1 then s.2.1.2.2.2.2.2.2.2.1 else (s.2.2.1.2.2.2.2.2.1 l1).2.1.1))) l1).2.1.2.1))) l1).2.1.2.2.2.1))) l1 (nCs ((va_up (va_up (va_up s.2.2.1.2.2.2.2.2.1 l1 (nRow (s.2.2.1.2.2.2.2.2.1 l1) (if s.2.1.2.2.2.2.2.2.2.1 < (s.2.2.1.2.2.2.2.2.1 l1).2.1.1 then s.2.1.2.2.2.2.2.2.2.1 else (s.2.2.1.2.2.2.2.2.1 l1).2.1.1))) l1 (nLc ((va_up s.2.2.1.2.2.2.2.2.1 l1 (nRow (s.2.2.1.2.2.2.2.2.1 l1) (if s.2.1.2.2.2.2.2.2.2.1 < (s.2.2.1.2.2.2.2.2.1 l1).2.1.1 then s.2.1.2.2.2.2.2.2.2.1 else (s.2.2.1.2.2.2.2.2.1 l1).2.1.1))) l1) (if ((va_up s.2.2.1.2.2.2.2.2.1 l1 (nRow (s.2.2.1.2.2.2.2.2.1 l1) (if s.2.1.2.2.2.2.2.2.2.1 < (s.2.2.1.2.2.2.2.2.1 l1).2.1.1 then s.2.1.2.2.2.2.2.2.2.1 else (s.2.2.1.2.2.2.2.2.1 l1).2.1.1))) l1).2.1.2.1 < s.2.1.2.2.2.2.2.2.2.2 then s.2.1.2.2.2.2.2.2.2.2 else ((va_up s.2.2.1.2.2.2.2.2.1 l1 (nRow (s.2.2.1.2.2.2.2.2.1 l1) (if s.2.1.2.2.2.2.2.2.2.1 < (s.2.2.1.2.2.2.2.2.1 l1).2.1.1 then s.2.1.2.2.2.2.2.2.2.1 else (s.2.2.1.2.2.2.2.2.1 l1).2.1.1))) l1).2.1.2.1))) l1 (nLcs ((va_up (va_up s.2.2.1.2.2.2.2.2.1 l1 (nRow (s.2.2.1.2.2.2.2.2.1 l1) (if s.2.1.2.2.2.2.2.2.2.1 < (s.2.2.1.2.2.2.2.2.1 l1).2.1.1 then s.2.1.2.2.2.2.2.2.2.1 else (s.2.2.1.2.2.2.2.2.1 l1).2.1.1))) l1 (nLc ((va_up s.2.2.1.2.2.2.2.2.1 l1 (nRow (s.2.2.1.2.2.2.2.2.1 l1) (if s.2.1.2.2.2.2.2.2.2.1 < (s.2.2.1.2.2.2.2.2.1 l1).2.1.1 then s.2.1.2.2.2.2.2.2.2.1 else (s.2.2.1.2.2.2.2.2.1 l1).2.1.1))) l1) (if ((va_up s.2.2.1.2.2.2.2.2.1 l1 (nRow (s.2.2.1.2.2.2.2.2.1 l1) (if s.2.1.2.2.2.2.2.2.2.1 < (s.2.2.1.2.2.2.2.2.1 l1).2.1.1 then s.2.1.2.2.2.2.2.2.2.1 else (s.2.2.1.2.2.2.2.2.1 l1).2.1.1))) l1).2.1.2.1 < s.2.1.2.2.2.2.2.2.2.2 then s.2.1.2.2.2.2.2.2.2.2 else ((va_up s.2.2.1.2.2.2.2.2.1 l1 (nRow (s.2.2.1.2.2.2.2.2.1 l1) (if s.2.1.2.2.2.2.2.2.2.1 < (s.2.2.1.2.2.2.2.2.1 l1).2.1.1 then s.2.1.2.2.2.2.2.2.2.1 else (s.2.2.1.2.2.2.2.2.1 l1).2.1.1))) l1).2.1.2.1))) l1) (((va_up (va_up s.2.2.1.2.2.2.2.2.1 l1 (nRow (s.2.2.1.2.2.2.2.2.1 l1) (if s.2.1.2.2.2.2.2.2.2.1 < (s.2.2.1.2.2.2.2.2.1 l1).2.1.1 then s.2.1.2.2.2.2.2.2.2.1 else (s.2.2.1.2.2.2.2.2.1 l1).2.1.1))) l1 (nLc ((va_up s.2.2.1.2.2.2.2.2.1 l1 (nRow (s.2.2.1.2.2.2.2.2.1 l1) (if s.2.1.2.2.2.2.2.2.2.1 < (s.2.2.1.2.2.2.2.2.1 l1).2.1.1 then s.2.1.2.2.2.2.2.2.2.1 else (s.2.2.1.2.2.2.2.2.1 l1).2.1.1))) l1) (if ((va_up s.2.2.1.2.2.2.2.2.1 l1 (nRow (s.2.2.1.2.2.2.2.2.1 l1) (if s.2.1.2.2.2.2.2.2.2.1 < (s.2.2.1.2.2.2.2.2.1 l1).2.1.1 then s.2.1.2.2.2.2.2.2.2.1 else (s.2.2.1.2.2.2.2.2.1 l1).2.1.1))) l1).2.1.2.1 < s.2.1.2.2.2.2.2.2.2.2 then s.2.1.2.2.2.2.2.2.2.2 else ((va_up s.2.2.1.2.2.2.2.2.1 l1 (nRow (s.2.2.1.2.2.2.2.2.1 l1) (if s.2.1.2.2.2.2.2.2.2.1 < (s.2.2.1.2.2.2.2.2.1 l1).2.1.1 then s.2.1.2.2.2.2.2.2.2.1 else (s.2.2.1.2.2.2.2.2.1 l1).2.1.1))) l1).2.1.2.1))) l1).2.1.2.2.2.1))) l1) s.2.1.2.2.2.2.2.2.1)) l1).2.1.2.1))), s.2.2.1.2.2.2.2.2.2), s.2.2.2)) rfl)) ?_
      refine xy_r (xw_aload_n dM_cells_224 rfl) ?_
      obtain rfl := Option.some.inj hF
      exact xy_end (xw_areturn dM_cells_225 rfl (Or.inl ⟨_, rfl⟩) (Nat.le_refl _) (Nat.le_refl _) ⟨rfl, rfl⟩)
set_option maxRecDepth 20000 in
theorem CM_cells_104 {w : xw_G} {h : xw_H} (hb : xMb h)  {l1 : Nat} {t0 : Nat} {t1 : Bool} {s : xMs} {out : (xo Nat xMs)} {h0 : xw_H} {m0 n0 : Nat} (hm : m0 ≤ s.2.2.1.2.2.2.2.2.2.1 ∧ n0 ≤ s.2.2.1.2.2.2.2.2.2.2) (hF : FM_cells_104 l1 t0 t1 s = some out) : xw_Y w mM_cells 7 121 (xo_P (fun x => some (.ref (xn x))) (fun s => mV s h) out) h0 m0 n0 s.2.2.1.2.2.2.2.2.2.1 s.2.2.1.2.2.2.2.2.2.2 (xo_s out).2.2.1.2.2.2.2.2.2.1 (xo_s out).2.2.1.2.2.2.2.2.2.2 104 [some (.ref 2000), some (.ref (xn l1)), none] [.int (xb t1), .ref (xn t0)] (mV s h) := by
  unfold FM_cells_104 at hF
  obtain ⟨g251, hF⟩ := xg_g hF
  refine xy_r (xg_put dM_cells_104 fM_392 (mV_n g251) (xn_le _) (Nat.le_of_ble_eq_true rfl) (fun _ => xb_nar t1) (fun _ => xb_fit t1) (mV_pn (q := (nLrs (s.2.2.1.2.2.2.2.2.1 t0) t1)) g251)) ?_
  refine xy_r (xw_aload_n dM_cells_107 rfl) ?_
  refine xy_r (xw_get dM_cells_108 fM_311 rfl rfl) ?_
  refine xy_r (xw_aload_n dM_cells_111 rfl) ?_
  obtain ⟨g252, hF⟩ := xg_g hF
  refine xy_r (xw_get dM_cells_112 fM_368 (mV_n g252) rfl) ?_
  refine xy_br (xw_icmp_ge 126 dM_cells_115 (by decide)) (fun c253 => ?_) (fun c253 => ?_)
  · replace hF := xg_t c253 hF
    exact CM_cells_126 hb hm hF
  · replace hF := xg_f c253 hF
    refine xy_r (xw_aload_n dM_cells_118 rfl) ?_
    refine xy_r (xw_aload_n dM_cells_119 rfl) ?_
    refine xy_r (xw_get dM_cells_120 fM_305 rfl rfl) ?_
    refine xy_r (xg_put dM_cells_123 fM_374 (mV_n g252) (xn_le _) (Nat.le_of_ble_eq_true rfl) (fun _ => xb_nar s.2.1.2.2.2.2.2.1) (fun _ => xb_fit s.2.1.2.2.2.2.2.1) (mV_pn (q := (nRs ((va_up s.2.2.1.2.2.2.2.2.1 t0 (nLrs (s.2.2.1.2.2.2.2.2.1 t0) t1)) l1) s.2.1.2.2.2.2.2.1)) g252)) ?_
    exact CM_cells_126 hb hm hF
set_option maxRecDepth 20000 in
theorem CM_cells_61 {w : xw_G} {h : xw_H} (hb : xMb h)  {l1 : Nat} {s : xMs} {out : (xo Nat xMs)} {h0 : xw_H} {m0 n0 : Nat} (hm : m0 ≤ s.2.2.1.2.2.2.2.2.2.1 ∧ n0 ≤ s.2.2.1.2.2.2.2.2.2.2) (hF : FM_cells_61 l1 s = some out) : xw_Y w mM_cells 7 121 (xo_P (fun x => some (.ref (xn x))) (fun s => mV s h) out) h0 m0 n0 s.2.2.1.2.2.2.2.2.2.1 s.2.2.1.2.2.2.2.2.2.2 (xo_s out).2.2.1.2.2.2.2.2.2.1 (xo_s out).2.2.1.2.2.2.2.2.2.2 61 [some (.ref 2000), some (.ref (xn l1)), none] [] (mV s h) := by
  unfold FM_cells_61 at hF
  refine xy_r (xw_aload_n dM_cells_61 rfl) ?_
  refine xy_r (xw_iconst (5) dM_cells_62 (by decide)) ?_
  obtain ⟨g249, hF⟩ := xg_g hF
  refine xy_r (xg_put dM_cells_63 fM_192 (mV_n g249) (xn_le _) (Nat.le_of_ble_eq_true rfl) (fun _ => rfl) (fun _ => rfl) (mV_pn (q := (nKind (s.2.2.1.2.2.2.2.2.1 l1) 5)) g249)) ?_
  refine xy_r (xw_aload_n dM_cells_66 rfl) ?_
  refine xy_r (xw_aload_n dM_cells_67 rfl) ?_
  refine xy_r (xw_get dM_cells_68 fM_368 (mV_n g249) rfl) ?_
  refine xy_r (xw_aload_n dM_cells_71 rfl) ?_
  refine xy_r (xw_get dM_cells_72 fM_311 rfl rfl) ?_
  refine xy_q (fun hq => xw_mmax dM_cells_75 tw_1267 (Nat.le_of_ble_eq_true rfl) (Nat.le_of_ble_eq_true rfl) (Nat.sub_le_sub_right hq.1 _) (Nat.sub_le_sub_right hq.2 _)) ?_
  refine xy_r (xg_put dM_cells_78 fM_389 (mV_n g249) (xn_le _) (Nat.le_of_ble_eq_true rfl) (fun _ => rfl) (fun _ => rfl) (mV_pn (q := (nLr ((va_up s.2.2.1.2.2.2.2.2.1 l1 (nKind (s.2.2.1.2.2.2.2.2.1 l1) 5)) l1) (if ((va_up s.2.2.1.2.2.2.2.2.1 l1 (nKind (s.2.2.1.2.2.2.2.2.1 l1) 5)) l1).2.1.1 < s.2.1.2.2.2.2.2.2.2.1 then s.2.1.2.2.2.2.2.2.2.1 else ((va_up s.2.2.1.2.2.2.2.2.1 l1 (nKind (s.2.2.1.2.2.2.2.2.1 l1) 5)) l1).2.1.1))) g249)) ?_
  refine xy_r (xw_aload_n dM_cells_81 rfl) ?_
  refine xy_r (xw_aload_n dM_cells_82 rfl) ?_
  refine xy_r (xw_get dM_cells_83 fM_368 (mV_n g249) rfl) ?_
  refine xy_r (xw_aload_n dM_cells_86 rfl) ?_
  refine xy_r (xw_get dM_cells_87 fM_311 rfl rfl) ?_
  refine xy_br (xw_icmp_le 100 dM_cells_90 (by decide)) (fun c250 => ?_) (fun c250 => ?_)
  · replace hF := xg_t c250 hF
    refine xy_r (xw_aload_n dM_cells_100 rfl) ?_
    refine xy_r (xw_get dM_cells_101 fM_305 rfl rfl) ?_
    exact CM_cells_104 hb hm hF
  · replace hF := xg_f c250 hF
    refine xy_r (xw_aload_n dM_cells_93 rfl) ?_
    refine xy_r (xw_get dM_cells_94 fM_374 (mV_n g249) rfl) ?_
    refine xy_r (xw_goto 104 dM_cells_97 (by decide)) ?_
    exact CM_cells_104 hb hm hF
set_option maxRecDepth 20000 in
theorem CM_cells {w : xw_G} {h : xw_H} (hb : xMb h)  {s : xMs} {out : (xo Nat xMs)} (hF : FM_cells  s = some out) : (s.2.2.1.2.2.2.2.2.2.1 ≤ (xo_s out).2.2.1.2.2.2.2.2.2.1 ∧ s.2.2.1.2.2.2.2.2.2.2 ≤ (xo_s out).2.2.1.2.2.2.2.2.2.2) ∧ xw_C w (mM_cells { frames := 7, cells := (xo_s out).2.2.1.2.2.2.2.2.2.1 - s.2.2.1.2.2.2.2.2.2.1, slots := (xo_s out).2.2.1.2.2.2.2.2.2.2 - s.2.2.1.2.2.2.2.2.2.2, locals := 121 }) (xo_P (fun x => some (.ref (xn x))) (fun s => mV s h) out) [.ref 2000] (mV s h) := by
  unfold FM_cells at hF
  refine xy_enter (L := [some (.ref 2000), none, none]) (fun _ => rfl) (fun _ => rfl) (fun _ => (show plainName "FormulaShaperModel" = true by decide +kernel)) (fun _ => (Nat.le_of_ble_eq_true rfl)) (fun _ => rfl) ?_
  have hm : s.2.2.1.2.2.2.2.2.2.1 ≤ s.2.2.1.2.2.2.2.2.2.1 ∧ s.2.2.1.2.2.2.2.2.2.2 ≤ s.2.2.1.2.2.2.2.2.2.2 := ⟨Nat.le_refl _, Nat.le_refl _⟩
  refine xy_r (xw_aload_n dM_cells_0 rfl) ?_
  refine xy_r (xw_iconst (4) dM_cells_1 (by decide)) ?_
  obtain ⟨r232, er232, hF⟩ := xg_b hF
  have hm233 : s.2.2.1.2.2.2.2.2.2.1 ≤ r232.2.2.2.1.2.2.2.2.2.2.1 ∧ s.2.2.1.2.2.2.2.2.2.2 ≤ r232.2.2.2.1.2.2.2.2.2.2.2 := xy_le hm (show s.2.2.1.2.2.2.2.2.2.1 ≤ r232.2.2.2.1.2.2.2.2.2.2.1 ∧ s.2.2.1.2.2.2.2.2.2.2 ≤ r232.2.2.2.1.2.2.2.2.2.2.2 from (CM_node (w := w) (h := h) hb er232).1)
  refine xy_V1 (sm := s.2.2.1.2.2.2.2.2.2.1) (sn := s.2.2.1.2.2.2.2.2.2.2) (tm := r232.2.2.2.1.2.2.2.2.2.2.1) (tn := r232.2.2.2.1.2.2.2.2.2.2.2) (CM_node hb er232) rfl rfl hm (fun _ => rfl) (fun _ => rfl) (fun _ => rfl) (fun _ => dM_cells_2) (fun _ R => kM_253 R) (fun _ => rfl) ⟨(Nat.le_of_ble_eq_true rfl), (Nat.le_of_ble_eq_true rfl)⟩ rfl rfl rfl (fun _ => rfl) (Nat.le_of_ble_eq_true rfl) ?_
  refine xy_r (xw_astore_n dM_cells_5 (Nat.le_of_ble_eq_true rfl)) ?_
  refine xy_r (xw_Ln (L' := [some (.ref 2000), some (.ref (xn r232.1)), none]) rfl) ?_
  refine xy_r (xw_aload_n dM_cells_6 rfl) ?_
  refine xy_r (xw_aload_n dM_cells_7 rfl) ?_
  obtain ⟨r235, er235, hF⟩ := xg_b hF
  have hm236 : s.2.2.1.2.2.2.2.2.2.1 ≤ r235.2.2.1.2.2.2.2.2.2.1 ∧ s.2.2.1.2.2.2.2.2.2.2 ≤ r235.2.2.1.2.2.2.2.2.2.2 := xy_le hm233 (show r232.2.2.2.1.2.2.2.2.2.2.1 ≤ r235.2.2.1.2.2.2.2.2.2.1 ∧ r232.2.2.2.1.2.2.2.2.2.2.2 ≤ r235.2.2.1.2.2.2.2.2.2.2 from (CM_corner (w := w) (h := h) hb er235).1)
  refine xy_V0 (sm := r232.2.2.2.1.2.2.2.2.2.2.1) (sn := r232.2.2.2.1.2.2.2.2.2.2.2) (tm := r235.2.2.1.2.2.2.2.2.2.1) (tn := r235.2.2.1.2.2.2.2.2.2.2) (CM_corner hb er235) rfl rfl hm233 (fun _ => rfl) (fun _ => rfl) (fun _ => rfl) (fun _ => dM_cells_8) (fun _ R => kM_380 R) (fun _ => rfl) ⟨(Nat.le_of_ble_eq_true rfl), (Nat.le_of_ble_eq_true rfl)⟩ rfl rfl rfl (fun _ => rfl) (Nat.le_of_ble_eq_true rfl) ?_
  refine xy_r (xw_aload_n dM_cells_11 rfl) ?_
  refine xy_r (xw_get dM_cells_12 fM_221 rfl rfl) ?_
  refine xy_r (xw_istore_n dM_cells_15 (Nat.le_of_ble_eq_true rfl)) ?_
  refine xy_r (xw_Ln (L' := [some (.ref 2000), some (.ref (xn r232.1)), some (.int r235.2.1.2.1)]) rfl) ?_
  refine xy_r (xw_aload_n dM_cells_16 rfl) ?_
  refine xy_r (xw_bipush (58) dM_cells_17 (by decide)) ?_
  obtain ⟨r238, er238, hF⟩ := xg_b hF
  have hm239 : s.2.2.1.2.2.2.2.2.2.1 ≤ r238.2.2.2.1.2.2.2.2.2.2.1 ∧ s.2.2.1.2.2.2.2.2.2.2 ≤ r238.2.2.2.1.2.2.2.2.2.2.2 := xy_le hm236 (show r235.2.2.1.2.2.2.2.2.2.1 ≤ r238.2.2.2.1.2.2.2.2.2.2.1 ∧ r235.2.2.1.2.2.2.2.2.2.2 ≤ r238.2.2.2.1.2.2.2.2.2.2.2 from (CM_next (w := w) (h := h) hb er238).1)
  refine xy_V1 (sm := r235.2.2.1.2.2.2.2.2.2.1) (sn := r235.2.2.1.2.2.2.2.2.2.2) (tm := r238.2.2.2.1.2.2.2.2.2.2.1) (tn := r238.2.2.2.1.2.2.2.2.2.2.2) (CM_next hb er238) rfl rfl hm236 (fun _ => rfl) (fun _ => rfl) (fun _ => rfl) (fun _ => dM_cells_19) (fun _ R => kM_236 R) (fun _ => rfl) ⟨(Nat.le_of_ble_eq_true rfl), (Nat.le_of_ble_eq_true rfl)⟩ rfl rfl rfl (fun _ => rfl) (Nat.le_of_ble_eq_true rfl) ?_
  refine xy_br (xw_if_neB 32 dM_cells_22 (by decide)) (fun c241 => ?_) (fun c241 => ?_)
  · replace hF := xg_t c241 hF
    refine xy_r (xw_aload_n dM_cells_32 rfl) ?_
    refine xy_r (xw_dup_r dM_cells_33) ?_
    refine xy_r (xw_get dM_cells_34 fM_221 rfl rfl) ?_
    refine xy_r (xw_iconst (1) dM_cells_37 (by decide)) ?_
    refine xy_r (xw_iadd dM_cells_38) ?_
    refine xy_r (xg_put dM_cells_39 fM_221 rfl (by decide) (Nat.le_of_ble_eq_true rfl) (fun _ => rfl) (fun _ => rfl) (mV_o (s' := (r238.2.1, (r238.2.2.1.1, (r238.2.2.1.2.1 + 1), r238.2.2.1.2.2), r238.2.2.2)) rfl)) ?_
    refine xy_r (xw_aload_n dM_cells_42 rfl) ?_
    obtain ⟨r242, er242, hF⟩ := xg_b hF
    have hm243 : s.2.2.1.2.2.2.2.2.2.1 ≤ r242.2.2.1.2.2.2.2.2.2.1 ∧ s.2.2.1.2.2.2.2.2.2.2 ≤ r242.2.2.1.2.2.2.2.2.2.2 := xy_le hm239 (show r238.2.2.2.1.2.2.2.2.2.2.1 ≤ r242.2.2.1.2.2.2.2.2.2.1 ∧ r238.2.2.2.1.2.2.2.2.2.2.2 ≤ r242.2.2.1.2.2.2.2.2.2.2 from (CM_blanks (w := w) (h := h) hb er242).1)
    refine xy_V0 (sm := r238.2.2.2.1.2.2.2.2.2.2.1) (sn := r238.2.2.2.1.2.2.2.2.2.2.2) (tm := r242.2.2.1.2.2.2.2.2.2.1) (tn := r242.2.2.1.2.2.2.2.2.2.2) (CM_blanks hb er242) rfl rfl hm239 (fun _ => rfl) (fun _ => rfl) (fun _ => rfl) (fun _ => dM_cells_43) (fun _ R => kM_233 R) (fun _ => rfl) ⟨(Nat.le_of_ble_eq_true rfl), (Nat.le_of_ble_eq_true rfl)⟩ rfl rfl rfl (fun _ => rfl) (Nat.le_of_ble_eq_true rfl) ?_
    refine xy_r (xw_aload_n dM_cells_46 rfl) ?_
    obtain ⟨r245, er245, hF⟩ := xg_b hF
    have hm246 : s.2.2.1.2.2.2.2.2.2.1 ≤ r245.2.2.2.1.2.2.2.2.2.2.1 ∧ s.2.2.1.2.2.2.2.2.2.2 ≤ r245.2.2.2.1.2.2.2.2.2.2.2 := xy_le hm243 (show r242.2.2.1.2.2.2.2.2.2.1 ≤ r245.2.2.2.1.2.2.2.2.2.2.1 ∧ r242.2.2.1.2.2.2.2.2.2.2 ≤ r245.2.2.2.1.2.2.2.2.2.2.2 from (CM_cell_Z (w := w) (h := h) hb er245).1)
    refine xy_V1 (sm := r242.2.2.1.2.2.2.2.2.2.1) (sn := r242.2.2.1.2.2.2.2.2.2.2) (tm := r245.2.2.2.1.2.2.2.2.2.2.1) (tn := r245.2.2.2.1.2.2.2.2.2.2.2) (CM_cell_Z hb er245) rfl rfl hm243 (fun _ => rfl) (fun _ => rfl) (fun _ => rfl) (fun _ => dM_cells_47) (fun _ R => kM_320 R) (fun _ => rfl) ⟨(Nat.le_of_ble_eq_true rfl), (Nat.le_of_ble_eq_true rfl)⟩ rfl rfl rfl (fun _ => rfl) (Nat.le_of_ble_eq_true rfl) ?_
    refine xy_br (xw_if_neB 61 dM_cells_50 (by decide)) (fun c248 => ?_) (fun c248 => ?_)
    · replace hF := xg_t c248 hF
      refine xy_r (xw_drop (L' := [some (.ref 2000), some (.ref (xn r232.1)), none]) ⟨rfl, ⟨rfl, trivial⟩⟩) ?_
      exact CM_cells_61 hb hm246 hF
    · replace hF := xg_f c248 hF
      refine xy_r (xw_aload_n dM_cells_53 rfl) ?_
      refine xy_r (xw_aload_n dM_cells_54 rfl) ?_
      refine xy_r (xw_get dM_cells_55 fM_221 rfl rfl) ?_
      rcases xg_o hF with ⟨r258, er258, hF⟩ | ⟨r258, er258, hF⟩
      · have hm259 : s.2.2.1.2.2.2.2.2.2.1 ≤ r258.2.2.2.1.2.2.2.2.2.2.1 ∧ s.2.2.1.2.2.2.2.2.2.2 ≤ r258.2.2.2.1.2.2.2.2.2.2.2 := xy_le hm246 (show r245.2.2.2.1.2.2.2.2.2.2.1 ≤ r258.2.2.2.1.2.2.2.2.2.2.1 ∧ r245.2.2.2.1.2.2.2.2.2.2.2 ≤ r258.2.2.2.1.2.2.2.2.2.2.2 from (CM_bad (w := w) (h := h) hb er258).1)
        refine xy_V0 (sm := r245.2.2.2.1.2.2.2.2.2.2.1) (sn := r245.2.2.2.1.2.2.2.2.2.2.2) (tm := r258.2.2.2.1.2.2.2.2.2.2.1) (tn := r258.2.2.2.1.2.2.2.2.2.2.2) (CM_bad hb er258) rfl rfl hm246 (fun _ => rfl) (fun _ => rfl) (fun _ => rfl) (fun _ => dM_cells_58) (fun _ R => kM_239 R) (fun _ => rfl) ⟨(Nat.le_of_ble_eq_true rfl), (Nat.le_of_ble_eq_true rfl)⟩ rfl rfl rfl (fun _ => rfl) (Nat.le_of_ble_eq_true rfl) ?_
        refine xy_r (xw_drop (L' := [some (.ref 2000), some (.ref (xn r232.1)), none]) ⟨rfl, ⟨rfl, trivial⟩⟩) ?_
        exact CM_cells_61 hb hm259 hF
      · subst hF
        exact xy_Vt (sm := r245.2.2.2.1.2.2.2.2.2.2.1) (sn := r245.2.2.2.1.2.2.2.2.2.2.2) (tm := r258.2.2.2.1.2.2.2.2.2.2.1) (tn := r258.2.2.2.1.2.2.2.2.2.2.2) (CM_bad hb er258) rfl rfl hm246 (fun _ => rfl) (fun _ => rfl) (fun _ => rfl) (fun _ => dM_cells_58) (fun _ R => kM_239 R) (fun _ => rfl) ⟨(Nat.le_of_ble_eq_true rfl), (Nat.le_of_ble_eq_true rfl)⟩ rfl rfl rfl (fun _ => rfl) (Nat.le_of_ble_eq_true rfl) ⟨rfl, rfl⟩
  · replace hF := xg_f c241 hF
    refine xy_r (xw_aload_n dM_cells_25 rfl) ?_
    refine xy_r (xw_iload_n dM_cells_26 rfl) ?_
    refine xy_r (xg_put dM_cells_27 fM_221 rfl (by decide) (Nat.le_of_ble_eq_true rfl) (fun _ => rfl) (fun _ => rfl) (mV_o (s' := (r238.2.1, (r238.2.2.1.1, r235.2.1.2.1, r238.2.2.1.2.2), r238.2.2.2)) rfl)) ?_
    refine xy_r (xw_aload_n dM_cells_30 rfl) ?_
    obtain rfl := Option.some.inj hF
    exact xy_end (xw_areturn dM_cells_31 rfl (Or.inl ⟨_, rfl⟩) (Nat.le_refl _) (Nat.le_refl _) ⟨rfl, rfl⟩)
def FM_literal_18 (t0 : Bool) (s : xMs) : Option (xo Nat xMs) := if t0 = true then ((FM_blanks (s.1, (s.2.1.1, (s.2.1.2.1 + 1), s.2.1.2.2), s.2.2)).bind fun r277 => (FM_peek r277).bind fun r280 => if (sM_digit r280) = 0 then (xo_b (FM_bad r277.2.1.2.1 r277) fun r292 => xo_b (FM_constant r292.2) fun r295 => xm r295.1 (xo_b (FM_bad r295.2.2.1.2.1 r295.2) fun r299 => if t0 = true then (none) else (none)) (fun i298 => if t0 = true then (if i298 < r295.2.2.2.1.2.2.2.2.1 then (some (.inl (i298, (r295.2.1, r295.2.2.1, (r295.2.2.2.1.1, r295.2.2.2.1.2.1, r295.2.2.2.1.2.2.1, r295.2.2.2.1.2.2.2.1, r295.2.2.2.1.2.2.2.2.1, (va_up (va_up r295.2.2.2.1.2.2.2.2.2.1 i298 (nNumber (r295.2.2.2.1.2.2.2.2.2.1 i298) (-(r295.2.2.2.1.2.2.2.2.2.1 i298).1.2.2.2))) i298 (nA ((va_up r295.2.2.2.1.2.2.2.2.2.1 i298 (nNumber (r295.2.2.2.1.2.2.2.2.2.1 i298) (-(r295.2.2.2.1.2.2.2.2.2.1 i298).1.2.2.2))) i298) 1)), r295.2.2.2.1.2.2.2.2.2.2), r295.2.2.2.2)))) else none) else (some (.inl (i298, r295.2))))) else (xo_b (FM_constant r277) fun r282 => xm r282.1 (xo_b (FM_bad r282.2.2.1.2.1 r282.2) fun r286 => if t0 = true then (none) else (none)) (fun i285 => if t0 = true then (if i285 < r282.2.2.2.1.2.2.2.2.1 then (some (.inl (i285, (r282.2.1, r282.2.2.1, (r282.2.2.2.1.1, r282.2.2.2.1.2.1, r282.2.2.2.1.2.2.1, r282.2.2.2.1.2.2.2.1, r282.2.2.2.1.2.2.2.2.1, (va_up (va_up r282.2.2.2.1.2.2.2.2.2.1 i285 (nNumber (r282.2.2.2.1.2.2.2.2.2.1 i285) (-(r282.2.2.2.1.2.2.2.2.2.1 i285).1.2.2.2))) i285 (nA ((va_up r282.2.2.2.1.2.2.2.2.2.1 i285 (nNumber (r282.2.2.2.1.2.2.2.2.2.1 i285) (-(r282.2.2.2.1.2.2.2.2.2.1 i285).1.2.2.2))) i285) 1)), r282.2.2.2.1.2.2.2.2.2.2), r282.2.2.2.2)))) else none) else (some (.inl (i285, r282.2)))))) else (xo_b (FM_constant s) fun r267 => xm r267.1 (xo_b (FM_bad r267.2.2.1.2.1 r267.2) fun r271 => if t0 = true then (none) else (none)) (fun i270 => if t0 = true then (if i270 < r267.2.2.2.1.2.2.2.2.1 then (some (.inl (i270, (r267.2.1, r267.2.2.1, (r267.2.2.2.1.1, r267.2.2.2.1.2.1, r267.2.2.2.1.2.2.1, r267.2.2.2.1.2.2.2.1, r267.2.2.2.1.2.2.2.2.1, (va_up (va_up r267.2.2.2.1.2.2.2.2.2.1 i270 (nNumber (r267.2.2.2.1.2.2.2.2.2.1 i270) (-(r267.2.2.2.1.2.2.2.2.2.1 i270).1.2.2.2))) i270 (nA ((va_up r267.2.2.2.1.2.2.2.2.2.1 i270 (nNumber (r267.2.2.2.1.2.2.2.2.2.1 i270) (-(r267.2.2.2.1.2.2.2.2.2.1 i270).1.2.2.2))) i270) 1)), r267.2.2.2.1.2.2.2.2.2.2), r267.2.2.2.2)))) else none) else (some (.inl (i270, r267.2)))))
/-- FormulaShaperModel.literal -/
def FM_literal  (s : xMs) : Option (xo Nat xMs) := (FM_blanks s).bind fun r261 => (FM_peek r261).bind fun r264 => if r264 = 45 then (FM_literal_18 true r261) else (FM_literal_18 false r261)
set_option maxRecDepth 20000 in
theorem CM_literal_18 {w : xw_G} {h : xw_H} (hb : xMb h)  {t0 : Bool} {s : xMs} {out : (xo Nat xMs)} {h0 : xw_H} {m0 n0 : Nat} (hm : m0 ≤ s.2.2.1.2.2.2.2.2.2.1 ∧ n0 ≤ s.2.2.1.2.2.2.2.2.2.2) (hF : FM_literal_18 t0 s = some out) : xw_Y w mM_literal 9 171 (xo_P (fun x => some (.ref (xn x))) (fun s => mV s h) out) h0 m0 n0 s.2.2.1.2.2.2.2.2.2.1 s.2.2.1.2.2.2.2.2.2.2 (xo_s out).2.2.1.2.2.2.2.2.2.1 (xo_s out).2.2.1.2.2.2.2.2.2.2 18 [some (.ref 2000), none, none] [.int (xb t0)] (mV s h) := by
  unfold FM_literal_18 at hF
  refine xy_r (xw_istore_n dM_literal_18 (Nat.le_of_ble_eq_true rfl)) ?_
  refine xy_r (xw_Ln (L' := [some (.ref 2000), some (.int (xb t0)), none]) rfl) ?_
  refine xy_r (xw_iload_n dM_literal_19 rfl) ?_
  refine xy_brn (xw_if_eqB 55 dM_literal_20 (by decide)) (fun c266 => ?_) (fun c266 => ?_)
  · replace hF := xg_f c266 hF
    refine xy_r (xw_aload_n dM_literal_55 rfl) ?_
    rcases xg_o hF with ⟨r267, er267, hF⟩ | ⟨r267, er267, hF⟩
    · have hm268 : m0 ≤ r267.2.2.2.1.2.2.2.2.2.2.1 ∧ n0 ≤ r267.2.2.2.1.2.2.2.2.2.2.2 := xy_le hm (show s.2.2.1.2.2.2.2.2.2.1 ≤ r267.2.2.2.1.2.2.2.2.2.2.1 ∧ s.2.2.1.2.2.2.2.2.2.2 ≤ r267.2.2.2.1.2.2.2.2.2.2.2 from (CM_constant (w := w) (h := h) hb er267).1)
      refine xy_V1 (sm := s.2.2.1.2.2.2.2.2.2.1) (sn := s.2.2.1.2.2.2.2.2.2.2) (tm := r267.2.2.2.1.2.2.2.2.2.2.1) (tn := r267.2.2.2.1.2.2.2.2.2.2.2) (CM_constant hb er267) rfl rfl hm (fun _ => rfl) (fun _ => rfl) (fun _ => rfl) (fun _ => dM_literal_56) (fun _ R => kM_359 R) (fun _ => rfl) ⟨(Nat.le_of_ble_eq_true rfl), (Nat.le_of_ble_eq_true rfl)⟩ rfl rfl rfl (fun _ => rfl) (Nat.le_of_ble_eq_true rfl) ?_
      refine xy_r (xg_astore_n dM_literal_59 (Nat.le_of_ble_eq_true rfl)) ?_
      refine xy_r (xw_Ln (L' := [some (.ref 2000), some (.int (xb t0)), some (xw_rf r267.1)]) rfl) ?_
      refine xy_r (xg_aload_n dM_literal_60 rfl) ?_
      rcases xg_m hF with ⟨ei270, hF⟩ | ⟨i270, ei270, hF⟩
      · refine xy_r (xw_Ln (L' := [some (.ref 2000), some (.int (xb t0)), some (.null)]) (by first | (rw [ei270]; done) | (rw [ei270]; rfl))) ?_
        refine xy_r (xw_Sn (st' := [.null]) (by first | (rw [ei270]; done) | (rw [ei270]; rfl))) ?_
        refine xy_r (xw_ifnonnull_n dM_literal_61) ?_
        refine xy_r (xw_aload_n dM_literal_64 rfl) ?_
        refine xy_r (xw_aload_n dM_literal_65 rfl) ?_
        refine xy_r (xw_get dM_literal_66 fM_221 rfl rfl) ?_
        rcases xg_o hF with ⟨r271, er271, hF⟩ | ⟨r271, er271, hF⟩
        · have hm272 : m0 ≤ r271.2.2.2.1.2.2.2.2.2.2.1 ∧ n0 ≤ r271.2.2.2.1.2.2.2.2.2.2.2 := xy_le hm268 (show r267.2.2.2.1.2.2.2.2.2.2.1 ≤ r271.2.2.2.1.2.2.2.2.2.2.1 ∧ r267.2.2.2.1.2.2.2.2.2.2.2 ≤ r271.2.2.2.1.2.2.2.2.2.2.2 from (CM_bad (w := w) (h := h) hb er271).1)
          refine xy_V0 (sm := r267.2.2.2.1.2.2.2.2.2.2.1) (sn := r267.2.2.2.1.2.2.2.2.2.2.2) (tm := r271.2.2.2.1.2.2.2.2.2.2.1) (tn := r271.2.2.2.1.2.2.2.2.2.2.2) (CM_bad hb er271) rfl rfl hm268 (fun _ => rfl) (fun _ => rfl) (fun _ => rfl) (fun _ => dM_literal_69) (fun _ R => kM_239 R) (fun _ => rfl) ⟨(Nat.le_of_ble_eq_true rfl), (Nat.le_of_ble_eq_true rfl)⟩ rfl rfl rfl (fun _ => rfl) (Nat.le_of_ble_eq_true rfl) ?_
          refine xy_r (xw_iload_n dM_literal_72 rfl) ?_
          refine xy_brn (xw_if_eqB 90 dM_literal_73 (by decide)) (fun c274 => ?_) (fun c274 => ?_)
          · replace hF := xg_f c274 hF
            refine xy_r (xw_aload_nN dM_literal_90 rfl) ?_
            cases hF
          · replace hF := xg_t c274 hF
            refine xy_r (xw_aload_nN dM_literal_76 rfl) ?_
            refine xy_r (xw_aload_nN dM_literal_77 rfl) ?_
            cases hF
        · subst hF
          exact xy_Vt (sm := r267.2.2.2.1.2.2.2.2.2.2.1) (sn := r267.2.2.2.1.2.2.2.2.2.2.2) (tm := r271.2.2.2.1.2.2.2.2.2.2.1) (tn := r271.2.2.2.1.2.2.2.2.2.2.2) (CM_bad hb er271) rfl rfl hm268 (fun _ => rfl) (fun _ => rfl) (fun _ => rfl) (fun _ => dM_literal_69) (fun _ R => kM_239 R) (fun _ => rfl) ⟨(Nat.le_of_ble_eq_true rfl), (Nat.le_of_ble_eq_true rfl)⟩ rfl rfl rfl (fun _ => rfl) (Nat.le_of_ble_eq_true rfl) ⟨rfl, rfl⟩
      · refine xy_r (xw_Ln (L' := [some (.ref 2000), some (.int (xb t0)), some (.ref (xn i270))]) (by first | (rw [ei270]; done) | (rw [ei270]; rfl))) ?_
        refine xy_r (xw_Sn (st' := [.ref (xn i270)]) (by first | (rw [ei270]; done) | (rw [ei270]; rfl))) ?_
        refine xy_r (xw_ifnonnull_r 72 dM_literal_61 (by decide)) ?_
        refine xy_r (xw_iload_n dM_literal_72 rfl) ?_
        refine xy_brn (xw_if_eqB 90 dM_literal_73 (by decide)) (fun c275 => ?_) (fun c275 => ?_)
        · replace hF := xg_f c275 hF
          refine xy_r (xw_aload_n dM_literal_90 rfl) ?_
          obtain rfl := Option.some.inj hF
          exact xy_end (xw_areturn dM_literal_91 rfl (Or.inl ⟨_, rfl⟩) (Nat.le_refl _) (Nat.le_refl _) ⟨rfl, rfl⟩)
        · replace hF := xg_t c275 hF
          refine xy_r (xw_aload_n dM_literal_76 rfl) ?_
          refine xy_r (xw_aload_n dM_literal_77 rfl) ?_
          obtain ⟨g276, hF⟩ := xg_g hF
          refine xy_r (xw_get dM_literal_78 fM_201 (mV_n g276) rfl) ?_
          refine xy_r (xw_lneg dM_literal_81) ?_
          refine xy_r (xg_put dM_literal_82 fM_201 (mV_n g276) (xn_le _) (Nat.le_of_ble_eq_true rfl) (fun _ => rfl) (fun _ => rfl) (mV_pn (q := (nNumber (r267.2.2.2.1.2.2.2.2.2.1 i270) (-(r267.2.2.2.1.2.2.2.2.2.1 i270).1.2.2.2))) g276)) ?_
          refine xy_r (xw_aload_n dM_literal_85 rfl) ?_
          refine xy_r (xw_iconst (1) dM_literal_86 (by decide)) ?_
          refine xy_r (xg_put dM_literal_87 fM_195 (mV_n g276) (xn_le _) (Nat.le_of_ble_eq_true rfl) (fun _ => rfl) (fun _ => rfl) (mV_pn (q := (nA ((va_up r267.2.2.2.1.2.2.2.2.2.1 i270 (nNumber (r267.2.2.2.1.2.2.2.2.2.1 i270) (-(r267.2.2.2.1.2.2.2.2.2.1 i270).1.2.2.2))) i270) 1)) g276)) ?_
          refine xy_r (xw_aload_n dM_literal_90 rfl) ?_
          obtain rfl := Option.some.inj hF
          exact xy_end (xw_areturn dM_literal_91 rfl (Or.inl ⟨_, rfl⟩) (Nat.le_refl _) (Nat.le_refl _) ⟨rfl, rfl⟩)
    · subst hF
      exact xy_Vt (sm := s.2.2.1.2.2.2.2.2.2.1) (sn := s.2.2.1.2.2.2.2.2.2.2) (tm := r267.2.2.2.1.2.2.2.2.2.2.1) (tn := r267.2.2.2.1.2.2.2.2.2.2.2) (CM_constant hb er267) rfl rfl hm (fun _ => rfl) (fun _ => rfl) (fun _ => rfl) (fun _ => dM_literal_56) (fun _ R => kM_359 R) (fun _ => rfl) ⟨(Nat.le_of_ble_eq_true rfl), (Nat.le_of_ble_eq_true rfl)⟩ rfl rfl rfl (fun _ => rfl) (Nat.le_of_ble_eq_true rfl) ⟨rfl, rfl⟩
  · replace hF := xg_t c266 hF
    refine xy_r (xw_aload_n dM_literal_23 rfl) ?_
    refine xy_r (xw_dup_r dM_literal_24) ?_
    refine xy_r (xw_get dM_literal_25 fM_221 rfl rfl) ?_
    refine xy_r (xw_iconst (1) dM_literal_28 (by decide)) ?_
    refine xy_r (xw_iadd dM_literal_29) ?_
    refine xy_r (xg_put dM_literal_30 fM_221 rfl (by decide) (Nat.le_of_ble_eq_true rfl) (fun _ => rfl) (fun _ => rfl) (mV_o (s' := (s.1, (s.2.1.1, (s.2.1.2.1 + 1), s.2.1.2.2), s.2.2)) rfl)) ?_
    refine xy_r (xw_aload_n dM_literal_33 rfl) ?_
    obtain ⟨r277, er277, hF⟩ := xg_b hF
    have hm278 : m0 ≤ r277.2.2.1.2.2.2.2.2.2.1 ∧ n0 ≤ r277.2.2.1.2.2.2.2.2.2.2 := xy_le hm (show s.2.2.1.2.2.2.2.2.2.1 ≤ r277.2.2.1.2.2.2.2.2.2.1 ∧ s.2.2.1.2.2.2.2.2.2.2 ≤ r277.2.2.1.2.2.2.2.2.2.2 from (CM_blanks (w := w) (h := h) hb er277).1)
    refine xy_V0 (sm := s.2.2.1.2.2.2.2.2.2.1) (sn := s.2.2.1.2.2.2.2.2.2.2) (tm := r277.2.2.1.2.2.2.2.2.2.1) (tn := r277.2.2.1.2.2.2.2.2.2.2) (CM_blanks hb er277) rfl rfl hm (fun _ => rfl) (fun _ => rfl) (fun _ => rfl) (fun _ => dM_literal_34) (fun _ R => kM_233 R) (fun _ => rfl) ⟨(Nat.le_of_ble_eq_true rfl), (Nat.le_of_ble_eq_true rfl)⟩ rfl rfl rfl (fun _ => rfl) (Nat.le_of_ble_eq_true rfl) ?_
    refine xy_r (xw_aload_n dM_literal_37 rfl) ?_
    obtain ⟨r280, er280, hF⟩ := xg_b hF
    refine xy_q (fun hq => xg_V1 (k1 := _) (n1 := _) (CM_peek er280) rfl rfl rfl dM_literal_38 (kM_230 _) ⟨Nat.le_of_ble_eq_true rfl, Nat.le_of_ble_eq_true rfl⟩ rfl rfl rfl rfl (Nat.le_of_ble_eq_true rfl) (Nat.le_refl _) (Nat.le_refl _) (Nat.sub_le_sub_right hq.1 _) (Nat.sub_le_sub_right hq.2 _)) ?_
    refine xy_q (fun hq => xg_S1 (k1 := _) (n1 := _) (cM_digit w) rfl rfl rfl dM_literal_41 (kM_295 _) ⟨Nat.le_of_ble_eq_true rfl, Nat.le_of_ble_eq_true rfl⟩ rfl rfl (Nat.le_of_ble_eq_true rfl) (Nat.le_refl _) (Nat.le_refl _) (Nat.sub_le_sub_right hq.1 _) (Nat.sub_le_sub_right hq.2 _)) ?_
    refine xy_brn (xw_if_ne 55 dM_literal_44 (by decide)) (fun c281 => ?_) (fun c281 => ?_)
    · replace hF := xg_f c281 hF
      refine xy_r (xw_aload_n dM_literal_55 rfl) ?_
      rcases xg_o hF with ⟨r282, er282, hF⟩ | ⟨r282, er282, hF⟩
      · have hm283 : m0 ≤ r282.2.2.2.1.2.2.2.2.2.2.1 ∧ n0 ≤ r282.2.2.2.1.2.2.2.2.2.2.2 := xy_le hm278 (show r277.2.2.1.2.2.2.2.2.2.1 ≤ r282.2.2.2.1.2.2.2.2.2.2.1 ∧ r277.2.2.1.2.2.2.2.2.2.2 ≤ r282.2.2.2.1.2.2.2.2.2.2.2 from (CM_constant (w := w) (h := h) hb er282).1)
        refine xy_V1 (sm := r277.2.2.1.2.2.2.2.2.2.1) (sn := r277.2.2.1.2.2.2.2.2.2.2) (tm := r282.2.2.2.1.2.2.2.2.2.2.1) (tn := r282.2.2.2.1.2.2.2.2.2.2.2) (CM_constant hb er282) rfl rfl hm278 (fun _ => rfl) (fun _ => rfl) (fun _ => rfl) (fun _ => dM_literal_56) (fun _ R => kM_359 R) (fun _ => rfl) ⟨(Nat.le_of_ble_eq_true rfl), (Nat.le_of_ble_eq_true rfl)⟩ rfl rfl rfl (fun _ => rfl) (Nat.le_of_ble_eq_true rfl) ?_
        refine xy_r (xg_astore_n dM_literal_59 (Nat.le_of_ble_eq_true rfl)) ?_
        refine xy_r (xw_Ln (L' := [some (.ref 2000), some (.int (xb t0)), some (xw_rf r282.1)]) rfl) ?_
        refine xy_r (xg_aload_n dM_literal_60 rfl) ?_
        rcases xg_m hF with ⟨ei285, hF⟩ | ⟨i285, ei285, hF⟩
        · refine xy_r (xw_Ln (L' := [some (.ref 2000), some (.int (xb t0)), some (.null)]) (by first | (rw [ei285]; done) | (rw [ei285]; rfl))) ?_
          refine xy_r (xw_Sn (st' := [.null]) (by first | (rw [ei285]; done) | (rw [ei285]; rfl))) ?_
          refine xy_r (xw_ifnonnull_n dM_literal_61) ?_
          refine xy_r (xw_aload_n dM_literal_64 rfl) ?_
          refine xy_r (xw_aload_n dM_literal_65 rfl) ?_
          refine xy_r (xw_get dM_literal_66 fM_221 rfl rfl) ?_
          rcases xg_o hF with ⟨r286, er286, hF⟩ | ⟨r286, er286, hF⟩
          · have hm287 : m0 ≤ r286.2.2.2.1.2.2.2.2.2.2.1 ∧ n0 ≤ r286.2.2.2.1.2.2.2.2.2.2.2 := xy_le hm283 (show r282.2.2.2.1.2.2.2.2.2.2.1 ≤ r286.2.2.2.1.2.2.2.2.2.2.1 ∧ r282.2.2.2.1.2.2.2.2.2.2.2 ≤ r286.2.2.2.1.2.2.2.2.2.2.2 from (CM_bad (w := w) (h := h) hb er286).1)
            refine xy_V0 (sm := r282.2.2.2.1.2.2.2.2.2.2.1) (sn := r282.2.2.2.1.2.2.2.2.2.2.2) (tm := r286.2.2.2.1.2.2.2.2.2.2.1) (tn := r286.2.2.2.1.2.2.2.2.2.2.2) (CM_bad hb er286) rfl rfl hm283 (fun _ => rfl) (fun _ => rfl) (fun _ => rfl) (fun _ => dM_literal_69) (fun _ R => kM_239 R) (fun _ => rfl) ⟨(Nat.le_of_ble_eq_true rfl), (Nat.le_of_ble_eq_true rfl)⟩ rfl rfl rfl (fun _ => rfl) (Nat.le_of_ble_eq_true rfl) ?_
            refine xy_r (xw_iload_n dM_literal_72 rfl) ?_
            refine xy_brn (xw_if_eqB 90 dM_literal_73 (by decide)) (fun c289 => ?_) (fun c289 => ?_)
            · replace hF := xg_f c289 hF
              refine xy_r (xw_aload_nN dM_literal_90 rfl) ?_
              cases hF
            · replace hF := xg_t c289 hF
              refine xy_r (xw_aload_nN dM_literal_76 rfl) ?_
              refine xy_r (xw_aload_nN dM_literal_77 rfl) ?_
              cases hF
          · subst hF
            exact xy_Vt (sm := r282.2.2.2.1.2.2.2.2.2.2.1) (sn := r282.2.2.2.1.2.2.2.2.2.2.2) (tm := r286.2.2.2.1.2.2.2.2.2.2.1) (tn := r286.2.2.2.1.2.2.2.2.2.2.2) (CM_bad hb er286) rfl rfl hm283 (fun _ => rfl) (fun _ => rfl) (fun _ => rfl) (fun _ => dM_literal_69) (fun _ R => kM_239 R) (fun _ => rfl) ⟨(Nat.le_of_ble_eq_true rfl), (Nat.le_of_ble_eq_true rfl)⟩ rfl rfl rfl (fun _ => rfl) (Nat.le_of_ble_eq_true rfl) ⟨rfl, rfl⟩
        · refine xy_r (xw_Ln (L' := [some (.ref 2000), some (.int (xb t0)), some (.ref (xn i285))]) (by first | (rw [ei285]; done) | (rw [ei285]; rfl))) ?_
          refine xy_r (xw_Sn (st' := [.ref (xn i285)]) (by first | (rw [ei285]; done) | (rw [ei285]; rfl))) ?_
          refine xy_r (xw_ifnonnull_r 72 dM_literal_61 (by decide)) ?_
          refine xy_r (xw_iload_n dM_literal_72 rfl) ?_
          refine xy_brn (xw_if_eqB 90 dM_literal_73 (by decide)) (fun c290 => ?_) (fun c290 => ?_)
          · replace hF := xg_f c290 hF
            refine xy_r (xw_aload_n dM_literal_90 rfl) ?_
            obtain rfl := Option.some.inj hF
            exact xy_end (xw_areturn dM_literal_91 rfl (Or.inl ⟨_, rfl⟩) (Nat.le_refl _) (Nat.le_refl _) ⟨rfl, rfl⟩)
          · replace hF := xg_t c290 hF
            refine xy_r (xw_aload_n dM_literal_76 rfl) ?_
            refine xy_r (xw_aload_n dM_literal_77 rfl) ?_
            obtain ⟨g291, hF⟩ := xg_g hF
            refine xy_r (xw_get dM_literal_78 fM_201 (mV_n g291) rfl) ?_
            refine xy_r (xw_lneg dM_literal_81) ?_
            refine xy_r (xg_put dM_literal_82 fM_201 (mV_n g291) (xn_le _) (Nat.le_of_ble_eq_true rfl) (fun _ => rfl) (fun _ => rfl) (mV_pn (q := (nNumber (r282.2.2.2.1.2.2.2.2.2.1 i285) (-(r282.2.2.2.1.2.2.2.2.2.1 i285).1.2.2.2))) g291)) ?_
            refine xy_r (xw_aload_n dM_literal_85 rfl) ?_
            refine xy_r (xw_iconst (1) dM_literal_86 (by decide)) ?_
            refine xy_r (xg_put dM_literal_87 fM_195 (mV_n g291) (xn_le _) (Nat.le_of_ble_eq_true rfl) (fun _ => rfl) (fun _ => rfl) (mV_pn (q := (nA ((va_up r282.2.2.2.1.2.2.2.2.2.1 i285 (nNumber (r282.2.2.2.1.2.2.2.2.2.1 i285) (-(r282.2.2.2.1.2.2.2.2.2.1 i285).1.2.2.2))) i285) 1)) g291)) ?_
            refine xy_r (xw_aload_n dM_literal_90 rfl) ?_
            obtain rfl := Option.some.inj hF
            exact xy_end (xw_areturn dM_literal_91 rfl (Or.inl ⟨_, rfl⟩) (Nat.le_refl _) (Nat.le_refl _) ⟨rfl, rfl⟩)
      · subst hF
        exact xy_Vt (sm := r277.2.2.1.2.2.2.2.2.2.1) (sn := r277.2.2.1.2.2.2.2.2.2.2) (tm := r282.2.2.2.1.2.2.2.2.2.2.1) (tn := r282.2.2.2.1.2.2.2.2.2.2.2) (CM_constant hb er282) rfl rfl hm278 (fun _ => rfl) (fun _ => rfl) (fun _ => rfl) (fun _ => dM_literal_56) (fun _ R => kM_359 R) (fun _ => rfl) ⟨(Nat.le_of_ble_eq_true rfl), (Nat.le_of_ble_eq_true rfl)⟩ rfl rfl rfl (fun _ => rfl) (Nat.le_of_ble_eq_true rfl) ⟨rfl, rfl⟩
    · replace hF := xg_t c281 hF
      refine xy_r (xw_aload_n dM_literal_47 rfl) ?_
      refine xy_r (xw_aload_n dM_literal_48 rfl) ?_
      refine xy_r (xw_get dM_literal_49 fM_221 rfl rfl) ?_
      rcases xg_o hF with ⟨r292, er292, hF⟩ | ⟨r292, er292, hF⟩
      · have hm293 : m0 ≤ r292.2.2.2.1.2.2.2.2.2.2.1 ∧ n0 ≤ r292.2.2.2.1.2.2.2.2.2.2.2 := xy_le hm278 (show r277.2.2.1.2.2.2.2.2.2.1 ≤ r292.2.2.2.1.2.2.2.2.2.2.1 ∧ r277.2.2.1.2.2.2.2.2.2.2 ≤ r292.2.2.2.1.2.2.2.2.2.2.2 from (CM_bad (w := w) (h := h) hb er292).1)
        refine xy_V0 (sm := r277.2.2.1.2.2.2.2.2.2.1) (sn := r277.2.2.1.2.2.2.2.2.2.2) (tm := r292.2.2.2.1.2.2.2.2.2.2.1) (tn := r292.2.2.2.1.2.2.2.2.2.2.2) (CM_bad hb er292) rfl rfl hm278 (fun _ => rfl) (fun _ => rfl) (fun _ => rfl) (fun _ => dM_literal_52) (fun _ R => kM_239 R) (fun _ => rfl) ⟨(Nat.le_of_ble_eq_true rfl), (Nat.le_of_ble_eq_true rfl)⟩ rfl rfl rfl (fun _ => rfl) (Nat.le_of_ble_eq_true rfl) ?_
        refine xy_r (xw_aload_n dM_literal_55 rfl) ?_
        rcases xg_o hF with ⟨r295, er295, hF⟩ | ⟨r295, er295, hF⟩
        · have hm296 : m0 ≤ r295.2.2.2.1.2.2.2.2.2.2.1 ∧ n0 ≤ r295.2.2.2.1.2.2.2.2.2.2.2 := xy_le hm293 (show r292.2.2.2.1.2.2.2.2.2.2.1 ≤ r295.2.2.2.1.2.2.2.2.2.2.1 ∧ r292.2.2.2.1.2.2.2.2.2.2.2 ≤ r295.2.2.2.1.2.2.2.2.2.2.2 from (CM_constant (w := w) (h := h) hb er295).1)
          refine xy_V1 (sm := r292.2.2.2.1.2.2.2.2.2.2.1) (sn := r292.2.2.2.1.2.2.2.2.2.2.2) (tm := r295.2.2.2.1.2.2.2.2.2.2.1) (tn := r295.2.2.2.1.2.2.2.2.2.2.2) (CM_constant hb er295) rfl rfl hm293 (fun _ => rfl) (fun _ => rfl) (fun _ => rfl) (fun _ => dM_literal_56) (fun _ R => kM_359 R) (fun _ => rfl) ⟨(Nat.le_of_ble_eq_true rfl), (Nat.le_of_ble_eq_true rfl)⟩ rfl rfl rfl (fun _ => rfl) (Nat.le_of_ble_eq_true rfl) ?_
          refine xy_r (xg_astore_n dM_literal_59 (Nat.le_of_ble_eq_true rfl)) ?_
          refine xy_r (xw_Ln (L' := [some (.ref 2000), some (.int (xb t0)), some (xw_rf r295.1)]) rfl) ?_
          refine xy_r (xg_aload_n dM_literal_60 rfl) ?_
          rcases xg_m hF with ⟨ei298, hF⟩ | ⟨i298, ei298, hF⟩
          · refine xy_r (xw_Ln (L' := [some (.ref 2000), some (.int (xb t0)), some (.null)]) (by first | (rw [ei298]; done) | (rw [ei298]; rfl))) ?_
            refine xy_r (xw_Sn (st' := [.null]) (by first | (rw [ei298]; done) | (rw [ei298]; rfl))) ?_
            refine xy_r (xw_ifnonnull_n dM_literal_61) ?_
            refine xy_r (xw_aload_n dM_literal_64 rfl) ?_
            refine xy_r (xw_aload_n dM_literal_65 rfl) ?_
            refine xy_r (xw_get dM_literal_66 fM_221 rfl rfl) ?_
            rcases xg_o hF with ⟨r299, er299, hF⟩ | ⟨r299, er299, hF⟩
            · have hm300 : m0 ≤ r299.2.2.2.1.2.2.2.2.2.2.1 ∧ n0 ≤ r299.2.2.2.1.2.2.2.2.2.2.2 := xy_le hm296 (show r295.2.2.2.1.2.2.2.2.2.2.1 ≤ r299.2.2.2.1.2.2.2.2.2.2.1 ∧ r295.2.2.2.1.2.2.2.2.2.2.2 ≤ r299.2.2.2.1.2.2.2.2.2.2.2 from (CM_bad (w := w) (h := h) hb er299).1)
              refine xy_V0 (sm := r295.2.2.2.1.2.2.2.2.2.2.1) (sn := r295.2.2.2.1.2.2.2.2.2.2.2) (tm := r299.2.2.2.1.2.2.2.2.2.2.1) (tn := r299.2.2.2.1.2.2.2.2.2.2.2) (CM_bad hb er299) rfl rfl hm296 (fun _ => rfl) (fun _ => rfl) (fun _ => rfl) (fun _ => dM_literal_69) (fun _ R => kM_239 R) (fun _ => rfl) ⟨(Nat.le_of_ble_eq_true rfl), (Nat.le_of_ble_eq_true rfl)⟩ rfl rfl rfl (fun _ => rfl) (Nat.le_of_ble_eq_true rfl) ?_
              refine xy_r (xw_iload_n dM_literal_72 rfl) ?_
              refine xy_brn (xw_if_eqB 90 dM_literal_73 (by decide)) (fun c302 => ?_) (fun c302 => ?_)
              · replace hF := xg_f c302 hF
                refine xy_r (xw_aload_nN dM_literal_90 rfl) ?_
                cases hF
              · replace hF := xg_t c302 hF
                refine xy_r (xw_aload_nN dM_literal_76 rfl) ?_
                refine xy_r (xw_aload_nN dM_literal_77 rfl) ?_
                cases hF
            · subst hF
              exact xy_Vt (sm := r295.2.2.2.1.2.2.2.2.2.2.1) (sn := r295.2.2.2.1.2.2.2.2.2.2.2) (tm := r299.2.2.2.1.2.2.2.2.2.2.1) (tn := r299.2.2.2.1.2.2.2.2.2.2.2) (CM_bad hb er299) rfl rfl hm296 (fun _ => rfl) (fun _ => rfl) (fun _ => rfl) (fun _ => dM_literal_69) (fun _ R => kM_239 R) (fun _ => rfl) ⟨(Nat.le_of_ble_eq_true rfl), (Nat.le_of_ble_eq_true rfl)⟩ rfl rfl rfl (fun _ => rfl) (Nat.le_of_ble_eq_true rfl) ⟨rfl, rfl⟩
          · refine xy_r (xw_Ln (L' := [some (.ref 2000), some (.int (xb t0)), some (.ref (xn i298))]) (by first | (rw [ei298]; done) | (rw [ei298]; rfl))) ?_
            refine xy_r (xw_Sn (st' := [.ref (xn i298)]) (by first | (rw [ei298]; done) | (rw [ei298]; rfl))) ?_
            refine xy_r (xw_ifnonnull_r 72 dM_literal_61 (by decide)) ?_
            refine xy_r (xw_iload_n dM_literal_72 rfl) ?_
            refine xy_brn (xw_if_eqB 90 dM_literal_73 (by decide)) (fun c303 => ?_) (fun c303 => ?_)
            · replace hF := xg_f c303 hF
              refine xy_r (xw_aload_n dM_literal_90 rfl) ?_
              obtain rfl := Option.some.inj hF
              exact xy_end (xw_areturn dM_literal_91 rfl (Or.inl ⟨_, rfl⟩) (Nat.le_refl _) (Nat.le_refl _) ⟨rfl, rfl⟩)
            · replace hF := xg_t c303 hF
              refine xy_r (xw_aload_n dM_literal_76 rfl) ?_
              refine xy_r (xw_aload_n dM_literal_77 rfl) ?_
              obtain ⟨g304, hF⟩ := xg_g hF
              refine xy_r (xw_get dM_literal_78 fM_201 (mV_n g304) rfl) ?_
              refine xy_r (xw_lneg dM_literal_81) ?_
              refine xy_r (xg_put dM_literal_82 fM_201 (mV_n g304) (xn_le _) (Nat.le_of_ble_eq_true rfl) (fun _ => rfl) (fun _ => rfl) (mV_pn (q := (nNumber (r295.2.2.2.1.2.2.2.2.2.1 i298) (-(r295.2.2.2.1.2.2.2.2.2.1 i298).1.2.2.2))) g304)) ?_
              refine xy_r (xw_aload_n dM_literal_85 rfl) ?_
              refine xy_r (xw_iconst (1) dM_literal_86 (by decide)) ?_
              refine xy_r (xg_put dM_literal_87 fM_195 (mV_n g304) (xn_le _) (Nat.le_of_ble_eq_true rfl) (fun _ => rfl) (fun _ => rfl) (mV_pn (q := (nA ((va_up r295.2.2.2.1.2.2.2.2.2.1 i298 (nNumber (r295.2.2.2.1.2.2.2.2.2.1 i298) (-(r295.2.2.2.1.2.2.2.2.2.1 i298).1.2.2.2))) i298) 1)) g304)) ?_
              refine xy_r (xw_aload_n dM_literal_90 rfl) ?_
              obtain rfl := Option.some.inj hF
              exact xy_end (xw_areturn dM_literal_91 rfl (Or.inl ⟨_, rfl⟩) (Nat.le_refl _) (Nat.le_refl _) ⟨rfl, rfl⟩)
        · subst hF
          exact xy_Vt (sm := r292.2.2.2.1.2.2.2.2.2.2.1) (sn := r292.2.2.2.1.2.2.2.2.2.2.2) (tm := r295.2.2.2.1.2.2.2.2.2.2.1) (tn := r295.2.2.2.1.2.2.2.2.2.2.2) (CM_constant hb er295) rfl rfl hm293 (fun _ => rfl) (fun _ => rfl) (fun _ => rfl) (fun _ => dM_literal_56) (fun _ R => kM_359 R) (fun _ => rfl) ⟨(Nat.le_of_ble_eq_true rfl), (Nat.le_of_ble_eq_true rfl)⟩ rfl rfl rfl (fun _ => rfl) (Nat.le_of_ble_eq_true rfl) ⟨rfl, rfl⟩
      · subst hF
        exact xy_Vt (sm := r277.2.2.1.2.2.2.2.2.2.1) (sn := r277.2.2.1.2.2.2.2.2.2.2) (tm := r292.2.2.2.1.2.2.2.2.2.2.1) (tn := r292.2.2.2.1.2.2.2.2.2.2.2) (CM_bad hb er292) rfl rfl hm278 (fun _ => rfl) (fun _ => rfl) (fun _ => rfl) (fun _ => dM_literal_52) (fun _ R => kM_239 R) (fun _ => rfl) ⟨(Nat.le_of_ble_eq_true rfl), (Nat.le_of_ble_eq_true rfl)⟩ rfl rfl rfl (fun _ => rfl) (Nat.le_of_ble_eq_true rfl) ⟨rfl, rfl⟩
set_option maxRecDepth 20000 in
theorem CM_literal {w : xw_G} {h : xw_H} (hb : xMb h)  {s : xMs} {out : (xo Nat xMs)} (hF : FM_literal  s = some out) : (s.2.2.1.2.2.2.2.2.2.1 ≤ (xo_s out).2.2.1.2.2.2.2.2.2.1 ∧ s.2.2.1.2.2.2.2.2.2.2 ≤ (xo_s out).2.2.1.2.2.2.2.2.2.2) ∧ xw_C w (mM_literal { frames := 9, cells := (xo_s out).2.2.1.2.2.2.2.2.2.1 - s.2.2.1.2.2.2.2.2.2.1, slots := (xo_s out).2.2.1.2.2.2.2.2.2.2 - s.2.2.1.2.2.2.2.2.2.2, locals := 171 }) (xo_P (fun x => some (.ref (xn x))) (fun s => mV s h) out) [.ref 2000] (mV s h) := by
  unfold FM_literal at hF
  refine xy_enter (L := [some (.ref 2000), none, none]) (fun _ => rfl) (fun _ => rfl) (fun _ => (show plainName "FormulaShaperModel" = true by decide +kernel)) (fun _ => (Nat.le_of_ble_eq_true rfl)) (fun _ => rfl) ?_
  have hm : s.2.2.1.2.2.2.2.2.2.1 ≤ s.2.2.1.2.2.2.2.2.2.1 ∧ s.2.2.1.2.2.2.2.2.2.2 ≤ s.2.2.1.2.2.2.2.2.2.2 := ⟨Nat.le_refl _, Nat.le_refl _⟩
  refine xy_r (xw_aload_n dM_literal_0 rfl) ?_
  obtain ⟨r261, er261, hF⟩ := xg_b hF
  have hm262 : s.2.2.1.2.2.2.2.2.2.1 ≤ r261.2.2.1.2.2.2.2.2.2.1 ∧ s.2.2.1.2.2.2.2.2.2.2 ≤ r261.2.2.1.2.2.2.2.2.2.2 := xy_le hm (show s.2.2.1.2.2.2.2.2.2.1 ≤ r261.2.2.1.2.2.2.2.2.2.1 ∧ s.2.2.1.2.2.2.2.2.2.2 ≤ r261.2.2.1.2.2.2.2.2.2.2 from (CM_blanks (w := w) (h := h) hb er261).1)
  refine xy_V0 (sm := s.2.2.1.2.2.2.2.2.2.1) (sn := s.2.2.1.2.2.2.2.2.2.2) (tm := r261.2.2.1.2.2.2.2.2.2.1) (tn := r261.2.2.1.2.2.2.2.2.2.2) (CM_blanks hb er261) rfl rfl hm (fun _ => rfl) (fun _ => rfl) (fun _ => rfl) (fun _ => dM_literal_1) (fun _ R => kM_233 R) (fun _ => rfl) ⟨(Nat.le_of_ble_eq_true rfl), (Nat.le_of_ble_eq_true rfl)⟩ rfl rfl rfl (fun _ => rfl) (Nat.le_of_ble_eq_true rfl) ?_
  refine xy_r (xw_aload_n dM_literal_4 rfl) ?_
  obtain ⟨r264, er264, hF⟩ := xg_b hF
  refine xy_q (fun hq => xg_V1 (k1 := _) (n1 := _) (CM_peek er264) rfl rfl rfl dM_literal_5 (kM_230 _) ⟨Nat.le_of_ble_eq_true rfl, Nat.le_of_ble_eq_true rfl⟩ rfl rfl rfl rfl (Nat.le_of_ble_eq_true rfl) (Nat.le_refl _) (Nat.le_refl _) (Nat.sub_le_sub_right hq.1 _) (Nat.sub_le_sub_right hq.2 _)) ?_
  refine xy_r (xw_bipush (45) dM_literal_8 (by decide)) ?_
  refine xy_brn (xw_icmp_ne 17 dM_literal_10 (by decide)) (fun c265 => ?_) (fun c265 => ?_)
  · replace hF := xg_f c265 hF
    refine xy_r (xw_iconst (0) dM_literal_17 (by decide)) ?_
    exact CM_literal_18 hb hm262 hF
  · replace hF := xg_t c265 hF
    refine xy_r (xw_iconst (1) dM_literal_13 (by decide)) ?_
    refine xy_r (xw_goto 18 dM_literal_14 (by decide)) ?_
    exact CM_literal_18 hb hm262 hF
def FM_rows_L : Nat → (Nat → Int32 → xMs → Option (xo Nat xMs)) × (Nat → Int32 → Int32 → xMs → Option (xo Nat xMs))
  | 0 => (fun _ _ _ => none, fun _ _ _ _ => none)
  | fu + 1 => (fun l1 l2 s => xo_b (FM_literal s) fun r311 => if l1 < r311.2.2.2.1.2.2.2.2.1 then ((FN_add l1 r311.1 r311.2).bind fun r315 => FM_rows_23 fu l1 l2 1 r315) else none, fun l1 l2 l3 s => (FM_next 44 s).bind fun r318 => if r318.1 = true then (if l1 < r318.2.2.2.1.2.2.2.2.1 then (if (r318.2.2.2.1.2.2.2.2.2.1 l1).1.2.1 ≤ 0 then (xo_b (FM_literal (r318.2.1, (r318.2.2.1.1, (r318.2.2.1.2.1 + 1), r318.2.2.1.2.2), r318.2.2.2)) fun r424 => if l1 < r424.2.2.2.1.2.2.2.2.1 then ((FN_add l1 r424.1 r424.2).bind fun r428 => FM_rows_23 fu l1 l2 (l3 + 1) r428) else none) else (if l3 = l2 then (xo_b (FM_bad r318.2.2.1.2.1 r318.2) fun r439 => xo_b (FM_literal (r439.2.1, (r439.2.2.1.1, (r439.2.2.1.2.1 + 1), r439.2.2.1.2.2), r439.2.2.2)) fun r442 => if l1 < r442.2.2.2.1.2.2.2.2.1 then ((FN_add l1 r442.1 r442.2).bind fun r446 => FM_rows_23 fu l1 l2 (l3 + 1) r446) else none) else (xo_b (FM_literal (r318.2.1, (r318.2.2.1.1, (r318.2.2.1.2.1 + 1), r318.2.2.1.2.2), r318.2.2.2)) fun r432 => if l1 < r432.2.2.2.1.2.2.2.2.1 then ((FN_add l1 r432.1 r432.2).bind fun r436 => FM_rows_23 fu l1 l2 (l3 + 1) r436) else none))) else none) else (if l1 < r318.2.2.2.1.2.2.2.2.1 then (if (r318.2.2.2.1.2.2.2.2.2.1 l1).1.2.1 ≤ 0 then (if (r318.2.2.2.1.2.2.2.2.2.1 l1).1.2.1 = 0 then ((FM_next 59 (r318.2.1, r318.2.2.1, (r318.2.2.2.1.1, r318.2.2.2.1.2.1, r318.2.2.2.1.2.2.1, r318.2.2.2.1.2.2.2.1, r318.2.2.2.1.2.2.2.2.1, (va_up r318.2.2.2.1.2.2.2.2.2.1 l1 (nA (r318.2.2.2.1.2.2.2.2.2.1 l1) ((r318.2.2.2.1.2.2.2.2.2.1 l1).1.2.1 + 1))), r318.2.2.2.1.2.2.2.2.2.2), r318.2.2.2.2)).bind fun r333 => if r333.1 = true then (FM_rows_13 fu l1 l3 (r333.2.1, (r333.2.2.1.1, (r333.2.2.1.2.1 + 1), r333.2.2.1.2.2), r333.2.2.2)) else (if l1 < r333.2.2.2.1.2.2.2.2.1 then (xo_b (FM_close 125 (r333.2.1, r333.2.2.1, (r333.2.2.2.1.1, r333.2.2.2.1.2.1, r333.2.2.2.1.2.2.1, r333.2.2.2.1.2.2.2.1, r333.2.2.2.1.2.2.2.2.1, (va_up r333.2.2.2.1.2.2.2.2.2.1 l1 (nB (r333.2.2.2.1.2.2.2.2.2.1 l1) l3)), r333.2.2.2.1.2.2.2.2.2.2), r333.2.2.2.2)) fun r338 => some (.inl (l1, r338.2))) else none)) else ((FM_next 59 (r318.2.1, r318.2.2.1, (r318.2.2.2.1.1, r318.2.2.2.1.2.1, r318.2.2.2.1.2.2.1, r318.2.2.2.1.2.2.2.1, r318.2.2.2.1.2.2.2.2.1, (va_up r318.2.2.2.1.2.2.2.2.2.1 l1 (nA (r318.2.2.2.1.2.2.2.2.2.1 l1) ((r318.2.2.2.1.2.2.2.2.2.1 l1).1.2.1 + 1))), r318.2.2.2.1.2.2.2.2.2.2), r318.2.2.2.2)).bind fun r325 => if r325.1 = true then (FM_rows_13 fu l1 l2 (r325.2.1, (r325.2.2.1.1, (r325.2.2.1.2.1 + 1), r325.2.2.1.2.2), r325.2.2.2)) else (if l1 < r325.2.2.2.1.2.2.2.2.1 then (xo_b (FM_close 125 (r325.2.1, r325.2.2.1, (r325.2.2.2.1.1, r325.2.2.2.1.2.1, r325.2.2.2.1.2.2.1, r325.2.2.2.1.2.2.2.1, r325.2.2.2.1.2.2.2.2.1, (va_up r325.2.2.2.1.2.2.2.2.2.1 l1 (nB (r325.2.2.2.1.2.2.2.2.2.1 l1) l2)), r325.2.2.2.1.2.2.2.2.2.2), r325.2.2.2.2)) fun r330 => some (.inl (l1, r330.2))) else none))) else (if l2 ≤ l3 then (if (r318.2.2.2.1.2.2.2.2.2.1 l1).1.2.1 = 0 then ((FM_next 59 (r318.2.1, r318.2.2.1, (r318.2.2.2.1.1, r318.2.2.2.1.2.1, r318.2.2.2.1.2.2.1, r318.2.2.2.1.2.2.2.1, r318.2.2.2.1.2.2.2.2.1, (va_up r318.2.2.2.1.2.2.2.2.2.1 l1 (nA (r318.2.2.2.1.2.2.2.2.2.1 l1) ((r318.2.2.2.1.2.2.2.2.2.1 l1).1.2.1 + 1))), r318.2.2.2.1.2.2.2.2.2.2), r318.2.2.2.2)).bind fun r351 => if r351.1 = true then (FM_rows_13 fu l1 l3 (r351.2.1, (r351.2.2.1.1, (r351.2.2.1.2.1 + 1), r351.2.2.1.2.2), r351.2.2.2)) else (if l1 < r351.2.2.2.1.2.2.2.2.1 then (xo_b (FM_close 125 (r351.2.1, r351.2.2.1, (r351.2.2.2.1.1, r351.2.2.2.1.2.1, r351.2.2.2.1.2.2.1, r351.2.2.2.1.2.2.2.1, r351.2.2.2.1.2.2.2.2.1, (va_up r351.2.2.2.1.2.2.2.2.2.1 l1 (nB (r351.2.2.2.1.2.2.2.2.2.1 l1) l3)), r351.2.2.2.1.2.2.2.2.2.2), r351.2.2.2.2)) fun r356 => some (.inl (l1, r356.2))) else none)) else ((FM_next 59 (r318.2.1, r318.2.2.1, (r318.2.2.2.1.1, r318.2.2.2.1.2.1, r318.2.2.2.1.2.2.1, r318.2.2.2.1.2.2.2.1, r318.2.2.2.1.2.2.2.2.1, (va_up r318.2.2.2.1.2.2.2.2.2.1 l1 (nA (r318.2.2.2.1.2.2.2.2.2.1 l1) ((r318.2.2.2.1.2.2.2.2.2.1 l1).1.2.1 + 1))), r318.2.2.2.1.2.2.2.2.2.2), r318.2.2.2.2)).bind fun r343 => if r343.1 = true then (FM_rows_13 fu l1 l2 (r343.2.1, (r343.2.2.1.1, (r343.2.2.1.2.1 + 1), r343.2.2.1.2.2), r343.2.2.2)) else (if l1 < r343.2.2.2.1.2.2.2.2.1 then (xo_b (FM_close 125 (r343.2.1, r343.2.2.1, (r343.2.2.2.1.1, r343.2.2.2.1.2.1, r343.2.2.2.1.2.2.1, r343.2.2.2.1.2.2.2.1, r343.2.2.2.1.2.2.2.2.1, (va_up r343.2.2.2.1.2.2.2.2.2.1 l1 (nB (r343.2.2.2.1.2.2.2.2.2.1 l1) l2)), r343.2.2.2.1.2.2.2.2.2.2), r343.2.2.2.2)) fun r348 => some (.inl (l1, r348.2))) else none))) else ((FM_peek r318.2).bind fun r359 => if r359 = 59 then (xo_b (FM_bad r318.2.2.1.2.1 r318.2) fun r361 => if l1 < r361.2.2.2.1.2.2.2.2.1 then (if (r361.2.2.2.1.2.2.2.2.2.1 l1).1.2.1 = 0 then ((FM_next 59 (r361.2.1, r361.2.2.1, (r361.2.2.2.1.1, r361.2.2.2.1.2.1, r361.2.2.2.1.2.2.1, r361.2.2.2.1.2.2.2.1, r361.2.2.2.1.2.2.2.2.1, (va_up r361.2.2.2.1.2.2.2.2.2.1 l1 (nA (r361.2.2.2.1.2.2.2.2.2.1 l1) ((r361.2.2.2.1.2.2.2.2.2.1 l1).1.2.1 + 1))), r361.2.2.2.1.2.2.2.2.2.2), r361.2.2.2.2)).bind fun r374 => if r374.1 = true then (FM_rows_13 fu l1 l3 (r374.2.1, (r374.2.2.1.1, (r374.2.2.1.2.1 + 1), r374.2.2.1.2.2), r374.2.2.2)) else (if l1 < r374.2.2.2.1.2.2.2.2.1 then (xo_b (FM_close 125 (r374.2.1, r374.2.2.1, (r374.2.2.2.1.1, r374.2.2.2.1.2.1, r374.2.2.2.1.2.2.1, r374.2.2.2.1.2.2.2.1, r374.2.2.2.1.2.2.2.2.1, (va_up r374.2.2.2.1.2.2.2.2.2.1 l1 (nB (r374.2.2.2.1.2.2.2.2.2.1 l1) l3)), r374.2.2.2.1.2.2.2.2.2.2), r374.2.2.2.2)) fun r379 => some (.inl (l1, r379.2))) else none)) else ((FM_next 59 (r361.2.1, r361.2.2.1, (r361.2.2.2.1.1, r361.2.2.2.1.2.1, r361.2.2.2.1.2.2.1, r361.2.2.2.1.2.2.2.1, r361.2.2.2.1.2.2.2.2.1, (va_up r361.2.2.2.1.2.2.2.2.2.1 l1 (nA (r361.2.2.2.1.2.2.2.2.2.1 l1) ((r361.2.2.2.1.2.2.2.2.2.1 l1).1.2.1 + 1))), r361.2.2.2.1.2.2.2.2.2.2), r361.2.2.2.2)).bind fun r366 => if r366.1 = true then (FM_rows_13 fu l1 l2 (r366.2.1, (r366.2.2.1.1, (r366.2.2.1.2.1 + 1), r366.2.2.1.2.2), r366.2.2.2)) else (if l1 < r366.2.2.2.1.2.2.2.2.1 then (xo_b (FM_close 125 (r366.2.1, r366.2.2.1, (r366.2.2.2.1.1, r366.2.2.2.1.2.1, r366.2.2.2.1.2.2.1, r366.2.2.2.1.2.2.2.1, r366.2.2.2.1.2.2.2.2.1, (va_up r366.2.2.2.1.2.2.2.2.2.1 l1 (nB (r366.2.2.2.1.2.2.2.2.2.1 l1) l2)), r366.2.2.2.1.2.2.2.2.2.2), r366.2.2.2.2)) fun r371 => some (.inl (l1, r371.2))) else none))) else none) else ((FM_peek r318.2).bind fun r382 => if r382 = 125 then (xo_b (FM_bad r318.2.2.1.2.1 r318.2) fun r401 => if l1 < r401.2.2.2.1.2.2.2.2.1 then (if (r401.2.2.2.1.2.2.2.2.2.1 l1).1.2.1 = 0 then ((FM_next 59 (r401.2.1, r401.2.2.1, (r401.2.2.2.1.1, r401.2.2.2.1.2.1, r401.2.2.2.1.2.2.1, r401.2.2.2.1.2.2.2.1, r401.2.2.2.1.2.2.2.2.1, (va_up r401.2.2.2.1.2.2.2.2.2.1 l1 (nA (r401.2.2.2.1.2.2.2.2.2.1 l1) ((r401.2.2.2.1.2.2.2.2.2.1 l1).1.2.1 + 1))), r401.2.2.2.1.2.2.2.2.2.2), r401.2.2.2.2)).bind fun r414 => if r414.1 = true then (FM_rows_13 fu l1 l3 (r414.2.1, (r414.2.2.1.1, (r414.2.2.1.2.1 + 1), r414.2.2.1.2.2), r414.2.2.2)) else (if l1 < r414.2.2.2.1.2.2.2.2.1 then (xo_b (FM_close 125 (r414.2.1, r414.2.2.1, (r414.2.2.2.1.1, r414.2.2.2.1.2.1, r414.2.2.2.1.2.2.1, r414.2.2.2.1.2.2.2.1, r414.2.2.2.1.2.2.2.2.1, (va_up r414.2.2.2.1.2.2.2.2.2.1 l1 (nB (r414.2.2.2.1.2.2.2.2.2.1 l1) l3)), r414.2.2.2.1.2.2.2.2.2.2), r414.2.2.2.2)) fun r419 => some (.inl (l1, r419.2))) else none)) else ((FM_next 59 (r401.2.1, r401.2.2.1, (r401.2.2.2.1.1, r401.2.2.2.1.2.1, r401.2.2.2.1.2.2.1, r401.2.2.2.1.2.2.2.1, r401.2.2.2.1.2.2.2.2.1, (va_up r401.2.2.2.1.2.2.2.2.2.1 l1 (nA (r401.2.2.2.1.2.2.2.2.2.1 l1) ((r401.2.2.2.1.2.2.2.2.2.1 l1).1.2.1 + 1))), r401.2.2.2.1.2.2.2.2.2.2), r401.2.2.2.2)).bind fun r406 => if r406.1 = true then (FM_rows_13 fu l1 l2 (r406.2.1, (r406.2.2.1.1, (r406.2.2.1.2.1 + 1), r406.2.2.1.2.2), r406.2.2.2)) else (if l1 < r406.2.2.2.1.2.2.2.2.1 then (xo_b (FM_close 125 (r406.2.1, r406.2.2.1, (r406.2.2.2.1.1, r406.2.2.2.1.2.1, r406.2.2.2.1.2.2.1, r406.2.2.2.1.2.2.2.1, r406.2.2.2.1.2.2.2.2.1, (va_up r406.2.2.2.1.2.2.2.2.2.1 l1 (nB (r406.2.2.2.1.2.2.2.2.2.1 l1) l2)), r406.2.2.2.1.2.2.2.2.2.2), r406.2.2.2.2)) fun r411 => some (.inl (l1, r411.2))) else none))) else none) else (if (r318.2.2.2.1.2.2.2.2.2.1 l1).1.2.1 = 0 then ((FM_next 59 (r318.2.1, r318.2.2.1, (r318.2.2.2.1.1, r318.2.2.2.1.2.1, r318.2.2.2.1.2.2.1, r318.2.2.2.1.2.2.2.1, r318.2.2.2.1.2.2.2.2.1, (va_up r318.2.2.2.1.2.2.2.2.2.1 l1 (nA (r318.2.2.2.1.2.2.2.2.2.1 l1) ((r318.2.2.2.1.2.2.2.2.2.1 l1).1.2.1 + 1))), r318.2.2.2.1.2.2.2.2.2.2), r318.2.2.2.2)).bind fun r393 => if r393.1 = true then (FM_rows_13 fu l1 l3 (r393.2.1, (r393.2.2.1.1, (r393.2.2.1.2.1 + 1), r393.2.2.1.2.2), r393.2.2.2)) else (if l1 < r393.2.2.2.1.2.2.2.2.1 then (xo_b (FM_close 125 (r393.2.1, r393.2.2.1, (r393.2.2.2.1.1, r393.2.2.2.1.2.1, r393.2.2.2.1.2.2.1, r393.2.2.2.1.2.2.2.1, r393.2.2.2.1.2.2.2.2.1, (va_up r393.2.2.2.1.2.2.2.2.2.1 l1 (nB (r393.2.2.2.1.2.2.2.2.2.1 l1) l3)), r393.2.2.2.1.2.2.2.2.2.2), r393.2.2.2.2)) fun r398 => some (.inl (l1, r398.2))) else none)) else ((FM_next 59 (r318.2.1, r318.2.2.1, (r318.2.2.2.1.1, r318.2.2.2.1.2.1, r318.2.2.2.1.2.2.1, r318.2.2.2.1.2.2.2.1, r318.2.2.2.1.2.2.2.2.1, (va_up r318.2.2.2.1.2.2.2.2.2.1 l1 (nA (r318.2.2.2.1.2.2.2.2.2.1 l1) ((r318.2.2.2.1.2.2.2.2.2.1 l1).1.2.1 + 1))), r318.2.2.2.1.2.2.2.2.2.2), r318.2.2.2.2)).bind fun r385 => if r385.1 = true then (FM_rows_13 fu l1 l2 (r385.2.1, (r385.2.2.1.1, (r385.2.2.1.2.1 + 1), r385.2.2.1.2.2), r385.2.2.2)) else (if l1 < r385.2.2.2.1.2.2.2.2.1 then (xo_b (FM_close 125 (r385.2.1, r385.2.2.1, (r385.2.2.2.1.1, r385.2.2.2.1.2.1, r385.2.2.2.1.2.2.1, r385.2.2.2.1.2.2.2.1, r385.2.2.2.1.2.2.2.2.1, (va_up r385.2.2.2.1.2.2.2.2.2.1 l1 (nB (r385.2.2.2.1.2.2.2.2.2.1 l1) l2)), r385.2.2.2.1.2.2.2.2.2.2), r385.2.2.2.2)) fun r390 => some (.inl (l1, r390.2))) else none))))))) else none))
def FM_rows_13 (fu : Nat) (l1 : Nat) (l2 : Int32) (s : xMs) : Option (xo Nat xMs) := (FM_rows_L fu).1 l1 l2 s
def FM_rows_23 (fu : Nat) (l1 : Nat) (l2 : Int32) (l3 : Int32) (s : xMs) : Option (xo Nat xMs) := (FM_rows_L fu).2 l1 l2 l3 s
/-- FormulaShaperModel.rows -/
def FM_rows  (s : xMs) : Option (xo Nat xMs) := (FM_node 8 s).bind fun r305 => xo_b (FM_open r305.2) fun r308 => FM_rows_13 xFuel r305.1 0 r308.2
set_option maxRecDepth 20000 in
theorem CM_rows_L {w : xw_G} {h : xw_H} (hb : xMb h) : ∀ (fu : Nat), (∀  {l1 : Nat} {l2 : Int32} {s : xMs} {out : (xo Nat xMs)} {h0 : xw_H} {m0 n0 : Nat} (hm : m0 ≤ s.2.2.1.2.2.2.2.2.2.1 ∧ n0 ≤ s.2.2.1.2.2.2.2.2.2.2), FM_rows_13 fu l1 l2 s = some out → xw_Y w mM_rows 10 193 (xo_P (fun x => some (.ref (xn x))) (fun s => mV s h) out) h0 m0 n0 s.2.2.1.2.2.2.2.2.2.1 s.2.2.1.2.2.2.2.2.2.2 (xo_s out).2.2.1.2.2.2.2.2.2.1 (xo_s out).2.2.1.2.2.2.2.2.2.2 13 [some (.ref 2000), some (.ref (xn l1)), some (.int l2), none] [] (mV s h)) ∧ (∀  {l1 : Nat} {l2 : Int32} {l3 : Int32} {s : xMs} {out : (xo Nat xMs)} {h0 : xw_H} {m0 n0 : Nat} (hm : m0 ≤ s.2.2.1.2.2.2.2.2.2.1 ∧ n0 ≤ s.2.2.1.2.2.2.2.2.2.2), FM_rows_23 fu l1 l2 l3 s = some out → xw_Y w mM_rows 10 193 (xo_P (fun x => some (.ref (xn x))) (fun s => mV s h) out) h0 m0 n0 s.2.2.1.2.2.2.2.2.2.1 s.2.2.1.2.2.2.2.2.2.2 (xo_s out).2.2.1.2.2.2.2.2.2.1 (xo_s out).2.2.1.2.2.2.2.2.2.2 23 [some (.ref 2000), some (.ref (xn l1)), some (.int l2), some (.int l3)] [] (mV s h)) := by
  intro fu
  induction fu with
  | zero => exact ⟨fun _ q => (Option.some_ne_none _ q.symm).elim, fun _ q => (Option.some_ne_none _ q.symm).elim⟩
  | succ fu ih =>
    refine ⟨?_, ?_⟩
    · intro l1 l2 s out h0 m0 n0 hm hF
      replace hF : (xo_b (FM_literal s) fun r311 => if l1 < r311.2.2.2.1.2.2.2.2.1 then ((FN_add l1 r311.1 r311.2).bind fun r315 => FM_rows_23 fu l1 l2 1 r315) else none) = some out := hF
      refine xy_r (xw_iconst (1) dM_rows_13 (by decide)) ?_
      refine xy_r (xw_istore_n dM_rows_14 (Nat.le_of_ble_eq_true rfl)) ?_
      refine xy_r (xw_Ln (L' := [some (.ref 2000), some (.ref (xn l1)), some (.int l2), some (.int 1)]) rfl) ?_
      refine xy_r (xw_aload_n dM_rows_15 rfl) ?_
      refine xy_r (xw_aload_n dM_rows_16 rfl) ?_
      rcases xg_o hF with ⟨r311, er311, hF⟩ | ⟨r311, er311, hF⟩
      · have hm312 : m0 ≤ r311.2.2.2.1.2.2.2.2.2.2.1 ∧ n0 ≤ r311.2.2.2.1.2.2.2.2.2.2.2 := xy_le hm (show s.2.2.1.2.2.2.2.2.2.1 ≤ r311.2.2.2.1.2.2.2.2.2.2.1 ∧ s.2.2.1.2.2.2.2.2.2.2 ≤ r311.2.2.2.1.2.2.2.2.2.2.2 from (CM_literal (w := w) (h := h) hb er311).1)
        refine xy_V1 (sm := s.2.2.1.2.2.2.2.2.2.1) (sn := s.2.2.1.2.2.2.2.2.2.2) (tm := r311.2.2.2.1.2.2.2.2.2.2.1) (tn := r311.2.2.2.1.2.2.2.2.2.2.2) (CM_literal hb er311) rfl rfl hm (fun _ => rfl) (fun _ => rfl) (fun _ => rfl) (fun _ => dM_rows_17) (fun _ R => kM_404 R) (fun _ => rfl) ⟨(Nat.le_of_ble_eq_true rfl), (Nat.le_of_ble_eq_true rfl)⟩ rfl rfl rfl (fun _ => rfl) (Nat.le_of_ble_eq_true rfl) ?_
        obtain ⟨g314, hF⟩ := xg_g hF
        obtain ⟨r315, er315, hF⟩ := xg_b hF
        have hm316 : m0 ≤ r315.2.2.1.2.2.2.2.2.2.1 ∧ n0 ≤ r315.2.2.1.2.2.2.2.2.2.2 := xy_le hm312 (show r311.2.2.2.1.2.2.2.2.2.2.1 ≤ r315.2.2.1.2.2.2.2.2.2.1 ∧ r311.2.2.2.1.2.2.2.2.2.2.2 ≤ r315.2.2.1.2.2.2.2.2.2.2 from (CN_add (w := w) (h := h) hb er315).1)
        refine xy_V0 (sm := r311.2.2.2.1.2.2.2.2.2.2.1) (sn := r311.2.2.2.1.2.2.2.2.2.2.2) (tm := r315.2.2.1.2.2.2.2.2.2.1) (tn := r315.2.2.1.2.2.2.2.2.2.2) (CN_add hb er315) rfl rfl hm312 (fun _ => rfl) (fun _ => rfl) (fun _ => rfl) (fun _ => dM_rows_20) (fun _ R => kM_257 R) (fun _ => rfl) ⟨(Nat.le_of_ble_eq_true rfl), (Nat.le_of_ble_eq_true rfl)⟩ rfl rfl (mV_n g314) (fun _ => rfl) (Nat.le_of_ble_eq_true rfl) ?_
        exact ih.2 hm316 hF
      · subst hF
        exact xy_Vt (sm := s.2.2.1.2.2.2.2.2.2.1) (sn := s.2.2.1.2.2.2.2.2.2.2) (tm := r311.2.2.2.1.2.2.2.2.2.2.1) (tn := r311.2.2.2.1.2.2.2.2.2.2.2) (CM_literal hb er311) rfl rfl hm (fun _ => rfl) (fun _ => rfl) (fun _ => rfl) (fun _ => dM_rows_17) (fun _ R => kM_404 R) (fun _ => rfl) ⟨(Nat.le_of_ble_eq_true rfl), (Nat.le_of_ble_eq_true rfl)⟩ rfl rfl rfl (fun _ => rfl) (Nat.le_of_ble_eq_true rfl) ⟨rfl, rfl⟩
    · intro l1 l2 l3 s out h0 m0 n0 hm hF
      replace hF : ((FM_next 44 s).bind fun r318 => if r318.1 = true then (if l1 < r318.2.2.2.1.2.2.2.2.1 then (if (r318.2.2.2.1.2.2.2.2.2.1 l1).1.2.1 ≤ 0 then (xo_b (FM_literal (r318.2.1, (r318.2.2.1.1, (r318.2.2.1.2.1 + 1), r318.2.2.1.2.2), r318.2.2.2)) fun r424 => if l1 < r424.2.2.2.1.2.2.2.2.1 then ((FN_add l1 r424.1 r424.2).bind fun r428 => FM_rows_23 fu l1 l2 (l3 + 1) r428) else none) else (if l3 = l2 then (xo_b (FM_bad r318.2.2.1.2.1 r318.2) fun r439 => xo_b (FM_literal (r439.2.1, (r439.2.2.1.1, (r439.2.2.1.2.1 + 1), r439.2.2.1.2.2), r439.2.2.2)) fun r442 => if l1 < r442.2.2.2.1.2.2.2.2.1 then ((FN_add l1 r442.1 r442.2).bind fun r446 => FM_rows_23 fu l1 l2 (l3 + 1) r446) else none) else (xo_b (FM_literal (r318.2.1, (r318.2.2.1.1, (r318.2.2.1.2.1 + 1), r318.2.2.1.2.2), r318.2.2.2)) fun r432 => if l1 < r432.2.2.2.1.2.2.2.2.1 then ((FN_add l1 r432.1 r432.2).bind fun r436 => FM_rows_23 fu l1 l2 (l3 + 1) r436) else none))) else none) else (if l1 < r318.2.2.2.1.2.2.2.2.1 then (if (r318.2.2.2.1.2.2.2.2.2.1 l1).1.2.1 ≤ 0 then (if (r318.2.2.2.1.2.2.2.2.2.1 l1).1.2.1 = 0 then ((FM_next 59 (r318.2.1, r318.2.2.1, (r318.2.2.2.1.1, r318.2.2.2.1.2.1, r318.2.2.2.1.2.2.1, r318.2.2.2.1.2.2.2.1, r318.2.2.2.1.2.2.2.2.1, (va_up r318.2.2.2.1.2.2.2.2.2.1 l1 (nA (r318.2.2.2.1.2.2.2.2.2.1 l1) ((r318.2.2.2.1.2.2.2.2.2.1 l1).1.2.1 + 1))), r318.2.2.2.1.2.2.2.2.2.2), r318.2.2.2.2)).bind fun r333 => if r333.1 = true then (FM_rows_13 fu l1 l3 (r333.2.1, (r333.2.2.1.1, (r333.2.2.1.2.1 + 1), r333.2.2.1.2.2), r333.2.2.2)) else (if l1 < r333.2.2.2.1.2.2.2.2.1 then (xo_b (FM_close 125 (r333.2.1, r333.2.2.1, (r333.2.2.2.1.1, r333.2.2.2.1.2.1, r333.2.2.2.1.2.2.1, r333.2.2.2.1.2.2.2.1, r333.2.2.2.1.2.2.2.2.1, (va_up r333.2.2.2.1.2.2.2.2.2.1 l1 (nB (r333.2.2.2.1.2.2.2.2.2.1 l1) l3)), r333.2.2.2.1.2.2.2.2.2.2), r333.2.2.2.2)) fun r338 => some (.inl (l1, r338.2))) else none)) else ((FM_next 59 (r318.2.1, r318.2.2.1, (r318.2.2.2.1.1, r318.2.2.2.1.2.1, r318.2.2.2.1.2.2.1, r318.2.2.2.1.2.2.2.1, r318.2.2.2.1.2.2.2.2.1, (va_up r318.2.2.2.1.2.2.2.2.2.1 l1 (nA (r318.2.2.2.1.2.2.2.2.2.1 l1) ((r318.2.2.2.1.2.2.2.2.2.1 l1).1.2.1 + 1))), r318.2.2.2.1.2.2.2.2.2.2), r318.2.2.2.2)).bind fun r325 => if r325.1 = true then (FM_rows_13 fu l1 l2 (r325.2.1, (r325.2.2.1.1, (r325.2.2.1.2.1 + 1), r325.2.2.1.2.2), r325.2.2.2)) else (if l1 < r325.2.2.2.1.2.2.2.2.1 then (xo_b (FM_close 125 (r325.2.1, r325.2.2.1, (r325.2.2.2.1.1, r325.2.2.2.1.2.1, r325.2.2.2.1.2.2.1, r325.2.2.2.1.2.2.2.1, r325.2.2.2.1.2.2.2.2.1, (va_up r325.2.2.2.1.2.2.2.2.2.1 l1 (nB (r325.2.2.2.1.2.2.2.2.2.1 l1) l2)), r325.2.2.2.1.2.2.2.2.2.2), r325.2.2.2.2)) fun r330 => some (.inl (l1, r330.2))) else none))) else (if l2 ≤ l3 then (if (r318.2.2.2.1.2.2.2.2.2.1 l1).1.2.1 = 0 then ((FM_next 59 (r318.2.1, r318.2.2.1, (r318.2.2.2.1.1, r318.2.2.2.1.2.1, r318.2.2.2.1.2.2.1, r318.2.2.2.1.2.2.2.1, r318.2.2.2.1.2.2.2.2.1, (va_up r318.2.2.2.1.2.2.2.2.2.1 l1 (nA (r318.2.2.2.1.2.2.2.2.2.1 l1) ((r318.2.2.2.1.2.2.2.2.2.1 l1).1.2.1 + 1))), r318.2.2.2.1.2.2.2.2.2.2), r318.2.2.2.2)).bind fun r351 => if r351.1 = true then (FM_rows_13 fu l1 l3 (r351.2.1, (r351.2.2.1.1, (r351.2.2.1.2.1 + 1), r351.2.2.1.2.2), r351.2.2.2)) else (if l1 < r351.2.2.2.1.2.2.2.2.1 then (xo_b (FM_close 125 (r351.2.1, r351.2.2.1, (r351.2.2.2.1.1, r351.2.2.2.1.2.1, r351.2.2.2.1.2.2.1, r351.2.2.2.1.2.2.2.1, r351.2.2.2.1.2.2.2.2.1, (va_up r351.2.2.2.1.2.2.2.2.2.1 l1 (nB (r351.2.2.2.1.2.2.2.2.2.1 l1) l3)), r351.2.2.2.1.2.2.2.2.2.2), r351.2.2.2.2)) fun r356 => some (.inl (l1, r356.2))) else none)) else ((FM_next 59 (r318.2.1, r318.2.2.1, (r318.2.2.2.1.1, r318.2.2.2.1.2.1, r318.2.2.2.1.2.2.1, r318.2.2.2.1.2.2.2.1, r318.2.2.2.1.2.2.2.2.1, (va_up r318.2.2.2.1.2.2.2.2.2.1 l1 (nA (r318.2.2.2.1.2.2.2.2.2.1 l1) ((r318.2.2.2.1.2.2.2.2.2.1 l1).1.2.1 + 1))), r318.2.2.2.1.2.2.2.2.2.2), r318.2.2.2.2)).bind fun r343 => if r343.1 = true then (FM_rows_13 fu l1 l2 (r343.2.1, (r343.2.2.1.1, (r343.2.2.1.2.1 + 1), r343.2.2.1.2.2), r343.2.2.2)) else (if l1 < r343.2.2.2.1.2.2.2.2.1 then (xo_b (FM_close 125 (r343.2.1, r343.2.2.1, (r343.2.2.2.1.1, r343.2.2.2.1.2.1, r343.2.2.2.1.2.2.1, r343.2.2.2.1.2.2.2.1, r343.2.2.2.1.2.2.2.2.1, (va_up r343.2.2.2.1.2.2.2.2.2.1 l1 (nB (r343.2.2.2.1.2.2.2.2.2.1 l1) l2)), r343.2.2.2.1.2.2.2.2.2.2), r343.2.2.2.2)) fun r348 => some (.inl (l1, r348.2))) else none))) else ((FM_peek r318.2).bind fun r359 => if r359 = 59 then (xo_b (FM_bad r318.2.2.1.2.1 r318.2) fun r361 => if l1 < r361.2.2.2.1.2.2.2.2.1 then (if (r361.2.2.2.1.2.2.2.2.2.1 l1).1.2.1 = 0 then ((FM_next 59 (r361.2.1, r361.2.2.1, (r361.2.2.2.1.1, r361.2.2.2.1.2.1, r361.2.2.2.1.2.2.1, r361.2.2.2.1.2.2.2.1, r361.2.2.2.1.2.2.2.2.1, (va_up r361.2.2.2.1.2.2.2.2.2.1 l1 (nA (r361.2.2.2.1.2.2.2.2.2.1 l1) ((r361.2.2.2.1.2.2.2.2.2.1 l1).1.2.1 + 1))), r361.2.2.2.1.2.2.2.2.2.2), r361.2.2.2.2)).bind fun r374 => if r374.1 = true then (FM_rows_13 fu l1 l3 (r374.2.1, (r374.2.2.1.1, (r374.2.2.1.2.1 + 1), r374.2.2.1.2.2), r374.2.2.2)) else (if l1 < r374.2.2.2.1.2.2.2.2.1 then (xo_b (FM_close 125 (r374.2.1, r374.2.2.1, (r374.2.2.2.1.1, r374.2.2.2.1.2.1, r374.2.2.2.1.2.2.1, r374.2.2.2.1.2.2.2.1, r374.2.2.2.1.2.2.2.2.1, (va_up r374.2.2.2.1.2.2.2.2.2.1 l1 (nB (r374.2.2.2.1.2.2.2.2.2.1 l1) l3)), r374.2.2.2.1.2.2.2.2.2.2), r374.2.2.2.2)) fun r379 => some (.inl (l1, r379.2))) else none)) else ((FM_next 59 (r361.2.1, r361.2.2.1, (r361.2.2.2.1.1, r361.2.2.2.1.2.1, r361.2.2.2.1.2.2.1, r361.2.2.2.1.2.2.2.1, r361.2.2.2.1.2.2.2.2.1, (va_up r361.2.2.2.1.2.2.2.2.2.1 l1 (nA (r361.2.2.2.1.2.2.2.2.2.1 l1) ((r361.2.2.2.1.2.2.2.2.2.1 l1).1.2.1 + 1))), r361.2.2.2.1.2.2.2.2.2.2), r361.2.2.2.2)).bind fun r366 => if r366.1 = true then (FM_rows_13 fu l1 l2 (r366.2.1, (r366.2.2.1.1, (r366.2.2.1.2.1 + 1), r366.2.2.1.2.2), r366.2.2.2)) else (if l1 < r366.2.2.2.1.2.2.2.2.1 then (xo_b (FM_close 125 (r366.2.1, r366.2.2.1, (r366.2.2.2.1.1, r366.2.2.2.1.2.1, r366.2.2.2.1.2.2.1, r366.2.2.2.1.2.2.2.1, r366.2.2.2.1.2.2.2.2.1, (va_up r366.2.2.2.1.2.2.2.2.2.1 l1 (nB (r366.2.2.2.1.2.2.2.2.2.1 l1) l2)), r366.2.2.2.1.2.2.2.2.2.2), r366.2.2.2.2)) fun r371 => some (.inl (l1, r371.2))) else none))) else none) else ((FM_peek r318.2).bind fun r382 => if r382 = 125 then (xo_b (FM_bad r318.2.2.1.2.1 r318.2) fun r401 => if l1 < r401.2.2.2.1.2.2.2.2.1 then (if (r401.2.2.2.1.2.2.2.2.2.1 l1).1.2.1 = 0 then ((FM_next 59 (r401.2.1, r401.2.2.1, (r401.2.2.2.1.1, r401.2.2.2.1.2.1, r401.2.2.2.1.2.2.1, r401.2.2.2.1.2.2.2.1, r401.2.2.2.1.2.2.2.2.1, (va_up r401.2.2.2.1.2.2.2.2.2.1 l1 (nA (r401.2.2.2.1.2.2.2.2.2.1 l1) ((r401.2.2.2.1.2.2.2.2.2.1 l1).1.2.1 + 1))), r401.2.2.2.1.2.2.2.2.2.2), r401.2.2.2.2)).bind fun r414 => if r414.1 = true then (FM_rows_13 fu l1 l3 (r414.2.1, (r414.2.2.1.1, (r414.2.2.1.2.1 + 1), r414.2.2.1.2.2), r414.2.2.2)) else (if l1 < r414.2.2.2.1.2.2.2.2.1 then (xo_b (FM_close 125 (r414.2.1, r414.2.2.1, (r414.2.2.2.1.1, r414.2.2.2.1.2.1, r414.2.2.2.1.2.2.1, r414.2.2.2.1.2.2.2.1, r414.2.2.2.1.2.2.2.2.1, (va_up r414.2.2.2.1.2.2.2.2.2.1 l1 (nB (r414.2.2.2.1.2.2.2.2.2.1 l1) l3)), r414.2.2.2.1.2.2.2.2.2.2), r414.2.2.2.2)) fun r419 => some (.inl (l1, r419.2))) else none)) else ((FM_next 59 (r401.2.1, r401.2.2.1, (r401.2.2.2.1.1, r401.2.2.2.1.2.1, r401.2.2.2.1.2.2.1, r401.2.2.2.1.2.2.2.1, r401.2.2.2.1.2.2.2.2.1, (va_up r401.2.2.2.1.2.2.2.2.2.1 l1 (nA (r401.2.2.2.1.2.2.2.2.2.1 l1) ((r401.2.2.2.1.2.2.2.2.2.1 l1).1.2.1 + 1))), r401.2.2.2.1.2.2.2.2.2.2), r401.2.2.2.2)).bind fun r406 => if r406.1 = true then (FM_rows_13 fu l1 l2 (r406.2.1, (r406.2.2.1.1, (r406.2.2.1.2.1 + 1), r406.2.2.1.2.2), r406.2.2.2)) else (if l1 < r406.2.2.2.1.2.2.2.2.1 then (xo_b (FM_close 125 (r406.2.1, r406.2.2.1, (r406.2.2.2.1.1, r406.2.2.2.1.2.1, r406.2.2.2.1.2.2.1, r406.2.2.2.1.2.2.2.1, r406.2.2.2.1.2.2.2.2.1, (va_up r406.2.2.2.1.2.2.2.2.2.1 l1 (nB (r406.2.2.2.1.2.2.2.2.2.1 l1) l2)), r406.2.2.2.1.2.2.2.2.2.2), r406.2.2.2.2)) fun r411 => some (.inl (l1, r411.2))) else none))) else none) else (if (r318.2.2.2.1.2.2.2.2.2.1 l1).1.2.1 = 0 then ((FM_next 59 (r318.2.1, r318.2.2.1, (r318.2.2.2.1.1, r318.2.2.2.1.2.1, r318.2.2.2.1.2.2.1, r318.2.2.2.1.2.2.2.1, r318.2.2.2.1.2.2.2.2.1, (va_up r318.2.2.2.1.2.2.2.2.2.1 l1 (nA (r318.2.2.2.1.2.2.2.2.2.1 l1) ((r318.2.2.2.1.2.2.2.2.2.1 l1).1.2.1 + 1))), r318.2.2.2.1.2.2.2.2.2.2), r318.2.2.2.2)).bind fun r393 => if r393.1 = true then (FM_rows_13 fu l1 l3 (r393.2.1, (r393.2.2.1.1, (r393.2.2.1.2.1 + 1), r393.2.2.1.2.2), r393.2.2.2)) else (if l1 < r393.2.2.2.1.2.2.2.2.1 then (xo_b (FM_close 125 (r393.2.1, r393.2.2.1, (r393.2.2.2.1.1, r393.2.2.2.1.2.1, r393.2.2.2.1.2.2.1, r393.2.2.2.1.2.2.2.1, r393.2.2.2.1.2.2.2.2.1, (va_up r393.2.2.2.1.2.2.2.2.2.1 l1 (nB (r393.2.2.2.1.2.2.2.2.2.1 l1) l3)), r393.2.2.2.1.2.2.2.2.2.2), r393.2.2.2.2)) fun r398 => some (.inl (l1, r398.2))) else none)) else ((FM_next 59 (r318.2.1, r318.2.2.1, (r318.2.2.2.1.1, r318.2.2.2.1.2.1, r318.2.2.2.1.2.2.1, r318.2.2.2.1.2.2.2.1, r318.2.2.2.1.2.2.2.2.1, (va_up r318.2.2.2.1.2.2.2.2.2.1 l1 (nA (r318.2.2.2.1.2.2.2.2.2.1 l1) ((r318.2.2.2.1.2.2.2.2.2.1 l1).1.2.1 + 1))), r318.2.2.2.1.2.2.2.2.2.2), r318.2.2.2.2)).bind fun r385 => if r385.1 = true then (FM_rows_13 fu l1 l2 (r385.2.1, (r385.2.2.1.1, (r385.2.2.1.2.1 + 1), r385.2.2.1.2.2), r385.2.2.2)) else (if l1 < r385.2.2.2.1.2.2.2.2.1 then (xo_b (FM_close 125 (r385.2.1, r385.2.2.1, (r385.2.2.2.1.1, r385.2.2.2.1.2.1, r385.2.2.2.1.2.2.1, r385.2.2.2.1.2.2.2.1, r385.2.2.2.1.2.2.2.2.1, (va_up r385.2.2.2.1.2.2.2.2.2.1 l1 (nB (r385.2.2.2.1.2.2.2.2.2.1 l1) l2)), r385.2.2.2.1.2.2.2.2.2.2), r385.2.2.2.2)) fun r390 => some (.inl (l1, r390.2))) else none))))))) else none)) = some out := hF
      refine xy_r (xw_aload_n dM_rows_23 rfl) ?_
      refine xy_r (xw_bipush (44) dM_rows_24 (by decide)) ?_
      obtain ⟨r318, er318, hF⟩ := xg_b hF
      have hm319 : m0 ≤ r318.2.2.2.1.2.2.2.2.2.2.1 ∧ n0 ≤ r318.2.2.2.1.2.2.2.2.2.2.2 := xy_le hm (show s.2.2.1.2.2.2.2.2.2.1 ≤ r318.2.2.2.1.2.2.2.2.2.2.1 ∧ s.2.2.1.2.2.2.2.2.2.2 ≤ r318.2.2.2.1.2.2.2.2.2.2.2 from (CM_next (w := w) (h := h) hb er318).1)
      refine xy_V1 (sm := s.2.2.1.2.2.2.2.2.2.1) (sn := s.2.2.1.2.2.2.2.2.2.2) (tm := r318.2.2.2.1.2.2.2.2.2.2.1) (tn := r318.2.2.2.1.2.2.2.2.2.2.2) (CM_next hb er318) rfl rfl hm (fun _ => rfl) (fun _ => rfl) (fun _ => rfl) (fun _ => dM_rows_26) (fun _ R => kM_236 R) (fun _ => rfl) ⟨(Nat.le_of_ble_eq_true rfl), (Nat.le_of_ble_eq_true rfl)⟩ rfl rfl rfl (fun _ => rfl) (Nat.le_of_ble_eq_true rfl) ?_
      refine xy_brn (xw_if_eqB 76 dM_rows_29 (by decide)) (fun c321 => ?_) (fun c321 => ?_)
      · replace hF := xg_f c321 hF
        refine xy_r (xw_aload_n dM_rows_76 rfl) ?_
        obtain ⟨g322, hF⟩ := xg_g hF
        refine xy_r (xw_get dM_rows_77 fM_195 (mV_n g322) rfl) ?_
        refine xy_br (xw_if_le 114 dM_rows_80 (by decide)) (fun c323 => ?_) (fun c323 => ?_)
        · replace hF := xg_t c323 hF
          refine xy_r (xw_aload_n dM_rows_114 rfl) ?_
          refine xy_r (xw_get dM_rows_115 fM_195 (mV_n g322) rfl) ?_
          refine xy_brn (xw_if_ne 123 dM_rows_118 (by decide)) (fun c324 => ?_) (fun c324 => ?_)
          · replace hF := xg_f c324 hF
            refine xy_r (xw_aload_n dM_rows_123 rfl) ?_
            refine xy_r (xw_dup_r dM_rows_124) ?_
            refine xy_r (xw_get dM_rows_125 fM_195 (mV_n g322) rfl) ?_
            refine xy_r (xw_iconst (1) dM_rows_128 (by decide)) ?_
            refine xy_r (xw_iadd dM_rows_129) ?_
            refine xy_r (xg_put dM_rows_130 fM_195 (mV_n g322) (xn_le _) (Nat.le_of_ble_eq_true rfl) (fun _ => rfl) (fun _ => rfl) (mV_pn (q := (nA (r318.2.2.2.1.2.2.2.2.2.1 l1) ((r318.2.2.2.1.2.2.2.2.2.1 l1).1.2.1 + 1))) g322)) ?_
            refine xy_r (xw_aload_n dM_rows_133 rfl) ?_
            refine xy_r (xw_bipush (59) dM_rows_134 (by decide)) ?_
            obtain ⟨r325, er325, hF⟩ := xg_b hF
            have hm326 : m0 ≤ r325.2.2.2.1.2.2.2.2.2.2.1 ∧ n0 ≤ r325.2.2.2.1.2.2.2.2.2.2.2 := xy_le hm319 (show r318.2.2.2.1.2.2.2.2.2.2.1 ≤ r325.2.2.2.1.2.2.2.2.2.2.1 ∧ r318.2.2.2.1.2.2.2.2.2.2.2 ≤ r325.2.2.2.1.2.2.2.2.2.2.2 from (CM_next (w := w) (h := h) hb er325).1)
            refine xy_V1 (sm := r318.2.2.2.1.2.2.2.2.2.2.1) (sn := r318.2.2.2.1.2.2.2.2.2.2.2) (tm := r325.2.2.2.1.2.2.2.2.2.2.1) (tn := r325.2.2.2.1.2.2.2.2.2.2.2) (CM_next hb er325) rfl rfl hm319 (fun _ => rfl) (fun _ => rfl) (fun _ => rfl) (fun _ => dM_rows_136) (fun _ R => kM_236 R) (fun _ => rfl) ⟨(Nat.le_of_ble_eq_true rfl), (Nat.le_of_ble_eq_true rfl)⟩ rfl rfl rfl (fun _ => rfl) (Nat.le_of_ble_eq_true rfl) ?_
            refine xy_br (xw_if_neB 145 dM_rows_139 (by decide)) (fun c328 => ?_) (fun c328 => ?_)
            · replace hF := xg_t c328 hF
              refine xy_r (xw_aload_n dM_rows_145 rfl) ?_
              refine xy_r (xw_dup_r dM_rows_146) ?_
              refine xy_r (xw_get dM_rows_147 fM_221 rfl rfl) ?_
              refine xy_r (xw_iconst (1) dM_rows_150 (by decide)) ?_
              refine xy_r (xw_iadd dM_rows_151) ?_
              refine xy_r (xg_put dM_rows_152 fM_221 rfl (by decide) (Nat.le_of_ble_eq_true rfl) (fun _ => rfl) (fun _ => rfl) (mV_o (s' := (r325.2.1, (r325.2.2.1.1, (r325.2.2.1.2.1 + 1), r325.2.2.1.2.2), r325.2.2.2)) rfl)) ?_
              refine xy_r (xw_goto 13 dM_rows_155 (by decide)) ?_
              refine xy_r (xw_drop (L' := [some (.ref 2000), some (.ref (xn l1)), some (.int l2), none]) ⟨rfl, ⟨rfl, ⟨rfl, trivial⟩⟩⟩) ?_
              exact ih.1 hm326 hF
            · replace hF := xg_f c328 hF
              refine xy_r (xw_goto 158 dM_rows_142 (by decide)) ?_
              refine xy_r (xw_aload_n dM_rows_158 rfl) ?_
              refine xy_r (xw_iload_n dM_rows_159 rfl) ?_
              obtain ⟨g329, hF⟩ := xg_g hF
              refine xy_r (xg_put dM_rows_160 fM_198 (mV_n g329) (xn_le _) (Nat.le_of_ble_eq_true rfl) (fun _ => rfl) (fun _ => rfl) (mV_pn (q := (nB (r325.2.2.2.1.2.2.2.2.2.1 l1) l2)) g329)) ?_
              refine xy_r (xw_aload_n dM_rows_163 rfl) ?_
              refine xy_r (xw_bipush (125) dM_rows_164 (by decide)) ?_
              rcases xg_o hF with ⟨r330, er330, hF⟩ | ⟨r330, er330, hF⟩
              · have hm331 : m0 ≤ r330.2.2.2.1.2.2.2.2.2.2.1 ∧ n0 ≤ r330.2.2.2.1.2.2.2.2.2.2.2 := xy_le hm326 (show r325.2.2.2.1.2.2.2.2.2.2.1 ≤ r330.2.2.2.1.2.2.2.2.2.2.1 ∧ r325.2.2.2.1.2.2.2.2.2.2.2 ≤ r330.2.2.2.1.2.2.2.2.2.2.2 from (CM_close (w := w) (h := h) hb er330).1)
                refine xy_V0 (sm := r325.2.2.2.1.2.2.2.2.2.2.1) (sn := r325.2.2.2.1.2.2.2.2.2.2.2) (tm := r330.2.2.2.1.2.2.2.2.2.2.1) (tn := r330.2.2.2.1.2.2.2.2.2.2.2) (CM_close hb er330) rfl rfl hm326 (fun _ => rfl) (fun _ => rfl) (fun _ => rfl) (fun _ => dM_rows_166) (fun _ R => kM_289 R) (fun _ => rfl) ⟨(Nat.le_of_ble_eq_true rfl), (Nat.le_of_ble_eq_true rfl)⟩ rfl rfl rfl (fun _ => rfl) (Nat.le_of_ble_eq_true rfl) ?_
                refine xy_r (xw_aload_n dM_rows_169 rfl) ?_
                obtain rfl := Option.some.inj hF
                exact xy_end (xw_areturn dM_rows_170 rfl (Or.inl ⟨_, rfl⟩) (Nat.le_refl _) (Nat.le_refl _) ⟨rfl, rfl⟩)
              · subst hF
                exact xy_Vt (sm := r325.2.2.2.1.2.2.2.2.2.2.1) (sn := r325.2.2.2.1.2.2.2.2.2.2.2) (tm := r330.2.2.2.1.2.2.2.2.2.2.1) (tn := r330.2.2.2.1.2.2.2.2.2.2.2) (CM_close hb er330) rfl rfl hm326 (fun _ => rfl) (fun _ => rfl) (fun _ => rfl) (fun _ => dM_rows_166) (fun _ R => kM_289 R) (fun _ => rfl) ⟨(Nat.le_of_ble_eq_true rfl), (Nat.le_of_ble_eq_true rfl)⟩ rfl rfl rfl (fun _ => rfl) (Nat.le_of_ble_eq_true rfl) ⟨rfl, rfl⟩
          · replace hF := xg_t c324 hF
            refine xy_r (xw_iload_n dM_rows_121 rfl) ?_
            refine xy_r (xw_istore_n dM_rows_122 (Nat.le_of_ble_eq_true rfl)) ?_
            refine xy_r (xw_Ln (L' := [some (.ref 2000), some (.ref (xn l1)), some (.int l3), some (.int l3)]) rfl) ?_
            refine xy_r (xw_aload_n dM_rows_123 rfl) ?_
            refine xy_r (xw_dup_r dM_rows_124) ?_
            refine xy_r (xw_get dM_rows_125 fM_195 (mV_n g322) rfl) ?_
            refine xy_r (xw_iconst (1) dM_rows_128 (by decide)) ?_
            refine xy_r (xw_iadd dM_rows_129) ?_
            refine xy_r (xg_put dM_rows_130 fM_195 (mV_n g322) (xn_le _) (Nat.le_of_ble_eq_true rfl) (fun _ => rfl) (fun _ => rfl) (mV_pn (q := (nA (r318.2.2.2.1.2.2.2.2.2.1 l1) ((r318.2.2.2.1.2.2.2.2.2.1 l1).1.2.1 + 1))) g322)) ?_
            refine xy_r (xw_aload_n dM_rows_133 rfl) ?_
            refine xy_r (xw_bipush (59) dM_rows_134 (by decide)) ?_
            obtain ⟨r333, er333, hF⟩ := xg_b hF
            have hm334 : m0 ≤ r333.2.2.2.1.2.2.2.2.2.2.1 ∧ n0 ≤ r333.2.2.2.1.2.2.2.2.2.2.2 := xy_le hm319 (show r318.2.2.2.1.2.2.2.2.2.2.1 ≤ r333.2.2.2.1.2.2.2.2.2.2.1 ∧ r318.2.2.2.1.2.2.2.2.2.2.2 ≤ r333.2.2.2.1.2.2.2.2.2.2.2 from (CM_next (w := w) (h := h) hb er333).1)
            refine xy_V1 (sm := r318.2.2.2.1.2.2.2.2.2.2.1) (sn := r318.2.2.2.1.2.2.2.2.2.2.2) (tm := r333.2.2.2.1.2.2.2.2.2.2.1) (tn := r333.2.2.2.1.2.2.2.2.2.2.2) (CM_next hb er333) rfl rfl hm319 (fun _ => rfl) (fun _ => rfl) (fun _ => rfl) (fun _ => dM_rows_136) (fun _ R => kM_236 R) (fun _ => rfl) ⟨(Nat.le_of_ble_eq_true rfl), (Nat.le_of_ble_eq_true rfl)⟩ rfl rfl rfl (fun _ => rfl) (Nat.le_of_ble_eq_true rfl) ?_
            refine xy_br (xw_if_neB 145 dM_rows_139 (by decide)) (fun c336 => ?_) (fun c336 => ?_)
            · replace hF := xg_t c336 hF
              refine xy_r (xw_aload_n dM_rows_145 rfl) ?_
              refine xy_r (xw_dup_r dM_rows_146) ?_
              refine xy_r (xw_get dM_rows_147 fM_221 rfl rfl) ?_
              refine xy_r (xw_iconst (1) dM_rows_150 (by decide)) ?_
              refine xy_r (xw_iadd dM_rows_151) ?_
              refine xy_r (xg_put dM_rows_152 fM_221 rfl (by decide) (Nat.le_of_ble_eq_true rfl) (fun _ => rfl) (fun _ => rfl) (mV_o (s' := (r333.2.1, (r333.2.2.1.1, (r333.2.2.1.2.1 + 1), r333.2.2.1.2.2), r333.2.2.2)) rfl)) ?_
              refine xy_r (xw_goto 13 dM_rows_155 (by decide)) ?_
              refine xy_r (xw_drop (L' := [some (.ref 2000), some (.ref (xn l1)), some (.int l3), none]) ⟨rfl, ⟨rfl, ⟨rfl, trivial⟩⟩⟩) ?_
              exact ih.1 hm334 hF
            · replace hF := xg_f c336 hF
              refine xy_r (xw_goto 158 dM_rows_142 (by decide)) ?_
              refine xy_r (xw_aload_n dM_rows_158 rfl) ?_
              refine xy_r (xw_iload_n dM_rows_159 rfl) ?_
              obtain ⟨g337, hF⟩ := xg_g hF
              refine xy_r (xg_put dM_rows_160 fM_198 (mV_n g337) (xn_le _) (Nat.le_of_ble_eq_true rfl) (fun _ => rfl) (fun _ => rfl) (mV_pn (q := (nB (r333.2.2.2.1.2.2.2.2.2.1 l1) l3)) g337)) ?_
              refine xy_r (xw_aload_n dM_rows_163 rfl) ?_
              refine xy_r (xw_bipush (125) dM_rows_164 (by decide)) ?_
              rcases xg_o hF with ⟨r338, er338, hF⟩ | ⟨r338, er338, hF⟩
              · have hm339 : m0 ≤ r338.2.2.2.1.2.2.2.2.2.2.1 ∧ n0 ≤ r338.2.2.2.1.2.2.2.2.2.2.2 := xy_le hm334 (show r333.2.2.2.1.2.2.2.2.2.2.1 ≤ r338.2.2.2.1.2.2.2.2.2.2.1 ∧ r333.2.2.2.1.2.2.2.2.2.2.2 ≤ r338.2.2.2.1.2.2.2.2.2.2.2 from (CM_close (w := w) (h := h) hb er338).1)
                refine xy_V0 (sm := r333.2.2.2.1.2.2.2.2.2.2.1) (sn := r333.2.2.2.1.2.2.2.2.2.2.2) (tm := r338.2.2.2.1.2.2.2.2.2.2.1) (tn := r338.2.2.2.1.2.2.2.2.2.2.2) (CM_close hb er338) rfl rfl hm334 (fun _ => rfl) (fun _ => rfl) (fun _ => rfl) (fun _ => dM_rows_166) (fun _ R => kM_289 R) (fun _ => rfl) ⟨(Nat.le_of_ble_eq_true rfl), (Nat.le_of_ble_eq_true rfl)⟩ rfl rfl rfl (fun _ => rfl) (Nat.le_of_ble_eq_true rfl) ?_
                refine xy_r (xw_aload_n dM_rows_169 rfl) ?_
                obtain rfl := Option.some.inj hF
                exact xy_end (xw_areturn dM_rows_170 rfl (Or.inl ⟨_, rfl⟩) (Nat.le_refl _) (Nat.le_refl _) ⟨rfl, rfl⟩)
              · subst hF
                exact xy_Vt (sm := r333.2.2.2.1.2.2.2.2.2.2.1) (sn := r333.2.2.2.1.2.2.2.2.2.2.2) (tm := r338.2.2.2.1.2.2.2.2.2.2.1) (tn := r338.2.2.2.1.2.2.2.2.2.2.2) (CM_close hb er338) rfl rfl hm334 (fun _ => rfl) (fun _ => rfl) (fun _ => rfl) (fun _ => dM_rows_166) (fun _ R => kM_289 R) (fun _ => rfl) ⟨(Nat.le_of_ble_eq_true rfl), (Nat.le_of_ble_eq_true rfl)⟩ rfl rfl rfl (fun _ => rfl) (Nat.le_of_ble_eq_true rfl) ⟨rfl, rfl⟩
        · replace hF := xg_f c323 hF
          refine xy_r (xw_iload_n dM_rows_83 rfl) ?_
          refine xy_r (xw_iload_n dM_rows_84 rfl) ?_
          refine xy_br (xw_icmp_ge 114 dM_rows_85 (by decide)) (fun c341 => ?_) (fun c341 => ?_)
          · replace hF := xg_t c341 hF
            refine xy_r (xw_aload_n dM_rows_114 rfl) ?_
            refine xy_r (xw_get dM_rows_115 fM_195 (mV_n g322) rfl) ?_
            refine xy_brn (xw_if_ne 123 dM_rows_118 (by decide)) (fun c342 => ?_) (fun c342 => ?_)
            · replace hF := xg_f c342 hF
              refine xy_r (xw_aload_n dM_rows_123 rfl) ?_
              refine xy_r (xw_dup_r dM_rows_124) ?_
              refine xy_r (xw_get dM_rows_125 fM_195 (mV_n g322) rfl) ?_
              refine xy_r (xw_iconst (1) dM_rows_128 (by decide)) ?_
              refine xy_r (xw_iadd dM_rows_129) ?_
              refine xy_r (xg_put dM_rows_130 fM_195 (mV_n g322) (xn_le _) (Nat.le_of_ble_eq_true rfl) (fun _ => rfl) (fun _ => rfl) (mV_pn (q := (nA (r318.2.2.2.1.2.2.2.2.2.1 l1) ((r318.2.2.2.1.2.2.2.2.2.1 l1).1.2.1 + 1))) g322)) ?_
              refine xy_r (xw_aload_n dM_rows_133 rfl) ?_
              refine xy_r (xw_bipush (59) dM_rows_134 (by decide)) ?_
              obtain ⟨r343, er343, hF⟩ := xg_b hF
              have hm344 : m0 ≤ r343.2.2.2.1.2.2.2.2.2.2.1 ∧ n0 ≤ r343.2.2.2.1.2.2.2.2.2.2.2 := xy_le hm319 (show r318.2.2.2.1.2.2.2.2.2.2.1 ≤ r343.2.2.2.1.2.2.2.2.2.2.1 ∧ r318.2.2.2.1.2.2.2.2.2.2.2 ≤ r343.2.2.2.1.2.2.2.2.2.2.2 from (CM_next (w := w) (h := h) hb er343).1)
              refine xy_V1 (sm := r318.2.2.2.1.2.2.2.2.2.2.1) (sn := r318.2.2.2.1.2.2.2.2.2.2.2) (tm := r343.2.2.2.1.2.2.2.2.2.2.1) (tn := r343.2.2.2.1.2.2.2.2.2.2.2) (CM_next hb er343) rfl rfl hm319 (fun _ => rfl) (fun _ => rfl) (fun _ => rfl) (fun _ => dM_rows_136) (fun _ R => kM_236 R) (fun _ => rfl) ⟨(Nat.le_of_ble_eq_true rfl), (Nat.le_of_ble_eq_true rfl)⟩ rfl rfl rfl (fun _ => rfl) (Nat.le_of_ble_eq_true rfl) ?_
              refine xy_br (xw_if_neB 145 dM_rows_139 (by decide)) (fun c346 => ?_) (fun c346 => ?_)
              · replace hF := xg_t c346 hF
                refine xy_r (xw_aload_n dM_rows_145 rfl) ?_
                refine xy_r (xw_dup_r dM_rows_146) ?_
                refine xy_r (xw_get dM_rows_147 fM_221 rfl rfl) ?_
                refine xy_r (xw_iconst (1) dM_rows_150 (by decide)) ?_
                refine xy_r (xw_iadd dM_rows_151) ?_
                refine xy_r (xg_put dM_rows_152 fM_221 rfl (by decide) (Nat.le_of_ble_eq_true rfl) (fun _ => rfl) (fun _ => rfl) (mV_o (s' := (r343.2.1, (r343.2.2.1.1, (r343.2.2.1.2.1 + 1), r343.2.2.1.2.2), r343.2.2.2)) rfl)) ?_
                refine xy_r (xw_goto 13 dM_rows_155 (by decide)) ?_
                refine xy_r (xw_drop (L' := [some (.ref 2000), some (.ref (xn l1)), some (.int l2), none]) ⟨rfl, ⟨rfl, ⟨rfl, trivial⟩⟩⟩) ?_
                exact ih.1 hm344 hF
              · replace hF := xg_f c346 hF
                refine xy_r (xw_goto 158 dM_rows_142 (by decide)) ?_
                refine xy_r (xw_aload_n dM_rows_158 rfl) ?_
                refine xy_r (xw_iload_n dM_rows_159 rfl) ?_
                obtain ⟨g347, hF⟩ := xg_g hF
                refine xy_r (xg_put dM_rows_160 fM_198 (mV_n g347) (xn_le _) (Nat.le_of_ble_eq_true rfl) (fun _ => rfl) (fun _ => rfl) (mV_pn (q := (nB (r343.2.2.2.1.2.2.2.2.2.1 l1) l2)) g347)) ?_
                refine xy_r (xw_aload_n dM_rows_163 rfl) ?_
                refine xy_r (xw_bipush (125) dM_rows_164 (by decide)) ?_
                rcases xg_o hF with ⟨r348, er348, hF⟩ | ⟨r348, er348, hF⟩
                · have hm349 : m0 ≤ r348.2.2.2.1.2.2.2.2.2.2.1 ∧ n0 ≤ r348.2.2.2.1.2.2.2.2.2.2.2 := xy_le hm344 (show r343.2.2.2.1.2.2.2.2.2.2.1 ≤ r348.2.2.2.1.2.2.2.2.2.2.1 ∧ r343.2.2.2.1.2.2.2.2.2.2.2 ≤ r348.2.2.2.1.2.2.2.2.2.2.2 from (CM_close (w := w) (h := h) hb er348).1)
                  refine xy_V0 (sm := r343.2.2.2.1.2.2.2.2.2.2.1) (sn := r343.2.2.2.1.2.2.2.2.2.2.2) (tm := r348.2.2.2.1.2.2.2.2.2.2.1) (tn := r348.2.2.2.1.2.2.2.2.2.2.2) (CM_close hb er348) rfl rfl hm344 (fun _ => rfl) (fun _ => rfl) (fun _ => rfl) (fun _ => dM_rows_166) (fun _ R => kM_289 R) (fun _ => rfl) ⟨(Nat.le_of_ble_eq_true rfl), (Nat.le_of_ble_eq_true rfl)⟩ rfl rfl rfl (fun _ => rfl) (Nat.le_of_ble_eq_true rfl) ?_
                  refine xy_r (xw_aload_n dM_rows_169 rfl) ?_
                  obtain rfl := Option.some.inj hF
                  exact xy_end (xw_areturn dM_rows_170 rfl (Or.inl ⟨_, rfl⟩) (Nat.le_refl _) (Nat.le_refl _) ⟨rfl, rfl⟩)
                · subst hF
                  exact xy_Vt (sm := r343.2.2.2.1.2.2.2.2.2.2.1) (sn := r343.2.2.2.1.2.2.2.2.2.2.2) (tm := r348.2.2.2.1.2.2.2.2.2.2.1) (tn := r348.2.2.2.1.2.2.2.2.2.2.2) (CM_close hb er348) rfl rfl hm344 (fun _ => rfl) (fun _ => rfl) (fun _ => rfl) (fun _ => dM_rows_166) (fun _ R => kM_289 R) (fun _ => rfl) ⟨(Nat.le_of_ble_eq_true rfl), (Nat.le_of_ble_eq_true rfl)⟩ rfl rfl rfl (fun _ => rfl) (Nat.le_of_ble_eq_true rfl) ⟨rfl, rfl⟩
            · replace hF := xg_t c342 hF
              refine xy_r (xw_iload_n dM_rows_121 rfl) ?_
              refine xy_r (xw_istore_n dM_rows_122 (Nat.le_of_ble_eq_true rfl)) ?_
              refine xy_r (xw_Ln (L' := [some (.ref 2000), some (.ref (xn l1)), some (.int l3), some (.int l3)]) rfl) ?_
              refine xy_r (xw_aload_n dM_rows_123 rfl) ?_
              refine xy_r (xw_dup_r dM_rows_124) ?_
              refine xy_r (xw_get dM_rows_125 fM_195 (mV_n g322) rfl) ?_
              refine xy_r (xw_iconst (1) dM_rows_128 (by decide)) ?_
              refine xy_r (xw_iadd dM_rows_129) ?_
              refine xy_r (xg_put dM_rows_130 fM_195 (mV_n g322) (xn_le _) (Nat.le_of_ble_eq_true rfl) (fun _ => rfl) (fun _ => rfl) (mV_pn (q := (nA (r318.2.2.2.1.2.2.2.2.2.1 l1) ((r318.2.2.2.1.2.2.2.2.2.1 l1).1.2.1 + 1))) g322)) ?_
              refine xy_r (xw_aload_n dM_rows_133 rfl) ?_
              refine xy_r (xw_bipush (59) dM_rows_134 (by decide)) ?_
              obtain ⟨r351, er351, hF⟩ := xg_b hF
              have hm352 : m0 ≤ r351.2.2.2.1.2.2.2.2.2.2.1 ∧ n0 ≤ r351.2.2.2.1.2.2.2.2.2.2.2 := xy_le hm319 (show r318.2.2.2.1.2.2.2.2.2.2.1 ≤ r351.2.2.2.1.2.2.2.2.2.2.1 ∧ r318.2.2.2.1.2.2.2.2.2.2.2 ≤ r351.2.2.2.1.2.2.2.2.2.2.2 from (CM_next (w := w) (h := h) hb er351).1)
              refine xy_V1 (sm := r318.2.2.2.1.2.2.2.2.2.2.1) (sn := r318.2.2.2.1.2.2.2.2.2.2.2) (tm := r351.2.2.2.1.2.2.2.2.2.2.1) (tn := r351.2.2.2.1.2.2.2.2.2.2.2) (CM_next hb er351) rfl rfl hm319 (fun _ => rfl) (fun _ => rfl) (fun _ => rfl) (fun _ => dM_rows_136) (fun _ R => kM_236 R) (fun _ => rfl) ⟨(Nat.le_of_ble_eq_true rfl), (Nat.le_of_ble_eq_true rfl)⟩ rfl rfl rfl (fun _ => rfl) (Nat.le_of_ble_eq_true rfl) ?_
              refine xy_br (xw_if_neB 145 dM_rows_139 (by decide)) (fun c354 => ?_) (fun c354 => ?_)
              · replace hF := xg_t c354 hF
                refine xy_r (xw_aload_n dM_rows_145 rfl) ?_
                refine xy_r (xw_dup_r dM_rows_146) ?_
                refine xy_r (xw_get dM_rows_147 fM_221 rfl rfl) ?_
                refine xy_r (xw_iconst (1) dM_rows_150 (by decide)) ?_
                refine xy_r (xw_iadd dM_rows_151) ?_
                refine xy_r (xg_put dM_rows_152 fM_221 rfl (by decide) (Nat.le_of_ble_eq_true rfl) (fun _ => rfl) (fun _ => rfl) (mV_o (s' := (r351.2.1, (r351.2.2.1.1, (r351.2.2.1.2.1 + 1), r351.2.2.1.2.2), r351.2.2.2)) rfl)) ?_
                refine xy_r (xw_goto 13 dM_rows_155 (by decide)) ?_
                refine xy_r (xw_drop (L' := [some (.ref 2000), some (.ref (xn l1)), some (.int l3), none]) ⟨rfl, ⟨rfl, ⟨rfl, trivial⟩⟩⟩) ?_
                exact ih.1 hm352 hF
              · replace hF := xg_f c354 hF
                refine xy_r (xw_goto 158 dM_rows_142 (by decide)) ?_
                refine xy_r (xw_aload_n dM_rows_158 rfl) ?_
                refine xy_r (xw_iload_n dM_rows_159 rfl) ?_
                obtain ⟨g355, hF⟩ := xg_g hF
                refine xy_r (xg_put dM_rows_160 fM_198 (mV_n g355) (xn_le _) (Nat.le_of_ble_eq_true rfl) (fun _ => rfl) (fun _ => rfl) (mV_pn (q := (nB (r351.2.2.2.1.2.2.2.2.2.1 l1) l3)) g355)) ?_
                refine xy_r (xw_aload_n dM_rows_163 rfl) ?_
                refine xy_r (xw_bipush (125) dM_rows_164 (by decide)) ?_
                rcases xg_o hF with ⟨r356, er356, hF⟩ | ⟨r356, er356, hF⟩
                · have hm357 : m0 ≤ r356.2.2.2.1.2.2.2.2.2.2.1 ∧ n0 ≤ r356.2.2.2.1.2.2.2.2.2.2.2 := xy_le hm352 (show r351.2.2.2.1.2.2.2.2.2.2.1 ≤ r356.2.2.2.1.2.2.2.2.2.2.1 ∧ r351.2.2.2.1.2.2.2.2.2.2.2 ≤ r356.2.2.2.1.2.2.2.2.2.2.2 from (CM_close (w := w) (h := h) hb er356).1)
                  refine xy_V0 (sm := r351.2.2.2.1.2.2.2.2.2.2.1) (sn := r351.2.2.2.1.2.2.2.2.2.2.2) (tm := r356.2.2.2.1.2.2.2.2.2.2.1) (tn := r356.2.2.2.1.2.2.2.2.2.2.2) (CM_close hb er356) rfl rfl hm352 (fun _ => rfl) (fun _ => rfl) (fun _ => rfl) (fun _ => dM_rows_166) (fun _ R => kM_289 R) (fun _ => rfl) ⟨(Nat.le_of_ble_eq_true rfl), (Nat.le_of_ble_eq_true rfl)⟩ rfl rfl rfl (fun _ => rfl) (Nat.le_of_ble_eq_true rfl) ?_
                  refine xy_r (xw_aload_n dM_rows_169 rfl) ?_
                  obtain rfl := Option.some.inj hF
                  exact xy_end (xw_areturn dM_rows_170 rfl (Or.inl ⟨_, rfl⟩) (Nat.le_refl _) (Nat.le_refl _) ⟨rfl, rfl⟩)
                · subst hF
                  exact xy_Vt (sm := r351.2.2.2.1.2.2.2.2.2.2.1) (sn := r351.2.2.2.1.2.2.2.2.2.2.2) (tm := r356.2.2.2.1.2.2.2.2.2.2.1) (tn := r356.2.2.2.1.2.2.2.2.2.2.2) (CM_close hb er356) rfl rfl hm352 (fun _ => rfl) (fun _ => rfl) (fun _ => rfl) (fun _ => dM_rows_166) (fun _ R => kM_289 R) (fun _ => rfl) ⟨(Nat.le_of_ble_eq_true rfl), (Nat.le_of_ble_eq_true rfl)⟩ rfl rfl rfl (fun _ => rfl) (Nat.le_of_ble_eq_true rfl) ⟨rfl, rfl⟩
          · replace hF := xg_f c341 hF
            refine xy_r (xw_aload_n dM_rows_88 rfl) ?_
            obtain ⟨r359, er359, hF⟩ := xg_b hF
            refine xy_q (fun hq => xg_V1 (k1 := _) (n1 := _) (CM_peek er359) rfl rfl rfl dM_rows_89 (kM_230 _) ⟨Nat.le_of_ble_eq_true rfl, Nat.le_of_ble_eq_true rfl⟩ rfl rfl rfl rfl (Nat.le_of_ble_eq_true rfl) (Nat.le_refl _) (Nat.le_refl _) (Nat.sub_le_sub_right hq.1 _) (Nat.sub_le_sub_right hq.2 _)) ?_
            refine xy_r (xw_bipush (59) dM_rows_92 (by decide)) ?_
            refine xy_br (xw_icmp_eq 106 dM_rows_94 (by decide)) (fun c360 => ?_) (fun c360 => ?_)
            · replace hF := xg_t c360 hF
              refine xy_r (xw_aload_n dM_rows_106 rfl) ?_
              refine xy_r (xw_aload_n dM_rows_107 rfl) ?_
              refine xy_r (xw_get dM_rows_108 fM_221 rfl rfl) ?_
              rcases xg_o hF with ⟨r361, er361, hF⟩ | ⟨r361, er361, hF⟩
              · have hm362 : m0 ≤ r361.2.2.2.1.2.2.2.2.2.2.1 ∧ n0 ≤ r361.2.2.2.1.2.2.2.2.2.2.2 := xy_le hm319 (show r318.2.2.2.1.2.2.2.2.2.2.1 ≤ r361.2.2.2.1.2.2.2.2.2.2.1 ∧ r318.2.2.2.1.2.2.2.2.2.2.2 ≤ r361.2.2.2.1.2.2.2.2.2.2.2 from (CM_bad (w := w) (h := h) hb er361).1)
                refine xy_V0 (sm := r318.2.2.2.1.2.2.2.2.2.2.1) (sn := r318.2.2.2.1.2.2.2.2.2.2.2) (tm := r361.2.2.2.1.2.2.2.2.2.2.1) (tn := r361.2.2.2.1.2.2.2.2.2.2.2) (CM_bad hb er361) rfl rfl hm319 (fun _ => rfl) (fun _ => rfl) (fun _ => rfl) (fun _ => dM_rows_111) (fun _ R => kM_239 R) (fun _ => rfl) ⟨(Nat.le_of_ble_eq_true rfl), (Nat.le_of_ble_eq_true rfl)⟩ rfl rfl rfl (fun _ => rfl) (Nat.le_of_ble_eq_true rfl) ?_
                refine xy_r (xw_aload_n dM_rows_114 rfl) ?_
                obtain ⟨g364, hF⟩ := xg_g hF
                refine xy_r (xw_get dM_rows_115 fM_195 (mV_n g364) rfl) ?_
                refine xy_brn (xw_if_ne 123 dM_rows_118 (by decide)) (fun c365 => ?_) (fun c365 => ?_)
                · replace hF := xg_f c365 hF
                  refine xy_r (xw_aload_n dM_rows_123 rfl) ?_
                  refine xy_r (xw_dup_r dM_rows_124) ?_
                  refine xy_r (xw_get dM_rows_125 fM_195 (mV_n g364) rfl) ?_
                  refine xy_r (xw_iconst (1) dM_rows_128 (by decide)) ?_
                  refine xy_r (xw_iadd dM_rows_129) ?_
                  refine xy_r (xg_put dM_rows_130 fM_195 (mV_n g364) (xn_le _) (Nat.le_of_ble_eq_true rfl) (fun _ => rfl) (fun _ => rfl) (mV_pn (q := (nA (r361.2.2.2.1.2.2.2.2.2.1 l1) ((r361.2.2.2.1.2.2.2.2.2.1 l1).1.2.1 + 1))) g364)) ?_
                  refine xy_r (xw_aload_n dM_rows_133 rfl) ?_
                  refine xy_r (xw_bipush (59) dM_rows_134 (by decide)) ?_
                  obtain ⟨r366, er366, hF⟩ := xg_b hF
                  have hm367 : m0 ≤ r366.2.2.2.1.2.2.2.2.2.2.1 ∧ n0 ≤ r366.2.2.2.1.2.2.2.2.2.2.2 := xy_le hm362 (show r361.2.2.2.1.2.2.2.2.2.2.1 ≤ r366.2.2.2.1.2.2.2.2.2.2.1 ∧ r361.2.2.2.1.2.2.2.2.2.2.2 ≤ r366.2.2.2.1.2.2.2.2.2.2.2 from (CM_next (w := w) (h := h) hb er366).1)
                  refine xy_V1 (sm := r361.2.2.2.1.2.2.2.2.2.2.1) (sn := r361.2.2.2.1.2.2.2.2.2.2.2) (tm := r366.2.2.2.1.2.2.2.2.2.2.1) (tn := r366.2.2.2.1.2.2.2.2.2.2.2) (CM_next hb er366) rfl rfl hm362 (fun _ => rfl) (fun _ => rfl) (fun _ => rfl) (fun _ => dM_rows_136) (fun _ R => kM_236 R) (fun _ => rfl) ⟨(Nat.le_of_ble_eq_true rfl), (Nat.le_of_ble_eq_true rfl)⟩ rfl rfl rfl (fun _ => rfl) (Nat.le_of_ble_eq_true rfl) ?_
                  refine xy_br (xw_if_neB 145 dM_rows_139 (by decide)) (fun c369 => ?_) (fun c369 => ?_)
                  · replace hF := xg_t c369 hF
                    refine xy_r (xw_aload_n dM_rows_145 rfl) ?_
                    refine xy_r (xw_dup_r dM_rows_146) ?_
                    refine xy_r (xw_get dM_rows_147 fM_221 rfl rfl) ?_
                    refine xy_r (xw_iconst (1) dM_rows_150 (by decide)) ?_
                    refine xy_r (xw_iadd dM_rows_151) ?_
                    refine xy_r (xg_put dM_rows_152 fM_221 rfl (by decide) (Nat.le_of_ble_eq_true rfl) (fun _ => rfl) (fun _ => rfl) (mV_o (s' := (r366.2.1, (r366.2.2.1.1, (r366.2.2.1.2.1 + 1), r366.2.2.1.2.2), r366.2.2.2)) rfl)) ?_
                    refine xy_r (xw_goto 13 dM_rows_155 (by decide)) ?_
                    refine xy_r (xw_drop (L' := [some (.ref 2000), some (.ref (xn l1)), some (.int l2), none]) ⟨rfl, ⟨rfl, ⟨rfl, trivial⟩⟩⟩) ?_
                    exact ih.1 hm367 hF
                  · replace hF := xg_f c369 hF
                    refine xy_r (xw_goto 158 dM_rows_142 (by decide)) ?_
                    refine xy_r (xw_aload_n dM_rows_158 rfl) ?_
                    refine xy_r (xw_iload_n dM_rows_159 rfl) ?_
                    obtain ⟨g370, hF⟩ := xg_g hF
                    refine xy_r (xg_put dM_rows_160 fM_198 (mV_n g370) (xn_le _) (Nat.le_of_ble_eq_true rfl) (fun _ => rfl) (fun _ => rfl) (mV_pn (q := (nB (r366.2.2.2.1.2.2.2.2.2.1 l1) l2)) g370)) ?_
                    refine xy_r (xw_aload_n dM_rows_163 rfl) ?_
                    refine xy_r (xw_bipush (125) dM_rows_164 (by decide)) ?_
                    rcases xg_o hF with ⟨r371, er371, hF⟩ | ⟨r371, er371, hF⟩
                    · have hm372 : m0 ≤ r371.2.2.2.1.2.2.2.2.2.2.1 ∧ n0 ≤ r371.2.2.2.1.2.2.2.2.2.2.2 := xy_le hm367 (show r366.2.2.2.1.2.2.2.2.2.2.1 ≤ r371.2.2.2.1.2.2.2.2.2.2.1 ∧ r366.2.2.2.1.2.2.2.2.2.2.2 ≤ r371.2.2.2.1.2.2.2.2.2.2.2 from (CM_close (w := w) (h := h) hb er371).1)
                      refine xy_V0 (sm := r366.2.2.2.1.2.2.2.2.2.2.1) (sn := r366.2.2.2.1.2.2.2.2.2.2.2) (tm := r371.2.2.2.1.2.2.2.2.2.2.1) (tn := r371.2.2.2.1.2.2.2.2.2.2.2) (CM_close hb er371) rfl rfl hm367 (fun _ => rfl) (fun _ => rfl) (fun _ => rfl) (fun _ => dM_rows_166) (fun _ R => kM_289 R) (fun _ => rfl) ⟨(Nat.le_of_ble_eq_true rfl), (Nat.le_of_ble_eq_true rfl)⟩ rfl rfl rfl (fun _ => rfl) (Nat.le_of_ble_eq_true rfl) ?_
                      refine xy_r (xw_aload_n dM_rows_169 rfl) ?_
                      obtain rfl := Option.some.inj hF
                      exact xy_end (xw_areturn dM_rows_170 rfl (Or.inl ⟨_, rfl⟩) (Nat.le_refl _) (Nat.le_refl _) ⟨rfl, rfl⟩)
                    · subst hF
                      exact xy_Vt (sm := r366.2.2.2.1.2.2.2.2.2.2.1) (sn := r366.2.2.2.1.2.2.2.2.2.2.2) (tm := r371.2.2.2.1.2.2.2.2.2.2.1) (tn := r371.2.2.2.1.2.2.2.2.2.2.2) (CM_close hb er371) rfl rfl hm367 (fun _ => rfl) (fun _ => rfl) (fun _ => rfl) (fun _ => dM_rows_166) (fun _ R => kM_289 R) (fun _ => rfl) ⟨(Nat.le_of_ble_eq_true rfl), (Nat.le_of_ble_eq_true rfl)⟩ rfl rfl rfl (fun _ => rfl) (Nat.le_of_ble_eq_true rfl) ⟨rfl, rfl⟩
                · replace hF := xg_t c365 hF
                  refine xy_r (xw_iload_n dM_rows_121 rfl) ?_
                  refine xy_r (xw_istore_n dM_rows_122 (Nat.le_of_ble_eq_true rfl)) ?_
                  refine xy_r (xw_Ln (L' := [some (.ref 2000), some (.ref (xn l1)), some (.int l3), some (.int l3)]) rfl) ?_
                  refine xy_r (xw_aload_n dM_rows_123 rfl) ?_
                  refine xy_r (xw_dup_r dM_rows_124) ?_
                  refine xy_r (xw_get dM_rows_125 fM_195 (mV_n g364) rfl) ?_
                  refine xy_r (xw_iconst (1) dM_rows_128 (by decide)) ?_
                  refine xy_r (xw_iadd dM_rows_129) ?_
                  refine xy_r (xg_put dM_rows_130 fM_195 (mV_n g364) (xn_le _) (Nat.le_of_ble_eq_true rfl) (fun _ => rfl) (fun _ => rfl) (mV_pn (q := (nA (r361.2.2.2.1.2.2.2.2.2.1 l1) ((r361.2.2.2.1.2.2.2.2.2.1 l1).1.2.1 + 1))) g364)) ?_
                  refine xy_r (xw_aload_n dM_rows_133 rfl) ?_
                  refine xy_r (xw_bipush (59) dM_rows_134 (by decide)) ?_
                  obtain ⟨r374, er374, hF⟩ := xg_b hF
                  have hm375 : m0 ≤ r374.2.2.2.1.2.2.2.2.2.2.1 ∧ n0 ≤ r374.2.2.2.1.2.2.2.2.2.2.2 := xy_le hm362 (show r361.2.2.2.1.2.2.2.2.2.2.1 ≤ r374.2.2.2.1.2.2.2.2.2.2.1 ∧ r361.2.2.2.1.2.2.2.2.2.2.2 ≤ r374.2.2.2.1.2.2.2.2.2.2.2 from (CM_next (w := w) (h := h) hb er374).1)
                  refine xy_V1 (sm := r361.2.2.2.1.2.2.2.2.2.2.1) (sn := r361.2.2.2.1.2.2.2.2.2.2.2) (tm := r374.2.2.2.1.2.2.2.2.2.2.1) (tn := r374.2.2.2.1.2.2.2.2.2.2.2) (CM_next hb er374) rfl rfl hm362 (fun _ => rfl) (fun _ => rfl) (fun _ => rfl) (fun _ => dM_rows_136) (fun _ R => kM_236 R) (fun _ => rfl) ⟨(Nat.le_of_ble_eq_true rfl), (Nat.le_of_ble_eq_true rfl)⟩ rfl rfl rfl (fun _ => rfl) (Nat.le_of_ble_eq_true rfl) ?_
                  refine xy_br (xw_if_neB 145 dM_rows_139 (by decide)) (fun c377 => ?_) (fun c377 => ?_)
                  · replace hF := xg_t c377 hF
                    refine xy_r (xw_aload_n dM_rows_145 rfl) ?_
                    refine xy_r (xw_dup_r dM_rows_146) ?_
                    refine xy_r (xw_get dM_rows_147 fM_221 rfl rfl) ?_
                    refine xy_r (xw_iconst (1) dM_rows_150 (by decide)) ?_
                    refine xy_r (xw_iadd dM_rows_151) ?_
                    refine xy_r (xg_put dM_rows_152 fM_221 rfl (by decide) (Nat.le_of_ble_eq_true rfl) (fun _ => rfl) (fun _ => rfl) (mV_o (s' := (r374.2.1, (r374.2.2.1.1, (r374.2.2.1.2.1 + 1), r374.2.2.1.2.2), r374.2.2.2)) rfl)) ?_
                    refine xy_r (xw_goto 13 dM_rows_155 (by decide)) ?_
                    refine xy_r (xw_drop (L' := [some (.ref 2000), some (.ref (xn l1)), some (.int l3), none]) ⟨rfl, ⟨rfl, ⟨rfl, trivial⟩⟩⟩) ?_
                    exact ih.1 hm375 hF
                  · replace hF := xg_f c377 hF
                    refine xy_r (xw_goto 158 dM_rows_142 (by decide)) ?_
                    refine xy_r (xw_aload_n dM_rows_158 rfl) ?_
                    refine xy_r (xw_iload_n dM_rows_159 rfl) ?_
                    obtain ⟨g378, hF⟩ := xg_g hF
                    refine xy_r (xg_put dM_rows_160 fM_198 (mV_n g378) (xn_le _) (Nat.le_of_ble_eq_true rfl) (fun _ => rfl) (fun _ => rfl) (mV_pn (q := (nB (r374.2.2.2.1.2.2.2.2.2.1 l1) l3)) g378)) ?_
                    refine xy_r (xw_aload_n dM_rows_163 rfl) ?_
                    refine xy_r (xw_bipush (125) dM_rows_164 (by decide)) ?_
                    rcases xg_o hF with ⟨r379, er379, hF⟩ | ⟨r379, er379, hF⟩
                    · have hm380 : m0 ≤ r379.2.2.2.1.2.2.2.2.2.2.1 ∧ n0 ≤ r379.2.2.2.1.2.2.2.2.2.2.2 := xy_le hm375 (show r374.2.2.2.1.2.2.2.2.2.2.1 ≤ r379.2.2.2.1.2.2.2.2.2.2.1 ∧ r374.2.2.2.1.2.2.2.2.2.2.2 ≤ r379.2.2.2.1.2.2.2.2.2.2.2 from (CM_close (w := w) (h := h) hb er379).1)
                      refine xy_V0 (sm := r374.2.2.2.1.2.2.2.2.2.2.1) (sn := r374.2.2.2.1.2.2.2.2.2.2.2) (tm := r379.2.2.2.1.2.2.2.2.2.2.1) (tn := r379.2.2.2.1.2.2.2.2.2.2.2) (CM_close hb er379) rfl rfl hm375 (fun _ => rfl) (fun _ => rfl) (fun _ => rfl) (fun _ => dM_rows_166) (fun _ R => kM_289 R) (fun _ => rfl) ⟨(Nat.le_of_ble_eq_true rfl), (Nat.le_of_ble_eq_true rfl)⟩ rfl rfl rfl (fun _ => rfl) (Nat.le_of_ble_eq_true rfl) ?_
                      refine xy_r (xw_aload_n dM_rows_169 rfl) ?_
                      obtain rfl := Option.some.inj hF
                      exact xy_end (xw_areturn dM_rows_170 rfl (Or.inl ⟨_, rfl⟩) (Nat.le_refl _) (Nat.le_refl _) ⟨rfl, rfl⟩)
                    · subst hF
                      exact xy_Vt (sm := r374.2.2.2.1.2.2.2.2.2.2.1) (sn := r374.2.2.2.1.2.2.2.2.2.2.2) (tm := r379.2.2.2.1.2.2.2.2.2.2.1) (tn := r379.2.2.2.1.2.2.2.2.2.2.2) (CM_close hb er379) rfl rfl hm375 (fun _ => rfl) (fun _ => rfl) (fun _ => rfl) (fun _ => dM_rows_166) (fun _ R => kM_289 R) (fun _ => rfl) ⟨(Nat.le_of_ble_eq_true rfl), (Nat.le_of_ble_eq_true rfl)⟩ rfl rfl rfl (fun _ => rfl) (Nat.le_of_ble_eq_true rfl) ⟨rfl, rfl⟩
              · subst hF
                exact xy_Vt (sm := r318.2.2.2.1.2.2.2.2.2.2.1) (sn := r318.2.2.2.1.2.2.2.2.2.2.2) (tm := r361.2.2.2.1.2.2.2.2.2.2.1) (tn := r361.2.2.2.1.2.2.2.2.2.2.2) (CM_bad hb er361) rfl rfl hm319 (fun _ => rfl) (fun _ => rfl) (fun _ => rfl) (fun _ => dM_rows_111) (fun _ R => kM_239 R) (fun _ => rfl) ⟨(Nat.le_of_ble_eq_true rfl), (Nat.le_of_ble_eq_true rfl)⟩ rfl rfl rfl (fun _ => rfl) (Nat.le_of_ble_eq_true rfl) ⟨rfl, rfl⟩
            · replace hF := xg_f c360 hF
              refine xy_r (xw_aload_n dM_rows_97 rfl) ?_
              obtain ⟨r382, er382, hF⟩ := xg_b hF
              refine xy_q (fun hq => xg_V1 (k1 := _) (n1 := _) (CM_peek er382) rfl rfl rfl dM_rows_98 (kM_230 _) ⟨Nat.le_of_ble_eq_true rfl, Nat.le_of_ble_eq_true rfl⟩ rfl rfl rfl rfl (Nat.le_of_ble_eq_true rfl) (Nat.le_refl _) (Nat.le_refl _) (Nat.sub_le_sub_right hq.1 _) (Nat.sub_le_sub_right hq.2 _)) ?_
              refine xy_r (xw_bipush (125) dM_rows_101 (by decide)) ?_
              refine xy_brn (xw_icmp_ne 114 dM_rows_103 (by decide)) (fun c383 => ?_) (fun c383 => ?_)
              · replace hF := xg_f c383 hF
                refine xy_r (xw_aload_n dM_rows_114 rfl) ?_
                refine xy_r (xw_get dM_rows_115 fM_195 (mV_n g322) rfl) ?_
                refine xy_brn (xw_if_ne 123 dM_rows_118 (by decide)) (fun c384 => ?_) (fun c384 => ?_)
                · replace hF := xg_f c384 hF
                  refine xy_r (xw_aload_n dM_rows_123 rfl) ?_
                  refine xy_r (xw_dup_r dM_rows_124) ?_
                  refine xy_r (xw_get dM_rows_125 fM_195 (mV_n g322) rfl) ?_
                  refine xy_r (xw_iconst (1) dM_rows_128 (by decide)) ?_
                  refine xy_r (xw_iadd dM_rows_129) ?_
                  refine xy_r (xg_put dM_rows_130 fM_195 (mV_n g322) (xn_le _) (Nat.le_of_ble_eq_true rfl) (fun _ => rfl) (fun _ => rfl) (mV_pn (q := (nA (r318.2.2.2.1.2.2.2.2.2.1 l1) ((r318.2.2.2.1.2.2.2.2.2.1 l1).1.2.1 + 1))) g322)) ?_
                  refine xy_r (xw_aload_n dM_rows_133 rfl) ?_
                  refine xy_r (xw_bipush (59) dM_rows_134 (by decide)) ?_
                  obtain ⟨r385, er385, hF⟩ := xg_b hF
                  have hm386 : m0 ≤ r385.2.2.2.1.2.2.2.2.2.2.1 ∧ n0 ≤ r385.2.2.2.1.2.2.2.2.2.2.2 := xy_le hm319 (show r318.2.2.2.1.2.2.2.2.2.2.1 ≤ r385.2.2.2.1.2.2.2.2.2.2.1 ∧ r318.2.2.2.1.2.2.2.2.2.2.2 ≤ r385.2.2.2.1.2.2.2.2.2.2.2 from (CM_next (w := w) (h := h) hb er385).1)
                  refine xy_V1 (sm := r318.2.2.2.1.2.2.2.2.2.2.1) (sn := r318.2.2.2.1.2.2.2.2.2.2.2) (tm := r385.2.2.2.1.2.2.2.2.2.2.1) (tn := r385.2.2.2.1.2.2.2.2.2.2.2) (CM_next hb er385) rfl rfl hm319 (fun _ => rfl) (fun _ => rfl) (fun _ => rfl) (fun _ => dM_rows_136) (fun _ R => kM_236 R) (fun _ => rfl) ⟨(Nat.le_of_ble_eq_true rfl), (Nat.le_of_ble_eq_true rfl)⟩ rfl rfl rfl (fun _ => rfl) (Nat.le_of_ble_eq_true rfl) ?_
                  refine xy_br (xw_if_neB 145 dM_rows_139 (by decide)) (fun c388 => ?_) (fun c388 => ?_)
                  · replace hF := xg_t c388 hF
                    refine xy_r (xw_aload_n dM_rows_145 rfl) ?_
                    refine xy_r (xw_dup_r dM_rows_146) ?_
                    refine xy_r (xw_get dM_rows_147 fM_221 rfl rfl) ?_
                    refine xy_r (xw_iconst (1) dM_rows_150 (by decide)) ?_
                    refine xy_r (xw_iadd dM_rows_151) ?_
                    refine xy_r (xg_put dM_rows_152 fM_221 rfl (by decide) (Nat.le_of_ble_eq_true rfl) (fun _ => rfl) (fun _ => rfl) (mV_o (s' := (r385.2.1, (r385.2.2.1.1, (r385.2.2.1.2.1 + 1), r385.2.2.1.2.2), r385.2.2.2)) rfl)) ?_
                    refine xy_r (xw_goto 13 dM_rows_155 (by decide)) ?_
                    refine xy_r (xw_drop (L' := [some (.ref 2000), some (.ref (xn l1)), some (.int l2), none]) ⟨rfl, ⟨rfl, ⟨rfl, trivial⟩⟩⟩) ?_
                    exact ih.1 hm386 hF
                  · replace hF := xg_f c388 hF
                    refine xy_r (xw_goto 158 dM_rows_142 (by decide)) ?_
                    refine xy_r (xw_aload_n dM_rows_158 rfl) ?_
                    refine xy_r (xw_iload_n dM_rows_159 rfl) ?_
                    obtain ⟨g389, hF⟩ := xg_g hF
                    refine xy_r (xg_put dM_rows_160 fM_198 (mV_n g389) (xn_le _) (Nat.le_of_ble_eq_true rfl) (fun _ => rfl) (fun _ => rfl) (mV_pn (q := (nB (r385.2.2.2.1.2.2.2.2.2.1 l1) l2)) g389)) ?_
                    refine xy_r (xw_aload_n dM_rows_163 rfl) ?_
                    refine xy_r (xw_bipush (125) dM_rows_164 (by decide)) ?_
                    rcases xg_o hF with ⟨r390, er390, hF⟩ | ⟨r390, er390, hF⟩
                    · have hm391 : m0 ≤ r390.2.2.2.1.2.2.2.2.2.2.1 ∧ n0 ≤ r390.2.2.2.1.2.2.2.2.2.2.2 := xy_le hm386 (show r385.2.2.2.1.2.2.2.2.2.2.1 ≤ r390.2.2.2.1.2.2.2.2.2.2.1 ∧ r385.2.2.2.1.2.2.2.2.2.2.2 ≤ r390.2.2.2.1.2.2.2.2.2.2.2 from (CM_close (w := w) (h := h) hb er390).1)
                      refine xy_V0 (sm := r385.2.2.2.1.2.2.2.2.2.2.1) (sn := r385.2.2.2.1.2.2.2.2.2.2.2) (tm := r390.2.2.2.1.2.2.2.2.2.2.1) (tn := r390.2.2.2.1.2.2.2.2.2.2.2) (CM_close hb er390) rfl rfl hm386 (fun _ => rfl) (fun _ => rfl) (fun _ => rfl) (fun _ => dM_rows_166) (fun _ R => kM_289 R) (fun _ => rfl) ⟨(Nat.le_of_ble_eq_true rfl), (Nat.le_of_ble_eq_true rfl)⟩ rfl rfl rfl (fun _ => rfl) (Nat.le_of_ble_eq_true rfl) ?_
                      refine xy_r (xw_aload_n dM_rows_169 rfl) ?_
                      obtain rfl := Option.some.inj hF
                      exact xy_end (xw_areturn dM_rows_170 rfl (Or.inl ⟨_, rfl⟩) (Nat.le_refl _) (Nat.le_refl _) ⟨rfl, rfl⟩)
                    · subst hF
                      exact xy_Vt (sm := r385.2.2.2.1.2.2.2.2.2.2.1) (sn := r385.2.2.2.1.2.2.2.2.2.2.2) (tm := r390.2.2.2.1.2.2.2.2.2.2.1) (tn := r390.2.2.2.1.2.2.2.2.2.2.2) (CM_close hb er390) rfl rfl hm386 (fun _ => rfl) (fun _ => rfl) (fun _ => rfl) (fun _ => dM_rows_166) (fun _ R => kM_289 R) (fun _ => rfl) ⟨(Nat.le_of_ble_eq_true rfl), (Nat.le_of_ble_eq_true rfl)⟩ rfl rfl rfl (fun _ => rfl) (Nat.le_of_ble_eq_true rfl) ⟨rfl, rfl⟩
                · replace hF := xg_t c384 hF
                  refine xy_r (xw_iload_n dM_rows_121 rfl) ?_
                  refine xy_r (xw_istore_n dM_rows_122 (Nat.le_of_ble_eq_true rfl)) ?_
                  refine xy_r (xw_Ln (L' := [some (.ref 2000), some (.ref (xn l1)), some (.int l3), some (.int l3)]) rfl) ?_
                  refine xy_r (xw_aload_n dM_rows_123 rfl) ?_
                  refine xy_r (xw_dup_r dM_rows_124) ?_
                  refine xy_r (xw_get dM_rows_125 fM_195 (mV_n g322) rfl) ?_
                  refine xy_r (xw_iconst (1) dM_rows_128 (by decide)) ?_
                  refine xy_r (xw_iadd dM_rows_129) ?_
                  refine xy_r (xg_put dM_rows_130 fM_195 (mV_n g322) (xn_le _) (Nat.le_of_ble_eq_true rfl) (fun _ => rfl) (fun _ => rfl) (mV_pn (q := (nA (r318.2.2.2.1.2.2.2.2.2.1 l1) ((r318.2.2.2.1.2.2.2.2.2.1 l1).1.2.1 + 1))) g322)) ?_
                  refine xy_r (xw_aload_n dM_rows_133 rfl) ?_
                  refine xy_r (xw_bipush (59) dM_rows_134 (by decide)) ?_
                  obtain ⟨r393, er393, hF⟩ := xg_b hF
                  have hm394 : m0 ≤ r393.2.2.2.1.2.2.2.2.2.2.1 ∧ n0 ≤ r393.2.2.2.1.2.2.2.2.2.2.2 := xy_le hm319 (show r318.2.2.2.1.2.2.2.2.2.2.1 ≤ r393.2.2.2.1.2.2.2.2.2.2.1 ∧ r318.2.2.2.1.2.2.2.2.2.2.2 ≤ r393.2.2.2.1.2.2.2.2.2.2.2 from (CM_next (w := w) (h := h) hb er393).1)
                  refine xy_V1 (sm := r318.2.2.2.1.2.2.2.2.2.2.1) (sn := r318.2.2.2.1.2.2.2.2.2.2.2) (tm := r393.2.2.2.1.2.2.2.2.2.2.1) (tn := r393.2.2.2.1.2.2.2.2.2.2.2) (CM_next hb er393) rfl rfl hm319 (fun _ => rfl) (fun _ => rfl) (fun _ => rfl) (fun _ => dM_rows_136) (fun _ R => kM_236 R) (fun _ => rfl) ⟨(Nat.le_of_ble_eq_true rfl), (Nat.le_of_ble_eq_true rfl)⟩ rfl rfl rfl (fun _ => rfl) (Nat.le_of_ble_eq_true rfl) ?_
                  refine xy_br (xw_if_neB 145 dM_rows_139 (by decide)) (fun c396 => ?_) (fun c396 => ?_)
                  · replace hF := xg_t c396 hF
                    refine xy_r (xw_aload_n dM_rows_145 rfl) ?_
                    refine xy_r (xw_dup_r dM_rows_146) ?_
                    refine xy_r (xw_get dM_rows_147 fM_221 rfl rfl) ?_
                    refine xy_r (xw_iconst (1) dM_rows_150 (by decide)) ?_
                    refine xy_r (xw_iadd dM_rows_151) ?_
                    refine xy_r (xg_put dM_rows_152 fM_221 rfl (by decide) (Nat.le_of_ble_eq_true rfl) (fun _ => rfl) (fun _ => rfl) (mV_o (s' := (r393.2.1, (r393.2.2.1.1, (r393.2.2.1.2.1 + 1), r393.2.2.1.2.2), r393.2.2.2)) rfl)) ?_
                    refine xy_r (xw_goto 13 dM_rows_155 (by decide)) ?_
                    refine xy_r (xw_drop (L' := [some (.ref 2000), some (.ref (xn l1)), some (.int l3), none]) ⟨rfl, ⟨rfl, ⟨rfl, trivial⟩⟩⟩) ?_
                    exact ih.1 hm394 hF
                  · replace hF := xg_f c396 hF
                    refine xy_r (xw_goto 158 dM_rows_142 (by decide)) ?_
                    refine xy_r (xw_aload_n dM_rows_158 rfl) ?_
                    refine xy_r (xw_iload_n dM_rows_159 rfl) ?_
                    obtain ⟨g397, hF⟩ := xg_g hF
                    refine xy_r (xg_put dM_rows_160 fM_198 (mV_n g397) (xn_le _) (Nat.le_of_ble_eq_true rfl) (fun _ => rfl) (fun _ => rfl) (mV_pn (q := (nB (r393.2.2.2.1.2.2.2.2.2.1 l1) l3)) g397)) ?_
                    refine xy_r (xw_aload_n dM_rows_163 rfl) ?_
                    refine xy_r (xw_bipush (125) dM_rows_164 (by decide)) ?_
                    rcases xg_o hF with ⟨r398, er398, hF⟩ | ⟨r398, er398, hF⟩
                    · have hm399 : m0 ≤ r398.2.2.2.1.2.2.2.2.2.2.1 ∧ n0 ≤ r398.2.2.2.1.2.2.2.2.2.2.2 := xy_le hm394 (show r393.2.2.2.1.2.2.2.2.2.2.1 ≤ r398.2.2.2.1.2.2.2.2.2.2.1 ∧ r393.2.2.2.1.2.2.2.2.2.2.2 ≤ r398.2.2.2.1.2.2.2.2.2.2.2 from (CM_close (w := w) (h := h) hb er398).1)
                      refine xy_V0 (sm := r393.2.2.2.1.2.2.2.2.2.2.1) (sn := r393.2.2.2.1.2.2.2.2.2.2.2) (tm := r398.2.2.2.1.2.2.2.2.2.2.1) (tn := r398.2.2.2.1.2.2.2.2.2.2.2) (CM_close hb er398) rfl rfl hm394 (fun _ => rfl) (fun _ => rfl) (fun _ => rfl) (fun _ => dM_rows_166) (fun _ R => kM_289 R) (fun _ => rfl) ⟨(Nat.le_of_ble_eq_true rfl), (Nat.le_of_ble_eq_true rfl)⟩ rfl rfl rfl (fun _ => rfl) (Nat.le_of_ble_eq_true rfl) ?_
                      refine xy_r (xw_aload_n dM_rows_169 rfl) ?_
                      obtain rfl := Option.some.inj hF
                      exact xy_end (xw_areturn dM_rows_170 rfl (Or.inl ⟨_, rfl⟩) (Nat.le_refl _) (Nat.le_refl _) ⟨rfl, rfl⟩)
                    · subst hF
                      exact xy_Vt (sm := r393.2.2.2.1.2.2.2.2.2.2.1) (sn := r393.2.2.2.1.2.2.2.2.2.2.2) (tm := r398.2.2.2.1.2.2.2.2.2.2.1) (tn := r398.2.2.2.1.2.2.2.2.2.2.2) (CM_close hb er398) rfl rfl hm394 (fun _ => rfl) (fun _ => rfl) (fun _ => rfl) (fun _ => dM_rows_166) (fun _ R => kM_289 R) (fun _ => rfl) ⟨(Nat.le_of_ble_eq_true rfl), (Nat.le_of_ble_eq_true rfl)⟩ rfl rfl rfl (fun _ => rfl) (Nat.le_of_ble_eq_true rfl) ⟨rfl, rfl⟩
              · replace hF := xg_t c383 hF
                refine xy_r (xw_aload_n dM_rows_106 rfl) ?_
                refine xy_r (xw_aload_n dM_rows_107 rfl) ?_
                refine xy_r (xw_get dM_rows_108 fM_221 rfl rfl) ?_
                rcases xg_o hF with ⟨r401, er401, hF⟩ | ⟨r401, er401, hF⟩
                · have hm402 : m0 ≤ r401.2.2.2.1.2.2.2.2.2.2.1 ∧ n0 ≤ r401.2.2.2.1.2.2.2.2.2.2.2 := xy_le hm319 (show r318.2.2.2.1.2.2.2.2.2.2.1 ≤ r401.2.2.2.1.2.2.2.2.2.2.1 ∧ r318.2.2.2.1.2.2.2.2.2.2.2 ≤ r401.2.2.2.1.2.2.2.2.2.2.2 from (CM_bad (w := w) (h := h) hb er401).1)
                  refine xy_V0 (sm := r318.2.2.2.1.2.2.2.2.2.2.1) (sn := r318.2.2.2.1.2.2.2.2.2.2.2) (tm := r401.2.2.2.1.2.2.2.2.2.2.1) (tn := r401.2.2.2.1.2.2.2.2.2.2.2) (CM_bad hb er401) rfl rfl hm319 (fun _ => rfl) (fun _ => rfl) (fun _ => rfl) (fun _ => dM_rows_111) (fun _ R => kM_239 R) (fun _ => rfl) ⟨(Nat.le_of_ble_eq_true rfl), (Nat.le_of_ble_eq_true rfl)⟩ rfl rfl rfl (fun _ => rfl) (Nat.le_of_ble_eq_true rfl) ?_
                  refine xy_r (xw_aload_n dM_rows_114 rfl) ?_
                  obtain ⟨g404, hF⟩ := xg_g hF
                  refine xy_r (xw_get dM_rows_115 fM_195 (mV_n g404) rfl) ?_
                  refine xy_brn (xw_if_ne 123 dM_rows_118 (by decide)) (fun c405 => ?_) (fun c405 => ?_)
                  · replace hF := xg_f c405 hF
                    refine xy_r (xw_aload_n dM_rows_123 rfl) ?_
                    refine xy_r (xw_dup_r dM_rows_124) ?_
                    refine xy_r (xw_get dM_rows_125 fM_195 (mV_n g404) rfl) ?_
                    refine xy_r (xw_iconst (1) dM_rows_128 (by decide)) ?_
                    refine xy_r (xw_iadd dM_rows_129) ?_
                    refine xy_r (xg_put dM_rows_130 fM_195 (mV_n g404) (xn_le _) (Nat.le_of_ble_eq_true rfl) (fun _ => rfl) (fun _ => rfl) (mV_pn (q := (nA (r401.2.2.2.1.2.2.2.2.2.1 l1) ((r401.2.2.2.1.2.2.2.2.2.1 l1).1.2.1 + 1))) g404)) ?_
                    refine xy_r (xw_aload_n dM_rows_133 rfl) ?_
                    refine xy_r (xw_bipush (59) dM_rows_134 (by decide)) ?_
                    obtain ⟨r406, er406, hF⟩ := xg_b hF
                    have hm407 : m0 ≤ r406.2.2.2.1.2.2.2.2.2.2.1 ∧ n0 ≤ r406.2.2.2.1.2.2.2.2.2.2.2 := xy_le hm402 (show r401.2.2.2.1.2.2.2.2.2.2.1 ≤ r406.2.2.2.1.2.2.2.2.2.2.1 ∧ r401.2.2.2.1.2.2.2.2.2.2.2 ≤ r406.2.2.2.1.2.2.2.2.2.2.2 from (CM_next (w := w) (h := h) hb er406).1)
                    refine xy_V1 (sm := r401.2.2.2.1.2.2.2.2.2.2.1) (sn := r401.2.2.2.1.2.2.2.2.2.2.2) (tm := r406.2.2.2.1.2.2.2.2.2.2.1) (tn := r406.2.2.2.1.2.2.2.2.2.2.2) (CM_next hb er406) rfl rfl hm402 (fun _ => rfl) (fun _ => rfl) (fun _ => rfl) (fun _ => dM_rows_136) (fun _ R => kM_236 R) (fun _ => rfl) ⟨(Nat.le_of_ble_eq_true rfl), (Nat.le_of_ble_eq_true rfl)⟩ rfl rfl rfl (fun _ => rfl) (Nat.le_of_ble_eq_true rfl) ?_
                    refine xy_br (xw_if_neB 145 dM_rows_139 (by decide)) (fun c409 => ?_) (fun c409 => ?_)
                    · replace hF := xg_t c409 hF
                      refine xy_r (xw_aload_n dM_rows_145 rfl) ?_
                      refine xy_r (xw_dup_r dM_rows_146) ?_
                      refine xy_r (xw_get dM_rows_147 fM_221 rfl rfl) ?_
                      refine xy_r (xw_iconst (1) dM_rows_150 (by decide)) ?_
                      refine xy_r (xw_iadd dM_rows_151) ?_
                      refine xy_r (xg_put dM_rows_152 fM_221 rfl (by decide) (Nat.le_of_ble_eq_true rfl) (fun _ => rfl) (fun _ => rfl) (mV_o (s' := (r406.2.1, (r406.2.2.1.1, (r406.2.2.1.2.1 + 1), r406.2.2.1.2.2), r406.2.2.2)) rfl)) ?_
                      refine xy_r (xw_goto 13 dM_rows_155 (by decide)) ?_
                      refine xy_r (xw_drop (L' := [some (.ref 2000), some (.ref (xn l1)), some (.int l2), none]) ⟨rfl, ⟨rfl, ⟨rfl, trivial⟩⟩⟩) ?_
                      exact ih.1 hm407 hF
                    · replace hF := xg_f c409 hF
                      refine xy_r (xw_goto 158 dM_rows_142 (by decide)) ?_
                      refine xy_r (xw_aload_n dM_rows_158 rfl) ?_
                      refine xy_r (xw_iload_n dM_rows_159 rfl) ?_
                      obtain ⟨g410, hF⟩ := xg_g hF
                      refine xy_r (xg_put dM_rows_160 fM_198 (mV_n g410) (xn_le _) (Nat.le_of_ble_eq_true rfl) (fun _ => rfl) (fun _ => rfl) (mV_pn (q := (nB (r406.2.2.2.1.2.2.2.2.2.1 l1) l2)) g410)) ?_
                      refine xy_r (xw_aload_n dM_rows_163 rfl) ?_
                      refine xy_r (xw_bipush (125) dM_rows_164 (by decide)) ?_
                      rcases xg_o hF with ⟨r411, er411, hF⟩ | ⟨r411, er411, hF⟩
                      · have hm412 : m0 ≤ r411.2.2.2.1.2.2.2.2.2.2.1 ∧ n0 ≤ r411.2.2.2.1.2.2.2.2.2.2.2 := xy_le hm407 (show r406.2.2.2.1.2.2.2.2.2.2.1 ≤ r411.2.2.2.1.2.2.2.2.2.2.1 ∧ r406.2.2.2.1.2.2.2.2.2.2.2 ≤ r411.2.2.2.1.2.2.2.2.2.2.2 from (CM_close (w := w) (h := h) hb er411).1)
                        refine xy_V0 (sm := r406.2.2.2.1.2.2.2.2.2.2.1) (sn := r406.2.2.2.1.2.2.2.2.2.2.2) (tm := r411.2.2.2.1.2.2.2.2.2.2.1) (tn := r411.2.2.2.1.2.2.2.2.2.2.2) (CM_close hb er411) rfl rfl hm407 (fun _ => rfl) (fun _ => rfl) (fun _ => rfl) (fun _ => dM_rows_166) (fun _ R => kM_289 R) (fun _ => rfl) ⟨(Nat.le_of_ble_eq_true rfl), (Nat.le_of_ble_eq_true rfl)⟩ rfl rfl rfl (fun _ => rfl) (Nat.le_of_ble_eq_true rfl) ?_
                        refine xy_r (xw_aload_n dM_rows_169 rfl) ?_
                        obtain rfl := Option.some.inj hF
                        exact xy_end (xw_areturn dM_rows_170 rfl (Or.inl ⟨_, rfl⟩) (Nat.le_refl _) (Nat.le_refl _) ⟨rfl, rfl⟩)
                      · subst hF
                        exact xy_Vt (sm := r406.2.2.2.1.2.2.2.2.2.2.1) (sn := r406.2.2.2.1.2.2.2.2.2.2.2) (tm := r411.2.2.2.1.2.2.2.2.2.2.1) (tn := r411.2.2.2.1.2.2.2.2.2.2.2) (CM_close hb er411) rfl rfl hm407 (fun _ => rfl) (fun _ => rfl) (fun _ => rfl) (fun _ => dM_rows_166) (fun _ R => kM_289 R) (fun _ => rfl) ⟨(Nat.le_of_ble_eq_true rfl), (Nat.le_of_ble_eq_true rfl)⟩ rfl rfl rfl (fun _ => rfl) (Nat.le_of_ble_eq_true rfl) ⟨rfl, rfl⟩
                  · replace hF := xg_t c405 hF
                    refine xy_r (xw_iload_n dM_rows_121 rfl) ?_
                    refine xy_r (xw_istore_n dM_rows_122 (Nat.le_of_ble_eq_true rfl)) ?_
                    refine xy_r (xw_Ln (L' := [some (.ref 2000), some (.ref (xn l1)), some (.int l3), some (.int l3)]) rfl) ?_
                    refine xy_r (xw_aload_n dM_rows_123 rfl) ?_
                    refine xy_r (xw_dup_r dM_rows_124) ?_
                    refine xy_r (xw_get dM_rows_125 fM_195 (mV_n g404) rfl) ?_
                    refine xy_r (xw_iconst (1) dM_rows_128 (by decide)) ?_
                    refine xy_r (xw_iadd dM_rows_129) ?_
                    refine xy_r (xg_put dM_rows_130 fM_195 (mV_n g404) (xn_le _) (Nat.le_of_ble_eq_true rfl) (fun _ => rfl) (fun _ => rfl) (mV_pn (q := (nA (r401.2.2.2.1.2.2.2.2.2.1 l1) ((r401.2.2.2.1.2.2.2.2.2.1 l1).1.2.1 + 1))) g404)) ?_
                    refine xy_r (xw_aload_n dM_rows_133 rfl) ?_
                    refine xy_r (xw_bipush (59) dM_rows_134 (by decide)) ?_
                    obtain ⟨r414, er414, hF⟩ := xg_b hF
                    have hm415 : m0 ≤ r414.2.2.2.1.2.2.2.2.2.2.1 ∧ n0 ≤ r414.2.2.2.1.2.2.2.2.2.2.2 := xy_le hm402 (show r401.2.2.2.1.2.2.2.2.2.2.1 ≤ r414.2.2.2.1.2.2.2.2.2.2.1 ∧ r401.2.2.2.1.2.2.2.2.2.2.2 ≤ r414.2.2.2.1.2.2.2.2.2.2.2 from (CM_next (w := w) (h := h) hb er414).1)
                    refine xy_V1 (sm := r401.2.2.2.1.2.2.2.2.2.2.1) (sn := r401.2.2.2.1.2.2.2.2.2.2.2) (tm := r414.2.2.2.1.2.2.2.2.2.2.1) (tn := r414.2.2.2.1.2.2.2.2.2.2.2) (CM_next hb er414) rfl rfl hm402 (fun _ => rfl) (fun _ => rfl) (fun _ => rfl) (fun _ => dM_rows_136) (fun _ R => kM_236 R) (fun _ => rfl) ⟨(Nat.le_of_ble_eq_true rfl), (Nat.le_of_ble_eq_true rfl)⟩ rfl rfl rfl (fun _ => rfl) (Nat.le_of_ble_eq_true rfl) ?_
                    refine xy_br (xw_if_neB 145 dM_rows_139 (by decide)) (fun c417 => ?_) (fun c417 => ?_)
                    · replace hF := xg_t c417 hF
                      refine xy_r (xw_aload_n dM_rows_145 rfl) ?_
                      refine xy_r (xw_dup_r dM_rows_146) ?_
                      refine xy_r (xw_get dM_rows_147 fM_221 rfl rfl) ?_
                      refine xy_r (xw_iconst (1) dM_rows_150 (by decide)) ?_
                      refine xy_r (xw_iadd dM_rows_151) ?_
                      refine xy_r (xg_put dM_rows_152 fM_221 rfl (by decide) (Nat.le_of_ble_eq_true rfl) (fun _ => rfl) (fun _ => rfl) (mV_o (s' := (r414.2.1, (r414.2.2.1.1, (r414.2.2.1.2.1 + 1), r414.2.2.1.2.2), r414.2.2.2)) rfl)) ?_
                      refine xy_r (xw_goto 13 dM_rows_155 (by decide)) ?_
                      refine xy_r (xw_drop (L' := [some (.ref 2000), some (.ref (xn l1)), some (.int l3), none]) ⟨rfl, ⟨rfl, ⟨rfl, trivial⟩⟩⟩) ?_
                      exact ih.1 hm415 hF
                    · replace hF := xg_f c417 hF
                      refine xy_r (xw_goto 158 dM_rows_142 (by decide)) ?_
                      refine xy_r (xw_aload_n dM_rows_158 rfl) ?_
                      refine xy_r (xw_iload_n dM_rows_159 rfl) ?_
                      obtain ⟨g418, hF⟩ := xg_g hF
                      refine xy_r (xg_put dM_rows_160 fM_198 (mV_n g418) (xn_le _) (Nat.le_of_ble_eq_true rfl) (fun _ => rfl) (fun _ => rfl) (mV_pn (q := (nB (r414.2.2.2.1.2.2.2.2.2.1 l1) l3)) g418)) ?_
                      refine xy_r (xw_aload_n dM_rows_163 rfl) ?_
                      refine xy_r (xw_bipush (125) dM_rows_164 (by decide)) ?_
                      rcases xg_o hF with ⟨r419, er419, hF⟩ | ⟨r419, er419, hF⟩
                      · have hm420 : m0 ≤ r419.2.2.2.1.2.2.2.2.2.2.1 ∧ n0 ≤ r419.2.2.2.1.2.2.2.2.2.2.2 := xy_le hm415 (show r414.2.2.2.1.2.2.2.2.2.2.1 ≤ r419.2.2.2.1.2.2.2.2.2.2.1 ∧ r414.2.2.2.1.2.2.2.2.2.2.2 ≤ r419.2.2.2.1.2.2.2.2.2.2.2 from (CM_close (w := w) (h := h) hb er419).1)
                        refine xy_V0 (sm := r414.2.2.2.1.2.2.2.2.2.2.1) (sn := r414.2.2.2.1.2.2.2.2.2.2.2) (tm := r419.2.2.2.1.2.2.2.2.2.2.1) (tn := r419.2.2.2.1.2.2.2.2.2.2.2) (CM_close hb er419) rfl rfl hm415 (fun _ => rfl) (fun _ => rfl) (fun _ => rfl) (fun _ => dM_rows_166) (fun _ R => kM_289 R) (fun _ => rfl) ⟨(Nat.le_of_ble_eq_true rfl), (Nat.le_of_ble_eq_true rfl)⟩ rfl rfl rfl (fun _ => rfl) (Nat.le_of_ble_eq_true rfl) ?_
                        refine xy_r (xw_aload_n dM_rows_169 rfl) ?_
                        obtain rfl := Option.some.inj hF
                        exact xy_end (xw_areturn dM_rows_170 rfl (Or.inl ⟨_, rfl⟩) (Nat.le_refl _) (Nat.le_refl _) ⟨rfl, rfl⟩)
                      · subst hF
                        exact xy_Vt (sm := r414.2.2.2.1.2.2.2.2.2.2.1) (sn := r414.2.2.2.1.2.2.2.2.2.2.2) (tm := r419.2.2.2.1.2.2.2.2.2.2.1) (tn := r419.2.2.2.1.2.2.2.2.2.2.2) (CM_close hb er419) rfl rfl hm415 (fun _ => rfl) (fun _ => rfl) (fun _ => rfl) (fun _ => dM_rows_166) (fun _ R => kM_289 R) (fun _ => rfl) ⟨(Nat.le_of_ble_eq_true rfl), (Nat.le_of_ble_eq_true rfl)⟩ rfl rfl rfl (fun _ => rfl) (Nat.le_of_ble_eq_true rfl) ⟨rfl, rfl⟩
                · subst hF
                  exact xy_Vt (sm := r318.2.2.2.1.2.2.2.2.2.2.1) (sn := r318.2.2.2.1.2.2.2.2.2.2.2) (tm := r401.2.2.2.1.2.2.2.2.2.2.1) (tn := r401.2.2.2.1.2.2.2.2.2.2.2) (CM_bad hb er401) rfl rfl hm319 (fun _ => rfl) (fun _ => rfl) (fun _ => rfl) (fun _ => dM_rows_111) (fun _ R => kM_239 R) (fun _ => rfl) ⟨(Nat.le_of_ble_eq_true rfl), (Nat.le_of_ble_eq_true rfl)⟩ rfl rfl rfl (fun _ => rfl) (Nat.le_of_ble_eq_true rfl) ⟨rfl, rfl⟩
      · replace hF := xg_t c321 hF
        refine xy_r (xw_aload_n dM_rows_32 rfl) ?_
        obtain ⟨g422, hF⟩ := xg_g hF
        refine xy_r (xw_get dM_rows_33 fM_195 (mV_n g422) rfl) ?_
        refine xy_br (xw_if_le 52 dM_rows_36 (by decide)) (fun c423 => ?_) (fun c423 => ?_)
        · replace hF := xg_t c423 hF
          refine xy_r (xw_aload_n dM_rows_52 rfl) ?_
          refine xy_r (xw_dup_r dM_rows_53) ?_
          refine xy_r (xw_get dM_rows_54 fM_221 rfl rfl) ?_
          refine xy_r (xw_iconst (1) dM_rows_57 (by decide)) ?_
          refine xy_r (xw_iadd dM_rows_58) ?_
          refine xy_r (xg_put dM_rows_59 fM_221 rfl (by decide) (Nat.le_of_ble_eq_true rfl) (fun _ => rfl) (fun _ => rfl) (mV_o (s' := (r318.2.1, (r318.2.2.1.1, (r318.2.2.1.2.1 + 1), r318.2.2.1.2.2), r318.2.2.2)) rfl)) ?_
          refine xy_r (xw_aload_n dM_rows_62 rfl) ?_
          refine xy_r (xw_aload_n dM_rows_63 rfl) ?_
          rcases xg_o hF with ⟨r424, er424, hF⟩ | ⟨r424, er424, hF⟩
          · have hm425 : m0 ≤ r424.2.2.2.1.2.2.2.2.2.2.1 ∧ n0 ≤ r424.2.2.2.1.2.2.2.2.2.2.2 := xy_le hm319 (show r318.2.2.2.1.2.2.2.2.2.2.1 ≤ r424.2.2.2.1.2.2.2.2.2.2.1 ∧ r318.2.2.2.1.2.2.2.2.2.2.2 ≤ r424.2.2.2.1.2.2.2.2.2.2.2 from (CM_literal (w := w) (h := h) hb er424).1)
            refine xy_V1 (sm := r318.2.2.2.1.2.2.2.2.2.2.1) (sn := r318.2.2.2.1.2.2.2.2.2.2.2) (tm := r424.2.2.2.1.2.2.2.2.2.2.1) (tn := r424.2.2.2.1.2.2.2.2.2.2.2) (CM_literal hb er424) rfl rfl hm319 (fun _ => rfl) (fun _ => rfl) (fun _ => rfl) (fun _ => dM_rows_64) (fun _ R => kM_404 R) (fun _ => rfl) ⟨(Nat.le_of_ble_eq_true rfl), (Nat.le_of_ble_eq_true rfl)⟩ rfl rfl rfl (fun _ => rfl) (Nat.le_of_ble_eq_true rfl) ?_
            obtain ⟨g427, hF⟩ := xg_g hF
            obtain ⟨r428, er428, hF⟩ := xg_b hF
            have hm429 : m0 ≤ r428.2.2.1.2.2.2.2.2.2.1 ∧ n0 ≤ r428.2.2.1.2.2.2.2.2.2.2 := xy_le hm425 (show r424.2.2.2.1.2.2.2.2.2.2.1 ≤ r428.2.2.1.2.2.2.2.2.2.1 ∧ r424.2.2.2.1.2.2.2.2.2.2.2 ≤ r428.2.2.1.2.2.2.2.2.2.2 from (CN_add (w := w) (h := h) hb er428).1)
            refine xy_V0 (sm := r424.2.2.2.1.2.2.2.2.2.2.1) (sn := r424.2.2.2.1.2.2.2.2.2.2.2) (tm := r428.2.2.1.2.2.2.2.2.2.1) (tn := r428.2.2.1.2.2.2.2.2.2.2) (CN_add hb er428) rfl rfl hm425 (fun _ => rfl) (fun _ => rfl) (fun _ => rfl) (fun _ => dM_rows_67) (fun _ R => kM_257 R) (fun _ => rfl) ⟨(Nat.le_of_ble_eq_true rfl), (Nat.le_of_ble_eq_true rfl)⟩ rfl rfl (mV_n g427) (fun _ => rfl) (Nat.le_of_ble_eq_true rfl) ?_
            refine xy_r (xw_iinc ((l3 + 1)) dM_rows_70 rfl rfl (Nat.le_of_ble_eq_true rfl)) ?_
            refine xy_r (xw_Ln (L' := [some (.ref 2000), some (.ref (xn l1)), some (.int l2), some (.int (l3 + 1))]) rfl) ?_
            refine xy_r (xw_goto 23 dM_rows_73 (by decide)) ?_
            exact ih.2 hm429 hF
          · subst hF
            exact xy_Vt (sm := r318.2.2.2.1.2.2.2.2.2.2.1) (sn := r318.2.2.2.1.2.2.2.2.2.2.2) (tm := r424.2.2.2.1.2.2.2.2.2.2.1) (tn := r424.2.2.2.1.2.2.2.2.2.2.2) (CM_literal hb er424) rfl rfl hm319 (fun _ => rfl) (fun _ => rfl) (fun _ => rfl) (fun _ => dM_rows_64) (fun _ R => kM_404 R) (fun _ => rfl) ⟨(Nat.le_of_ble_eq_true rfl), (Nat.le_of_ble_eq_true rfl)⟩ rfl rfl rfl (fun _ => rfl) (Nat.le_of_ble_eq_true rfl) ⟨rfl, rfl⟩
        · replace hF := xg_f c423 hF
          refine xy_r (xw_iload_n dM_rows_39 rfl) ?_
          refine xy_r (xw_iload_n dM_rows_40 rfl) ?_
          refine xy_brn (xw_icmp_ne 52 dM_rows_41 (by decide)) (fun c431 => ?_) (fun c431 => ?_)
          · replace hF := xg_f c431 hF
            refine xy_r (xw_aload_n dM_rows_52 rfl) ?_
            refine xy_r (xw_dup_r dM_rows_53) ?_
            refine xy_r (xw_get dM_rows_54 fM_221 rfl rfl) ?_
            refine xy_r (xw_iconst (1) dM_rows_57 (by decide)) ?_
            refine xy_r (xw_iadd dM_rows_58) ?_
            refine xy_r (xg_put dM_rows_59 fM_221 rfl (by decide) (Nat.le_of_ble_eq_true rfl) (fun _ => rfl) (fun _ => rfl) (mV_o (s' := (r318.2.1, (r318.2.2.1.1, (r318.2.2.1.2.1 + 1), r318.2.2.1.2.2), r318.2.2.2)) rfl)) ?_
            refine xy_r (xw_aload_n dM_rows_62 rfl) ?_
            refine xy_r (xw_aload_n dM_rows_63 rfl) ?_
            rcases xg_o hF with ⟨r432, er432, hF⟩ | ⟨r432, er432, hF⟩
            · have hm433 : m0 ≤ r432.2.2.2.1.2.2.2.2.2.2.1 ∧ n0 ≤ r432.2.2.2.1.2.2.2.2.2.2.2 := xy_le hm319 (show r318.2.2.2.1.2.2.2.2.2.2.1 ≤ r432.2.2.2.1.2.2.2.2.2.2.1 ∧ r318.2.2.2.1.2.2.2.2.2.2.2 ≤ r432.2.2.2.1.2.2.2.2.2.2.2 from (CM_literal (w := w) (h := h) hb er432).1)
              refine xy_V1 (sm := r318.2.2.2.1.2.2.2.2.2.2.1) (sn := r318.2.2.2.1.2.2.2.2.2.2.2) (tm := r432.2.2.2.1.2.2.2.2.2.2.1) (tn := r432.2.2.2.1.2.2.2.2.2.2.2) (CM_literal hb er432) rfl rfl hm319 (fun _ => rfl) (fun _ => rfl) (fun _ => rfl) (fun _ => dM_rows_64) (fun _ R => kM_404 R) (fun _ => rfl) ⟨(Nat.le_of_ble_eq_true rfl), (Nat.le_of_ble_eq_true rfl)⟩ rfl rfl rfl (fun _ => rfl) (Nat.le_of_ble_eq_true rfl) ?_
              obtain ⟨g435, hF⟩ := xg_g hF
              obtain ⟨r436, er436, hF⟩ := xg_b hF
              have hm437 : m0 ≤ r436.2.2.1.2.2.2.2.2.2.1 ∧ n0 ≤ r436.2.2.1.2.2.2.2.2.2.2 := xy_le hm433 (show r432.2.2.2.1.2.2.2.2.2.2.1 ≤ r436.2.2.1.2.2.2.2.2.2.1 ∧ r432.2.2.2.1.2.2.2.2.2.2.2 ≤ r436.2.2.1.2.2.2.2.2.2.2 from (CN_add (w := w) (h := h) hb er436).1)
              refine xy_V0 (sm := r432.2.2.2.1.2.2.2.2.2.2.1) (sn := r432.2.2.2.1.2.2.2.2.2.2.2) (tm := r436.2.2.1.2.2.2.2.2.2.1) (tn := r436.2.2.1.2.2.2.2.2.2.2) (CN_add hb er436) rfl rfl hm433 (fun _ => rfl) (fun _ => rfl) (fun _ => rfl) (fun _ => dM_rows_67) (fun _ R => kM_257 R) (fun _ => rfl) ⟨(Nat.le_of_ble_eq_true rfl), (Nat.le_of_ble_eq_true rfl)⟩ rfl rfl (mV_n g435) (fun _ => rfl) (Nat.le_of_ble_eq_true rfl) ?_
              refine xy_r (xw_iinc ((l3 + 1)) dM_rows_70 rfl rfl (Nat.le_of_ble_eq_true rfl)) ?_
              refine xy_r (xw_Ln (L' := [some (.ref 2000), some (.ref (xn l1)), some (.int l2), some (.int (l3 + 1))]) rfl) ?_
              refine xy_r (xw_goto 23 dM_rows_73 (by decide)) ?_
              exact ih.2 hm437 hF
            · subst hF
              exact xy_Vt (sm := r318.2.2.2.1.2.2.2.2.2.2.1) (sn := r318.2.2.2.1.2.2.2.2.2.2.2) (tm := r432.2.2.2.1.2.2.2.2.2.2.1) (tn := r432.2.2.2.1.2.2.2.2.2.2.2) (CM_literal hb er432) rfl rfl hm319 (fun _ => rfl) (fun _ => rfl) (fun _ => rfl) (fun _ => dM_rows_64) (fun _ R => kM_404 R) (fun _ => rfl) ⟨(Nat.le_of_ble_eq_true rfl), (Nat.le_of_ble_eq_true rfl)⟩ rfl rfl rfl (fun _ => rfl) (Nat.le_of_ble_eq_true rfl) ⟨rfl, rfl⟩
          · replace hF := xg_t c431 hF
            refine xy_r (xw_aload_n dM_rows_44 rfl) ?_
            refine xy_r (xw_aload_n dM_rows_45 rfl) ?_
            refine xy_r (xw_get dM_rows_46 fM_221 rfl rfl) ?_
            rcases xg_o hF with ⟨r439, er439, hF⟩ | ⟨r439, er439, hF⟩
            · have hm440 : m0 ≤ r439.2.2.2.1.2.2.2.2.2.2.1 ∧ n0 ≤ r439.2.2.2.1.2.2.2.2.2.2.2 := xy_le hm319 (show r318.2.2.2.1.2.2.2.2.2.2.1 ≤ r439.2.2.2.1.2.2.2.2.2.2.1 ∧ r318.2.2.2.1.2.2.2.2.2.2.2 ≤ r439.2.2.2.1.2.2.2.2.2.2.2 from (CM_bad (w := w) (h := h) hb er439).1)
              refine xy_V0 (sm := r318.2.2.2.1.2.2.2.2.2.2.1) (sn := r318.2.2.2.1.2.2.2.2.2.2.2) (tm := r439.2.2.2.1.2.2.2.2.2.2.1) (tn := r439.2.2.2.1.2.2.2.2.2.2.2) (CM_bad hb er439) rfl rfl hm319 (fun _ => rfl) (fun _ => rfl) (fun _ => rfl) (fun _ => dM_rows_49) (fun _ R => kM_239 R) (fun _ => rfl) ⟨(Nat.le_of_ble_eq_true rfl), (Nat.le_of_ble_eq_true rfl)⟩ rfl rfl rfl (fun _ => rfl) (Nat.le_of_ble_eq_true rfl) ?_
              refine xy_r (xw_aload_n dM_rows_52 rfl) ?_
              refine xy_r (xw_dup_r dM_rows_53) ?_
              refine xy_r (xw_get dM_rows_54 fM_221 rfl rfl) ?_
              refine xy_r (xw_iconst (1) dM_rows_57 (by decide)) ?_
              refine xy_r (xw_iadd dM_rows_58) ?_
              refine xy_r (xg_put dM_rows_59 fM_221 rfl (by decide) (Nat.le_of_ble_eq_true rfl) (fun _ => rfl) (fun _ => rfl) (mV_o (s' := (r439.2.1, (r439.2.2.1.1, (r439.2.2.1.2.1 + 1), r439.2.2.1.2.2), r439.2.2.2)) rfl)) ?_
              refine xy_r (xw_aload_n dM_rows_62 rfl) ?_
              refine xy_r (xw_aload_n dM_rows_63 rfl) ?_
              rcases xg_o hF with ⟨r442, er442, hF⟩ | ⟨r442, er442, hF⟩
              · have hm443 : m0 ≤ r442.2.2.2.1.2.2.2.2.2.2.1 ∧ n0 ≤ r442.2.2.2.1.2.2.2.2.2.2.2 := xy_le hm440 (show r439.2.2.2.1.2.2.2.2.2.2.1 ≤ r442.2.2.2.1.2.2.2.2.2.2.1 ∧ r439.2.2.2.1.2.2.2.2.2.2.2 ≤ r442.2.2.2.1.2.2.2.2.2.2.2 from (CM_literal (w := w) (h := h) hb er442).1)
                refine xy_V1 (sm := r439.2.2.2.1.2.2.2.2.2.2.1) (sn := r439.2.2.2.1.2.2.2.2.2.2.2) (tm := r442.2.2.2.1.2.2.2.2.2.2.1) (tn := r442.2.2.2.1.2.2.2.2.2.2.2) (CM_literal hb er442) rfl rfl hm440 (fun _ => rfl) (fun _ => rfl) (fun _ => rfl) (fun _ => dM_rows_64) (fun _ R => kM_404 R) (fun _ => rfl) ⟨(Nat.le_of_ble_eq_true rfl), (Nat.le_of_ble_eq_true rfl)⟩ rfl rfl rfl (fun _ => rfl) (Nat.le_of_ble_eq_true rfl) ?_
                obtain ⟨g445, hF⟩ := xg_g hF
                obtain ⟨r446, er446, hF⟩ := xg_b hF
                have hm447 : m0 ≤ r446.2.2.1.2.2.2.2.2.2.1 ∧ n0 ≤ r446.2.2.1.2.2.2.2.2.2.2 := xy_le hm443 (show r442.2.2.2.1.2.2.2.2.2.2.1 ≤ r446.2.2.1.2.2.2.2.2.2.1 ∧ r442.2.2.2.1.2.2.2.2.2.2.2 ≤ r446.2.2.1.2.2.2.2.2.2.2 from (CN_add (w := w) (h := h) hb er446).1)
                refine xy_V0 (sm := r442.2.2.2.1.2.2.2.2.2.2.1) (sn := r442.2.2.2.1.2.2.2.2.2.2.2) (tm := r446.2.2.1.2.2.2.2.2.2.1) (tn := r446.2.2.1.2.2.2.2.2.2.2) (CN_add hb er446) rfl rfl hm443 (fun _ => rfl) (fun _ => rfl) (fun _ => rfl) (fun _ => dM_rows_67) (fun _ R => kM_257 R) (fun _ => rfl) ⟨(Nat.le_of_ble_eq_true rfl), (Nat.le_of_ble_eq_true rfl)⟩ rfl rfl (mV_n g445) (fun _ => rfl) (Nat.le_of_ble_eq_true rfl) ?_
                refine xy_r (xw_iinc ((l3 + 1)) dM_rows_70 rfl rfl (Nat.le_of_ble_eq_true rfl)) ?_
                refine xy_r (xw_Ln (L' := [some (.ref 2000), some (.ref (xn l1)), some (.int l2), some (.int (l3 + 1))]) rfl) ?_
                refine xy_r (xw_goto 23 dM_rows_73 (by decide)) ?_
                exact ih.2 hm447 hF
              · subst hF
                exact xy_Vt (sm := r439.2.2.2.1.2.2.2.2.2.2.1) (sn := r439.2.2.2.1.2.2.2.2.2.2.2) (tm := r442.2.2.2.1.2.2.2.2.2.2.1) (tn := r442.2.2.2.1.2.2.2.2.2.2.2) (CM_literal hb er442) rfl rfl hm440 (fun _ => rfl) (fun _ => rfl) (fun _ => rfl) (fun _ => dM_rows_64) (fun _ R => kM_404 R) (fun _ => rfl) ⟨(Nat.le_of_ble_eq_true rfl), (Nat.le_of_ble_eq_true rfl)⟩ rfl rfl rfl (fun _ => rfl) (Nat.le_of_ble_eq_true rfl) ⟨rfl, rfl⟩
            · subst hF
              exact xy_Vt (sm := r318.2.2.2.1.2.2.2.2.2.2.1) (sn := r318.2.2.2.1.2.2.2.2.2.2.2) (tm := r439.2.2.2.1.2.2.2.2.2.2.1) (tn := r439.2.2.2.1.2.2.2.2.2.2.2) (CM_bad hb er439) rfl rfl hm319 (fun _ => rfl) (fun _ => rfl) (fun _ => rfl) (fun _ => dM_rows_49) (fun _ R => kM_239 R) (fun _ => rfl) ⟨(Nat.le_of_ble_eq_true rfl), (Nat.le_of_ble_eq_true rfl)⟩ rfl rfl rfl (fun _ => rfl) (Nat.le_of_ble_eq_true rfl) ⟨rfl, rfl⟩
theorem CM_rows_13 {w : xw_G} {h : xw_H} (hb : xMb h) (fu : Nat)  {l1 : Nat} {l2 : Int32} {s : xMs} {out : (xo Nat xMs)} {h0 : xw_H} {m0 n0 : Nat} (hm : m0 ≤ s.2.2.1.2.2.2.2.2.2.1 ∧ n0 ≤ s.2.2.1.2.2.2.2.2.2.2) (hF : FM_rows_13 fu l1 l2 s = some out) : xw_Y w mM_rows 10 193 (xo_P (fun x => some (.ref (xn x))) (fun s => mV s h) out) h0 m0 n0 s.2.2.1.2.2.2.2.2.2.1 s.2.2.1.2.2.2.2.2.2.2 (xo_s out).2.2.1.2.2.2.2.2.2.1 (xo_s out).2.2.1.2.2.2.2.2.2.2 13 [some (.ref 2000), some (.ref (xn l1)), some (.int l2), none] [] (mV s h) := (CM_rows_L hb fu).1 hm hF
theorem CM_rows_23 {w : xw_G} {h : xw_H} (hb : xMb h) (fu : Nat)  {l1 : Nat} {l2 : Int32} {l3 : Int32} {s : xMs} {out : (xo Nat xMs)} {h0 : xw_H} {m0 n0 : Nat} (hm : m0 ≤ s.2.2.1.2.2.2.2.2.2.1 ∧ n0 ≤ s.2.2.1.2.2.2.2.2.2.2) (hF : FM_rows_23 fu l1 l2 l3 s = some out) : xw_Y w mM_rows 10 193 (xo_P (fun x => some (.ref (xn x))) (fun s => mV s h) out) h0 m0 n0 s.2.2.1.2.2.2.2.2.2.1 s.2.2.1.2.2.2.2.2.2.2 (xo_s out).2.2.1.2.2.2.2.2.2.1 (xo_s out).2.2.1.2.2.2.2.2.2.2 23 [some (.ref 2000), some (.ref (xn l1)), some (.int l2), some (.int l3)] [] (mV s h) := (CM_rows_L hb fu).2 hm hF
set_option maxRecDepth 20000 in
theorem CM_rows {w : xw_G} {h : xw_H} (hb : xMb h)  {s : xMs} {out : (xo Nat xMs)} (hF : FM_rows  s = some out) : (s.2.2.1.2.2.2.2.2.2.1 ≤ (xo_s out).2.2.1.2.2.2.2.2.2.1 ∧ s.2.2.1.2.2.2.2.2.2.2 ≤ (xo_s out).2.2.1.2.2.2.2.2.2.2) ∧ xw_C w (mM_rows { frames := 10, cells := (xo_s out).2.2.1.2.2.2.2.2.2.1 - s.2.2.1.2.2.2.2.2.2.1, slots := (xo_s out).2.2.1.2.2.2.2.2.2.2 - s.2.2.1.2.2.2.2.2.2.2, locals := 193 }) (xo_P (fun x => some (.ref (xn x))) (fun s => mV s h) out) [.ref 2000] (mV s h) := by
  unfold FM_rows at hF
  refine xy_enter (L := [some (.ref 2000), none, none, none]) (fun _ => rfl) (fun _ => rfl) (fun _ => (show plainName "FormulaShaperModel" = true by decide +kernel)) (fun _ => (Nat.le_of_ble_eq_true rfl)) (fun _ => rfl) ?_
  have hm : s.2.2.1.2.2.2.2.2.2.1 ≤ s.2.2.1.2.2.2.2.2.2.1 ∧ s.2.2.1.2.2.2.2.2.2.2 ≤ s.2.2.1.2.2.2.2.2.2.2 := ⟨Nat.le_refl _, Nat.le_refl _⟩
  refine xy_r (xw_aload_n dM_rows_0 rfl) ?_
  refine xy_r (xw_bipush (8) dM_rows_1 (by decide)) ?_
  obtain ⟨r305, er305, hF⟩ := xg_b hF
  have hm306 : s.2.2.1.2.2.2.2.2.2.1 ≤ r305.2.2.2.1.2.2.2.2.2.2.1 ∧ s.2.2.1.2.2.2.2.2.2.2 ≤ r305.2.2.2.1.2.2.2.2.2.2.2 := xy_le hm (show s.2.2.1.2.2.2.2.2.2.1 ≤ r305.2.2.2.1.2.2.2.2.2.2.1 ∧ s.2.2.1.2.2.2.2.2.2.2 ≤ r305.2.2.2.1.2.2.2.2.2.2.2 from (CM_node (w := w) (h := h) hb er305).1)
  refine xy_V1 (sm := s.2.2.1.2.2.2.2.2.2.1) (sn := s.2.2.1.2.2.2.2.2.2.2) (tm := r305.2.2.2.1.2.2.2.2.2.2.1) (tn := r305.2.2.2.1.2.2.2.2.2.2.2) (CM_node hb er305) rfl rfl hm (fun _ => rfl) (fun _ => rfl) (fun _ => rfl) (fun _ => dM_rows_3) (fun _ R => kM_253 R) (fun _ => rfl) ⟨(Nat.le_of_ble_eq_true rfl), (Nat.le_of_ble_eq_true rfl)⟩ rfl rfl rfl (fun _ => rfl) (Nat.le_of_ble_eq_true rfl) ?_
  refine xy_r (xw_astore_n dM_rows_6 (Nat.le_of_ble_eq_true rfl)) ?_
  refine xy_r (xw_Ln (L' := [some (.ref 2000), some (.ref (xn r305.1)), none, none]) rfl) ?_
  refine xy_r (xw_aload_n dM_rows_7 rfl) ?_
  rcases xg_o hF with ⟨r308, er308, hF⟩ | ⟨r308, er308, hF⟩
  · have hm309 : s.2.2.1.2.2.2.2.2.2.1 ≤ r308.2.2.2.1.2.2.2.2.2.2.1 ∧ s.2.2.1.2.2.2.2.2.2.2 ≤ r308.2.2.2.1.2.2.2.2.2.2.2 := xy_le hm306 (show r305.2.2.2.1.2.2.2.2.2.2.1 ≤ r308.2.2.2.1.2.2.2.2.2.2.1 ∧ r305.2.2.2.1.2.2.2.2.2.2.2 ≤ r308.2.2.2.1.2.2.2.2.2.2.2 from (CM_open (w := w) (h := h) hb er308).1)
    refine xy_V0 (sm := r305.2.2.2.1.2.2.2.2.2.2.1) (sn := r305.2.2.2.1.2.2.2.2.2.2.2) (tm := r308.2.2.2.1.2.2.2.2.2.2.1) (tn := r308.2.2.2.1.2.2.2.2.2.2.2) (CM_open hb er308) rfl rfl hm306 (fun _ => rfl) (fun _ => rfl) (fun _ => rfl) (fun _ => dM_rows_8) (fun _ R => kM_286 R) (fun _ => rfl) ⟨(Nat.le_of_ble_eq_true rfl), (Nat.le_of_ble_eq_true rfl)⟩ rfl rfl rfl (fun _ => rfl) (Nat.le_of_ble_eq_true rfl) ?_
    refine xy_r (xw_iconst (0) dM_rows_11 (by decide)) ?_
    refine xy_r (xw_istore_n dM_rows_12 (Nat.le_of_ble_eq_true rfl)) ?_
    refine xy_r (xw_Ln (L' := [some (.ref 2000), some (.ref (xn r305.1)), some (.int 0), none]) rfl) ?_
    exact CM_rows_13 hb xFuel hm309 hF
  · subst hF
    exact xy_Vt (sm := r305.2.2.2.1.2.2.2.2.2.2.1) (sn := r305.2.2.2.1.2.2.2.2.2.2.2) (tm := r308.2.2.2.1.2.2.2.2.2.2.1) (tn := r308.2.2.2.1.2.2.2.2.2.2.2) (CM_open hb er308) rfl rfl hm306 (fun _ => rfl) (fun _ => rfl) (fun _ => rfl) (fun _ => dM_rows_8) (fun _ R => kM_286 R) (fun _ => rfl) ⟨(Nat.le_of_ble_eq_true rfl), (Nat.le_of_ble_eq_true rfl)⟩ rfl rfl rfl (fun _ => rfl) (Nat.le_of_ble_eq_true rfl) ⟨rfl, rfl⟩
