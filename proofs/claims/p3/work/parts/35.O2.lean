theorem xn_le (i : Nat) : 1000 ≤ xn i := by show 1000 ≤ 3000 + 3 * i; omega
theorem xna_le {a : Nat} (i : Nat) (h : a = 3001 + 3 * i ∨ a = 3002 + 3 * i := by first | exact Or.inl rfl | exact Or.inr rfl) : 1000 ≤ a := by omega
theorem va_up_up {α : Type} (f : Nat → α) (k : Nat) (u v : α) : va_up (va_up f k u) k v = va_up f k v := by
  funext j
  by_cases e : j = k
  · rw [e, va_up_self, va_up_self]
  · rw [va_up_ne _ _ e, va_up_ne _ _ e, va_up_ne _ _ e]
theorem mV_e {s s' : xMs} {h v : xw_H} (e : v = mV s h) (e2 : s = s') : v = mV s' h := e2 ▸ e
theorem mV_nu {s : xMs} {h : xw_H} {i : Nat} {q : xNr} (e : s.2.2.1.2.2.2.2.2.1 i = q) (hi : i < s.2.2.1.2.2.2.2.1) : mV s h (xn i) = some (xNc q) := by rw [← e]; exact mV_n hi
theorem mV_pu {s : xMs} {h : xw_H} {i : Nat} {q : xNr} {N : Nat → xNr} (hi : i < s.2.2.1.2.2.2.2.1) (e : va_up s.2.2.1.2.2.2.2.2.1 i q = N) : xw_u (mV s h) (xn i) (some (xNc q)) = mV (s.1, s.2.1, (s.2.2.1.1, s.2.2.1.2.1, s.2.2.1.2.2.1, s.2.2.1.2.2.2.1, s.2.2.1.2.2.2.2.1, N, s.2.2.1.2.2.2.2.2.2), s.2.2.2) h := by rw [← e]; exact mV_pn hi
set_option maxRecDepth 20000 in
theorem CN_init (w : xw_G) {h : xw_H} {a : Nat} : xw_C w (mN_init { frames := 1, cells := 0, slots := 0, locals := 20 }) (xw_R none h) [.ref a] h := by
  refine xw_enter rfl (by decide +kernel) (Nat.le_of_ble_eq_true rfl) ?_
  refine xw_aload_n dN_init_0 rfl ?_
  refine xw_objInit dN_init_1 oN_1 (Nat.le_of_ble_eq_true rfl) (Nat.le_of_ble_eq_true rfl) (Nat.le_of_ble_eq_true rfl) ?_
  exact xw_return dN_init_4 rfl (Nat.le_of_ble_eq_true rfl) (Nat.le_of_ble_eq_true rfl) ⟨rfl, rfl⟩
theorem nM_191 (R : Room) : xw_KN "FormulaShaperModel" 191 (mN_init R) 0 := ⟨"FormulaShaperModel", tw_1121, tw_24, tw_1123, (show (("FormulaShaperModel$Node" : String) ≠ "java/lang/invoke/MethodHandle" ∧ ("FormulaShaperModel$Node" : String) ≠ "java/lang/invoke/VarHandle") by decide), (show (parseMethodDescriptor "()V").map (fun d => d.parameters.length) = some 0 by decide +kernel), tw_1122, rfl, rfl, rfl⟩
/-- FormulaShaperModel.thrown -/
def FM_thrown  (s : xMs) : Option Int32 := some s.1.1
set_option maxRecDepth 20000 in
theorem CM_thrown {w : xw_G} {h : xw_H}  {s : xMs} {out : Int32} (hF : FM_thrown  s = some out) : xw_C w (mM_thrown { frames := 0, cells := 0, slots := 0, locals := 0 }) (xw_R (some (.int out)) (mV s h)) [.ref 2000] (mV s h) := by
  unfold FM_thrown at hF
  refine xw_enter rfl (show plainName "FormulaShaperModel" = true by decide +kernel) (Nat.le_of_ble_eq_true rfl) ?_
  refine xw_aload_n dM_thrown_0 rfl ?_
  refine xw_get dM_thrown_1 fM_185 rfl rfl ?_
  obtain rfl := Option.some.inj hF
  exact xw_ireturn dM_thrown_4 rfl rfl (Nat.le_of_ble_eq_true rfl) (Nat.le_of_ble_eq_true rfl) ⟨rfl, rfl⟩
/-- FormulaShaperModel.fail -/
def FM_fail (x0 : Int32) (s : xMs) : Option (Int32 × xMs) := some (0, ((x0, s.1.2), s.2))
set_option maxRecDepth 20000 in
theorem CM_fail {w : xw_G} {h : xw_H} (hb : xMb h) {x0 : Int32} {s : xMs} {out : (Int32 × xMs)} (hF : FM_fail x0 s = some out) : (s.2.2.1.2.2.2.2.2.2.1 ≤ out.2.2.2.1.2.2.2.2.2.2.1 ∧ s.2.2.1.2.2.2.2.2.2.2 ≤ out.2.2.2.1.2.2.2.2.2.2.2) ∧ xw_C w (mM_fail { frames := 0, cells := out.2.2.2.1.2.2.2.2.2.2.1 - s.2.2.1.2.2.2.2.2.2.1, slots := out.2.2.2.1.2.2.2.2.2.2.2 - s.2.2.1.2.2.2.2.2.2.2, locals := 0 }) (xw_R (some (.int out.1)) (mV out.2 h)) [.ref 2000, .int x0] (mV s h) := by
  unfold FM_fail at hF
  refine xy_enter (L := [some (.ref 2000), some (.int x0)]) (fun _ => rfl) (fun _ => rfl) (fun _ => (show plainName "FormulaShaperModel" = true by decide +kernel)) (fun _ => (Nat.le_of_ble_eq_true rfl)) (fun _ => rfl) ?_
  have hm : s.2.2.1.2.2.2.2.2.2.1 ≤ s.2.2.1.2.2.2.2.2.2.1 ∧ s.2.2.1.2.2.2.2.2.2.2 ≤ s.2.2.1.2.2.2.2.2.2.2 := ⟨Nat.le_refl _, Nat.le_refl _⟩
  refine xy_r (xw_aload_n dM_fail_0 rfl) ?_
  refine xy_r (xw_iload_n dM_fail_1 rfl) ?_
  refine xy_r (xg_put dM_fail_2 fM_185 rfl (by decide) (Nat.le_of_ble_eq_true rfl) (fun _ => rfl) (fun _ => rfl) (mV_o (s' := ((x0, s.1.2), s.2)) rfl)) ?_
  refine xy_r (xw_iconst (0) dM_fail_5 (by decide)) ?_
  obtain rfl := Option.some.inj hF
  exact xy_end (xw_ireturn dM_fail_6 rfl rfl (Nat.le_refl _) (Nat.le_refl _) ⟨rfl, rfl⟩)
/-- FormulaShaperModel.peek -/
def FM_peek  (s : xMs) : Option Int32 := if s.2.1.2.2.1 ≤ s.2.1.2.1 then (some (-1)) else ((xM_src s s.2.1.2.1).bind fun r2 => some (r2 &&& 255))
set_option maxRecDepth 20000 in
theorem CM_peek {w : xw_G} {h : xw_H}  {s : xMs} {out : Int32} (hF : FM_peek  s = some out) : xw_C w (mM_peek { frames := 0, cells := 0, slots := 0, locals := 0 }) (xw_R (some (.int out)) (mV s h)) [.ref 2000] (mV s h) := by
  unfold FM_peek at hF
  refine xw_enter rfl (show plainName "FormulaShaperModel" = true by decide +kernel) (Nat.le_of_ble_eq_true rfl) ?_
  refine xw_aload_n dM_peek_0 rfl ?_
  refine xw_get dM_peek_1 fM_221 rfl rfl ?_
  refine xw_aload_n dM_peek_4 rfl ?_
  refine xw_get dM_peek_5 fM_224 rfl rfl ?_
  refine xw_icmp_ge 27 dM_peek_8 (by decide) (fun c1 => ?_) (fun c1 => ?_)
  · replace hF := xg_t c1 hF
    refine xw_iconst (-1) dM_peek_27 (by decide) ?_
    obtain rfl := Option.some.inj hF
    exact xw_ireturn dM_peek_28 rfl rfl (Nat.le_of_ble_eq_true rfl) (Nat.le_of_ble_eq_true rfl) ⟨rfl, rfl⟩
  · replace hF := xg_f c1 hF
    refine xw_aload_n dM_peek_11 rfl ?_
    refine xw_get dM_peek_12 fM_227 rfl rfl ?_
    refine xw_aload_n dM_peek_15 rfl ?_
    refine xw_get dM_peek_16 fM_221 rfl rfl ?_
    obtain ⟨r2, er2, hF⟩ := xg_b hF
    refine xg_src er2 dM_peek_19 ?_
    refine xw_sipush (255) dM_peek_20 (by decide) ?_
    refine xw_iand dM_peek_23 ?_
    refine xw_goto 28 dM_peek_24 (by decide) ?_
    obtain rfl := Option.some.inj hF
    exact xw_ireturn dM_peek_28 rfl rfl (Nat.le_of_ble_eq_true rfl) (Nat.le_of_ble_eq_true rfl) ⟨rfl, rfl⟩
/-- FormulaShaperModel.look -/
def FM_look (x0 : Int32) (s : xMs) : Option Int32 := if s.2.1.2.2.1 ≤ (s.2.1.2.1 + x0) then (some (-1)) else ((xM_src s (s.2.1.2.1 + x0)).bind fun r4 => some (r4 &&& 255))
set_option maxRecDepth 20000 in
theorem CM_look {w : xw_G} {h : xw_H} {x0 : Int32} {s : xMs} {out : Int32} (hF : FM_look x0 s = some out) : xw_C w (mM_look { frames := 0, cells := 0, slots := 0, locals := 0 }) (xw_R (some (.int out)) (mV s h)) [.ref 2000, .int x0] (mV s h) := by
  unfold FM_look at hF
  refine xw_enter rfl (show plainName "FormulaShaperModel" = true by decide +kernel) (Nat.le_of_ble_eq_true rfl) ?_
  refine xw_aload_n dM_look_0 rfl ?_
  refine xw_get dM_look_1 fM_221 rfl rfl ?_
  refine xw_iload_n dM_look_4 rfl ?_
  refine xw_iadd dM_look_5 ?_
  refine xw_aload_n dM_look_6 rfl ?_
  refine xw_get dM_look_7 fM_224 rfl rfl ?_
  refine xw_icmp_ge 31 dM_look_10 (by decide) (fun c3 => ?_) (fun c3 => ?_)
  · replace hF := xg_t c3 hF
    refine xw_iconst (-1) dM_look_31 (by decide) ?_
    obtain rfl := Option.some.inj hF
    exact xw_ireturn dM_look_32 rfl rfl (Nat.le_of_ble_eq_true rfl) (Nat.le_of_ble_eq_true rfl) ⟨rfl, rfl⟩
  · replace hF := xg_f c3 hF
    refine xw_aload_n dM_look_13 rfl ?_
    refine xw_get dM_look_14 fM_227 rfl rfl ?_
    refine xw_aload_n dM_look_17 rfl ?_
    refine xw_get dM_look_18 fM_221 rfl rfl ?_
    refine xw_iload_n dM_look_21 rfl ?_
    refine xw_iadd dM_look_22 ?_
    obtain ⟨r4, er4, hF⟩ := xg_b hF
    refine xg_src er4 dM_look_23 ?_
    refine xw_sipush (255) dM_look_24 (by decide) ?_
    refine xw_iand dM_look_27 ?_
    refine xw_goto 32 dM_look_28 (by decide) ?_
    obtain rfl := Option.some.inj hF
    exact xw_ireturn dM_look_32 rfl rfl (Nat.le_of_ble_eq_true rfl) (Nat.le_of_ble_eq_true rfl) ⟨rfl, rfl⟩
/-- FormulaShaperModel.wordSign -/
def FM_wordSign (x0 : Int32) (s : xMs) : Option Bool := if (sM_letter x0) = 0 then (if (sM_digit x0) = 0 then (if x0 = 95 then (some true) else (some false)) else (some true)) else (some true)
set_option maxRecDepth 20000 in
theorem CM_wordSign {w : xw_G} {h : xw_H} {x0 : Int32} {s : xMs} {out : Bool} (hF : FM_wordSign x0 s = some out) : xw_C w (mM_wordSign { frames := 1, cells := 0, slots := 0, locals := 20 }) (xw_R (some (.int (xb out))) (mV s h)) [.ref 2000, .int x0] (mV s h) := by
  unfold FM_wordSign at hF
  refine xw_enter rfl (show plainName "FormulaShaperModel" = true by decide +kernel) (Nat.le_of_ble_eq_true rfl) ?_
  refine xw_iload_n dM_wordSign_0 rfl ?_
  refine xg_S1 (k1 := 0) (n1 := 0) (cM_letter w) rfl rfl rfl dM_wordSign_1 (kM_292 _) ⟨Nat.le_of_ble_eq_true rfl, Nat.le_of_ble_eq_true rfl⟩ rfl rfl (Nat.le_of_ble_eq_true rfl) (Nat.le_of_ble_eq_true rfl) (Nat.le_of_ble_eq_true rfl) (Nat.le_of_ble_eq_true rfl) (Nat.le_of_ble_eq_true rfl) ?_
  refine xw_if_ne 20 dM_wordSign_4 (by decide) (fun c5 => ?_) (fun c5 => ?_)
  · replace hF := xg_f c5 hF
    refine xw_iconst (1) dM_wordSign_20 (by decide) ?_
    refine xw_goto 25 dM_wordSign_21 (by decide) ?_
    obtain rfl := Option.some.inj hF
    exact xw_ireturn dM_wordSign_25 rfl (xb_nar true) (Nat.le_of_ble_eq_true rfl) (Nat.le_of_ble_eq_true rfl) ⟨rfl, rfl⟩
  · replace hF := xg_t c5 hF
    refine xw_iload_n dM_wordSign_7 rfl ?_
    refine xg_S1 (k1 := 0) (n1 := 0) (cM_digit w) rfl rfl rfl dM_wordSign_8 (kM_295 _) ⟨Nat.le_of_ble_eq_true rfl, Nat.le_of_ble_eq_true rfl⟩ rfl rfl (Nat.le_of_ble_eq_true rfl) (Nat.le_of_ble_eq_true rfl) (Nat.le_of_ble_eq_true rfl) (Nat.le_of_ble_eq_true rfl) (Nat.le_of_ble_eq_true rfl) ?_
    refine xw_if_ne 20 dM_wordSign_11 (by decide) (fun c6 => ?_) (fun c6 => ?_)
    · replace hF := xg_f c6 hF
      refine xw_iconst (1) dM_wordSign_20 (by decide) ?_
      refine xw_goto 25 dM_wordSign_21 (by decide) ?_
      obtain rfl := Option.some.inj hF
      exact xw_ireturn dM_wordSign_25 rfl (xb_nar true) (Nat.le_of_ble_eq_true rfl) (Nat.le_of_ble_eq_true rfl) ⟨rfl, rfl⟩
    · replace hF := xg_t c6 hF
      refine xw_iload_n dM_wordSign_14 rfl ?_
      refine xw_bipush (95) dM_wordSign_15 (by decide) ?_
      refine xw_icmp_ne 24 dM_wordSign_17 (by decide) (fun c7 => ?_) (fun c7 => ?_)
      · replace hF := xg_f c7 hF
        refine xw_iconst (0) dM_wordSign_24 (by decide) ?_
        obtain rfl := Option.some.inj hF
        exact xw_ireturn dM_wordSign_25 rfl (xb_nar false) (Nat.le_of_ble_eq_true rfl) (Nat.le_of_ble_eq_true rfl) ⟨rfl, rfl⟩
      · replace hF := xg_t c7 hF
        refine xw_iconst (1) dM_wordSign_20 (by decide) ?_
        refine xw_goto 25 dM_wordSign_21 (by decide) ?_
        obtain rfl := Option.some.inj hF
        exact xw_ireturn dM_wordSign_25 rfl (xb_nar true) (Nat.le_of_ble_eq_true rfl) (Nat.le_of_ble_eq_true rfl) ⟨rfl, rfl⟩
/-- FormulaShaperModel.bad -/
def FM_bad (x0 : Int32) (s : xMs) : Option (xo Unit xMs) := some (.inr ("java/lang/UnsupportedOperationException", ((s.1.1, s.1.2.1, s.1.2.2.1, x0, s.1.2.2.2.2), s.2.1, (s.2.2.1.1, s.2.2.1.2.1, s.2.2.1.2.2.1, s.2.2.1.2.2.2.1, s.2.2.1.2.2.2.2.1, s.2.2.1.2.2.2.2.2.1, (s.2.2.1.2.2.2.2.2.2.1 + 1), (s.2.2.1.2.2.2.2.2.2.2 + 6)), s.2.2.2)))
set_option maxRecDepth 20000 in
theorem CM_bad {w : xw_G} {h : xw_H} (hb : xMb h) {x0 : Int32} {s : xMs} {out : (xo Unit xMs)} (hF : FM_bad x0 s = some out) : (s.2.2.1.2.2.2.2.2.2.1 ≤ (xo_s out).2.2.1.2.2.2.2.2.2.1 ∧ s.2.2.1.2.2.2.2.2.2.2 ≤ (xo_s out).2.2.1.2.2.2.2.2.2.2) ∧ xw_C w (mM_bad { frames := 6, cells := (xo_s out).2.2.1.2.2.2.2.2.2.1 - s.2.2.1.2.2.2.2.2.2.1, slots := (xo_s out).2.2.1.2.2.2.2.2.2.2 - s.2.2.1.2.2.2.2.2.2.2, locals := 100 }) (xo_P (fun x => none) (fun s => mV s h) out) [.ref 2000, .int x0] (mV s h) := by
  unfold FM_bad at hF
  refine xy_enter (L := [some (.ref 2000), some (.int x0)]) (fun _ => rfl) (fun _ => rfl) (fun _ => (show plainName "FormulaShaperModel" = true by decide +kernel)) (fun _ => (Nat.le_of_ble_eq_true rfl)) (fun _ => rfl) ?_
  have hm : s.2.2.1.2.2.2.2.2.2.1 ≤ s.2.2.1.2.2.2.2.2.2.1 ∧ s.2.2.1.2.2.2.2.2.2.2 ≤ s.2.2.1.2.2.2.2.2.2.2 := ⟨Nat.le_refl _, Nat.le_refl _⟩
  refine xy_r (xw_aload_n dM_bad_0 rfl) ?_
  refine xy_r (xw_iload_n dM_bad_1 rfl) ?_
  refine xy_r (xg_put dM_bad_2 fM_16 rfl (by decide) (Nat.le_of_ble_eq_true rfl) (fun _ => rfl) (fun _ => rfl) (mV_o (s' := ((s.1.1, s.1.2.1, s.1.2.2.1, x0, s.1.2.2.2.2), s.2)) rfl)) ?_
  obtain rfl := Option.some.inj hF
  exact xy_throw (fun _ => rfl) (fun _ => rfl) (fun _ => tM_218) (fun _ => dM_bad_5) (fun _ => dM_bad_8) (fun _ => dM_bad_9) (fun _ => dM_bad_12) (Nat.le_of_ble_eq_true rfl) (Nat.le_of_ble_eq_true rfl) hm ⟨rfl, rfl⟩
def FM_blanks_0 : Nat → xMs → Option xMs
  | 0, _ => none
  | fu + 1, s => (FM_peek s).bind fun r8 => if r8 = 32 then (FM_blanks_0 fu  (s.1, (s.2.1.1, (s.2.1.2.1 + 1), s.2.1.2.2), s.2.2)) else (some s)
/-- FormulaShaperModel.blanks -/
def FM_blanks  (s : xMs) : Option xMs := FM_blanks_0 xFuel  s
set_option maxRecDepth 20000 in
theorem CM_blanks_0 {w : xw_G} {h : xw_H} (hb : xMb h)  : ∀ (fu : Nat) {s : xMs} {out : xMs} {h0 : xw_H} {m0 n0 : Nat} (hm : m0 ≤ s.2.2.1.2.2.2.2.2.2.1 ∧ n0 ≤ s.2.2.1.2.2.2.2.2.2.2), FM_blanks_0 fu  s = some out → xw_Y w mM_blanks 1 20 (xw_R none (mV out h)) h0 m0 n0 s.2.2.1.2.2.2.2.2.2.1 s.2.2.1.2.2.2.2.2.2.2 out.2.2.1.2.2.2.2.2.2.1 out.2.2.1.2.2.2.2.2.2.2 0 [some (.ref 2000)] [] (mV s h) := by
  intro fu
  induction fu with
  | zero =>
    intro  s out h0 m0 n0 hm hF
    rw [FM_blanks_0] at hF
    cases hF
  | succ fu ih =>
    intro  s out h0 m0 n0 hm hF
    rw [FM_blanks_0] at hF
    refine xy_r (xw_aload_n dM_blanks_0 rfl) ?_
    obtain ⟨r8, er8, hF⟩ := xg_b hF
    refine xy_q (fun hq => xg_V1 (k1 := _) (n1 := _) (CM_peek er8) rfl rfl rfl dM_blanks_1 (kM_230 _) ⟨Nat.le_of_ble_eq_true rfl, Nat.le_of_ble_eq_true rfl⟩ rfl rfl rfl rfl (Nat.le_of_ble_eq_true rfl) (Nat.le_refl _) (Nat.le_refl _) (Nat.sub_le_sub_right hq.1 _) (Nat.sub_le_sub_right hq.2 _)) ?_
    refine xy_r (xw_bipush (32) dM_blanks_4 (by decide)) ?_
    refine xy_brn (xw_icmp_ne 22 dM_blanks_6 (by decide)) (fun c9 => ?_) (fun c9 => ?_)
    · replace hF := xg_f c9 hF
      obtain rfl := Option.some.inj hF
      exact xy_end (xw_return dM_blanks_22 rfl (Nat.le_refl _) (Nat.le_refl _) ⟨rfl, rfl⟩)
    · replace hF := xg_t c9 hF
      refine xy_r (xw_aload_n dM_blanks_9 rfl) ?_
      refine xy_r (xw_dup_r dM_blanks_10) ?_
      refine xy_r (xw_get dM_blanks_11 fM_221 rfl rfl) ?_
      refine xy_r (xw_iconst (1) dM_blanks_14 (by decide)) ?_
      refine xy_r (xw_iadd dM_blanks_15) ?_
      refine xy_r (xg_put dM_blanks_16 fM_221 rfl (by decide) (Nat.le_of_ble_eq_true rfl) (fun _ => rfl) (fun _ => rfl) (mV_o (s' := (s.1, (s.2.1.1, (s.2.1.2.1 + 1), s.2.1.2.2), s.2.2)) rfl)) ?_
      refine xy_r (xw_goto 0 dM_blanks_19 (by decide)) ?_
      exact ih (s := (s.1, (s.2.1.1, (s.2.1.2.1 + 1), s.2.1.2.2), s.2.2)) hm hF
set_option maxRecDepth 20000 in
theorem CM_blanks {w : xw_G} {h : xw_H} (hb : xMb h)  {s : xMs} {out : xMs} (hF : FM_blanks  s = some out) : (s.2.2.1.2.2.2.2.2.2.1 ≤ out.2.2.1.2.2.2.2.2.2.1 ∧ s.2.2.1.2.2.2.2.2.2.2 ≤ out.2.2.1.2.2.2.2.2.2.2) ∧ xw_C w (mM_blanks { frames := 1, cells := out.2.2.1.2.2.2.2.2.2.1 - s.2.2.1.2.2.2.2.2.2.1, slots := out.2.2.1.2.2.2.2.2.2.2 - s.2.2.1.2.2.2.2.2.2.2, locals := 20 }) (xw_R none (mV out h)) [.ref 2000] (mV s h) := by
  unfold FM_blanks at hF
  refine xy_enter (L := [some (.ref 2000)]) (fun _ => rfl) (fun _ => rfl) (fun _ => (show plainName "FormulaShaperModel" = true by decide +kernel)) (fun _ => (Nat.le_of_ble_eq_true rfl)) (fun _ => rfl) ?_
  have hm : s.2.2.1.2.2.2.2.2.2.1 ≤ s.2.2.1.2.2.2.2.2.2.1 ∧ s.2.2.1.2.2.2.2.2.2.2 ≤ s.2.2.1.2.2.2.2.2.2.2 := ⟨Nat.le_refl _, Nat.le_refl _⟩
  exact CM_blanks_0 hb xFuel (s := s) hm hF
/-- FormulaShaperModel.next -/
def FM_next (x0 : Int32) (s : xMs) : Option (Bool × xMs) := (FM_blanks s).bind fun r10 => (FM_peek r10).bind fun r13 => if r13 = x0 then (some (true, r10)) else (some (false, r10))
set_option maxRecDepth 20000 in
theorem CM_next {w : xw_G} {h : xw_H} (hb : xMb h) {x0 : Int32} {s : xMs} {out : (Bool × xMs)} (hF : FM_next x0 s = some out) : (s.2.2.1.2.2.2.2.2.2.1 ≤ out.2.2.2.1.2.2.2.2.2.2.1 ∧ s.2.2.1.2.2.2.2.2.2.2 ≤ out.2.2.2.1.2.2.2.2.2.2.2) ∧ xw_C w (mM_next { frames := 2, cells := out.2.2.2.1.2.2.2.2.2.2.1 - s.2.2.1.2.2.2.2.2.2.1, slots := out.2.2.2.1.2.2.2.2.2.2.2 - s.2.2.1.2.2.2.2.2.2.2, locals := 40 }) (xw_R (some (.int (xb out.1))) (mV out.2 h)) [.ref 2000, .int x0] (mV s h) := by
  unfold FM_next at hF
  refine xy_enter (L := [some (.ref 2000), some (.int x0)]) (fun _ => rfl) (fun _ => rfl) (fun _ => (show plainName "FormulaShaperModel" = true by decide +kernel)) (fun _ => (Nat.le_of_ble_eq_true rfl)) (fun _ => rfl) ?_
  have hm : s.2.2.1.2.2.2.2.2.2.1 ≤ s.2.2.1.2.2.2.2.2.2.1 ∧ s.2.2.1.2.2.2.2.2.2.2 ≤ s.2.2.1.2.2.2.2.2.2.2 := ⟨Nat.le_refl _, Nat.le_refl _⟩
  refine xy_r (xw_aload_n dM_next_0 rfl) ?_
  obtain ⟨r10, er10, hF⟩ := xg_b hF
  have hm11 : s.2.2.1.2.2.2.2.2.2.1 ≤ r10.2.2.1.2.2.2.2.2.2.1 ∧ s.2.2.1.2.2.2.2.2.2.2 ≤ r10.2.2.1.2.2.2.2.2.2.2 := xy_le hm (show s.2.2.1.2.2.2.2.2.2.1 ≤ r10.2.2.1.2.2.2.2.2.2.1 ∧ s.2.2.1.2.2.2.2.2.2.2 ≤ r10.2.2.1.2.2.2.2.2.2.2 from (CM_blanks (w := w) (h := h) hb (s := s) er10).1)
  refine xy_V0 (nl := 1) (sm := s.2.2.1.2.2.2.2.2.2.1) (sn := s.2.2.1.2.2.2.2.2.2.2) (tm := r10.2.2.1.2.2.2.2.2.2.1) (tn := r10.2.2.1.2.2.2.2.2.2.2) (CM_blanks hb (s := s) er10) rfl rfl hm (fun _ => rfl) (fun _ => rfl) (fun _ => rfl) (fun _ => dM_next_1) (fun _ R => kM_233 R) (fun _ => rfl) ⟨(Nat.le_of_ble_eq_true rfl), (Nat.le_of_ble_eq_true rfl)⟩ rfl rfl rfl (fun _ => rfl) (Nat.le_of_ble_eq_true rfl) ?_
  refine xy_r (xw_aload_n dM_next_4 rfl) ?_
  obtain ⟨r13, er13, hF⟩ := xg_b hF
  refine xy_q (fun hq => xg_V1 (k1 := _) (n1 := _) (CM_peek er13) rfl rfl rfl dM_next_5 (kM_230 _) ⟨Nat.le_of_ble_eq_true rfl, Nat.le_of_ble_eq_true rfl⟩ rfl rfl rfl rfl (Nat.le_of_ble_eq_true rfl) (Nat.le_refl _) (Nat.le_refl _) (Nat.sub_le_sub_right hq.1 _) (Nat.sub_le_sub_right hq.2 _)) ?_
  refine xy_r (xw_iload_n dM_next_8 rfl) ?_
  refine xy_brn (xw_icmp_ne 16 dM_next_9 (by decide)) (fun c14 => ?_) (fun c14 => ?_)
  · replace hF := xg_f c14 hF
    refine xy_r (xw_iconst (0) dM_next_16 (by decide)) ?_
    obtain rfl := Option.some.inj hF
    exact xy_end (xw_ireturn dM_next_17 rfl (xb_nar false) (Nat.le_refl _) (Nat.le_refl _) ⟨rfl, rfl⟩)
  · replace hF := xg_t c14 hF
    refine xy_r (xw_iconst (1) dM_next_12 (by decide)) ?_
    refine xy_r (xw_goto 17 dM_next_13 (by decide)) ?_
    obtain rfl := Option.some.inj hF
    exact xy_end (xw_ireturn dM_next_17 rfl (xb_nar true) (Nat.le_refl _) (Nat.le_refl _) ⟨rfl, rfl⟩)
/-- FormulaShaperModel.expect -/
def FM_expect (x0 : Int32) (s : xMs) : Option (xo Unit xMs) := (FM_next x0 s).bind fun r15 => if r15.1 = true then (some (.inl ((), (r15.2.1, (r15.2.2.1.1, (r15.2.2.1.2.1 + 1), r15.2.2.1.2.2), r15.2.2.2)))) else (xo_b (FM_bad r15.2.2.1.2.1 r15.2) fun r19 => some (.inl ((), (r19.2.1, (r19.2.2.1.1, (r19.2.2.1.2.1 + 1), r19.2.2.1.2.2), r19.2.2.2))))
set_option maxRecDepth 20000 in
theorem CM_expect {w : xw_G} {h : xw_H} (hb : xMb h) {x0 : Int32} {s : xMs} {out : (xo Unit xMs)} (hF : FM_expect x0 s = some out) : (s.2.2.1.2.2.2.2.2.2.1 ≤ (xo_s out).2.2.1.2.2.2.2.2.2.1 ∧ s.2.2.1.2.2.2.2.2.2.2 ≤ (xo_s out).2.2.1.2.2.2.2.2.2.2) ∧ xw_C w (mM_expect { frames := 7, cells := (xo_s out).2.2.1.2.2.2.2.2.2.1 - s.2.2.1.2.2.2.2.2.2.1, slots := (xo_s out).2.2.1.2.2.2.2.2.2.2 - s.2.2.1.2.2.2.2.2.2.2, locals := 121 }) (xo_P (fun x => none) (fun s => mV s h) out) [.ref 2000, .int x0] (mV s h) := by
  unfold FM_expect at hF
  refine xy_enter (L := [some (.ref 2000), some (.int x0)]) (fun _ => rfl) (fun _ => rfl) (fun _ => (show plainName "FormulaShaperModel" = true by decide +kernel)) (fun _ => (Nat.le_of_ble_eq_true rfl)) (fun _ => rfl) ?_
  have hm : s.2.2.1.2.2.2.2.2.2.1 ≤ s.2.2.1.2.2.2.2.2.2.1 ∧ s.2.2.1.2.2.2.2.2.2.2 ≤ s.2.2.1.2.2.2.2.2.2.2 := ⟨Nat.le_refl _, Nat.le_refl _⟩
  refine xy_r (xw_aload_n dM_expect_0 rfl) ?_
  refine xy_r (xw_iload_n dM_expect_1 rfl) ?_
  obtain ⟨r15, er15, hF⟩ := xg_b hF
  have hm16 : s.2.2.1.2.2.2.2.2.2.1 ≤ r15.2.2.2.1.2.2.2.2.2.2.1 ∧ s.2.2.1.2.2.2.2.2.2.2 ≤ r15.2.2.2.1.2.2.2.2.2.2.2 := xy_le hm (show s.2.2.1.2.2.2.2.2.2.1 ≤ r15.2.2.2.1.2.2.2.2.2.2.1 ∧ s.2.2.1.2.2.2.2.2.2.2 ≤ r15.2.2.2.1.2.2.2.2.2.2.2 from (CM_next (w := w) (h := h) hb (s := s) er15).1)
  refine xy_V1 (nl := 2) (sm := s.2.2.1.2.2.2.2.2.2.1) (sn := s.2.2.1.2.2.2.2.2.2.2) (tm := r15.2.2.2.1.2.2.2.2.2.2.1) (tn := r15.2.2.2.1.2.2.2.2.2.2.2) (CM_next hb (s := s) er15) rfl rfl hm (fun _ => rfl) (fun _ => rfl) (fun _ => rfl) (fun _ => dM_expect_2) (fun _ R => kM_236 R) (fun _ => rfl) ⟨(Nat.le_of_ble_eq_true rfl), (Nat.le_of_ble_eq_true rfl)⟩ rfl rfl rfl (fun _ => rfl) (Nat.le_of_ble_eq_true rfl) ?_
  refine xy_br (xw_if_neB 16 dM_expect_5 (by decide)) (fun c18 => ?_) (fun c18 => ?_)
  · replace hF := xg_t c18 hF
    refine xy_r (xw_aload_n dM_expect_16 rfl) ?_
    refine xy_r (xw_dup_r dM_expect_17) ?_
    refine xy_r (xw_get dM_expect_18 fM_221 rfl rfl) ?_
    refine xy_r (xw_iconst (1) dM_expect_21 (by decide)) ?_
    refine xy_r (xw_iadd dM_expect_22) ?_
    refine xy_r (xg_put dM_expect_23 fM_221 rfl (by decide) (Nat.le_of_ble_eq_true rfl) (fun _ => rfl) (fun _ => rfl) (mV_o (s' := (r15.2.1, (r15.2.2.1.1, (r15.2.2.1.2.1 + 1), r15.2.2.1.2.2), r15.2.2.2)) rfl)) ?_
    obtain rfl := Option.some.inj hF
    exact xy_end (xw_return dM_expect_26 rfl (Nat.le_refl _) (Nat.le_refl _) ⟨rfl, rfl⟩)
  · replace hF := xg_f c18 hF
    refine xy_r (xw_aload_n dM_expect_8 rfl) ?_
    refine xy_r (xw_aload_n dM_expect_9 rfl) ?_
    refine xy_r (xw_get dM_expect_10 fM_221 rfl rfl) ?_
    rcases xg_o hF with ⟨r19, er19, hF⟩ | ⟨r19, er19, hF⟩
    · have hm20 : s.2.2.1.2.2.2.2.2.2.1 ≤ r19.2.2.2.1.2.2.2.2.2.2.1 ∧ s.2.2.1.2.2.2.2.2.2.2 ≤ r19.2.2.2.1.2.2.2.2.2.2.2 := xy_le hm16 (show r15.2.2.2.1.2.2.2.2.2.2.1 ≤ r19.2.2.2.1.2.2.2.2.2.2.1 ∧ r15.2.2.2.1.2.2.2.2.2.2.2 ≤ r19.2.2.2.1.2.2.2.2.2.2.2 from (CM_bad (w := w) (h := h) hb (s := r15.2) er19).1)
      refine xy_V0 (nl := 2) (sm := r15.2.2.2.1.2.2.2.2.2.2.1) (sn := r15.2.2.2.1.2.2.2.2.2.2.2) (tm := r19.2.2.2.1.2.2.2.2.2.2.1) (tn := r19.2.2.2.1.2.2.2.2.2.2.2) (CM_bad hb (s := r15.2) er19) rfl rfl hm16 (fun _ => rfl) (fun _ => rfl) (fun _ => rfl) (fun _ => dM_expect_13) (fun _ R => kM_239 R) (fun _ => rfl) ⟨(Nat.le_of_ble_eq_true rfl), (Nat.le_of_ble_eq_true rfl)⟩ rfl rfl rfl (fun _ => rfl) (Nat.le_of_ble_eq_true rfl) ?_
      refine xy_r (xw_aload_n dM_expect_16 rfl) ?_
      refine xy_r (xw_dup_r dM_expect_17) ?_
      refine xy_r (xw_get dM_expect_18 fM_221 rfl rfl) ?_
      refine xy_r (xw_iconst (1) dM_expect_21 (by decide)) ?_
      refine xy_r (xw_iadd dM_expect_22) ?_
      refine xy_r (xg_put dM_expect_23 fM_221 rfl (by decide) (Nat.le_of_ble_eq_true rfl) (fun _ => rfl) (fun _ => rfl) (mV_o (s' := (r19.2.1, (r19.2.2.1.1, (r19.2.2.1.2.1 + 1), r19.2.2.1.2.2), r19.2.2.2)) rfl)) ?_
      obtain rfl := Option.some.inj hF
      exact xy_end (xw_return dM_expect_26 rfl (Nat.le_refl _) (Nat.le_refl _) ⟨rfl, rfl⟩)
    · subst hF
      exact xy_Vt (nl := 2) (sm := r15.2.2.2.1.2.2.2.2.2.2.1) (sn := r15.2.2.2.1.2.2.2.2.2.2.2) (tm := r19.2.2.2.1.2.2.2.2.2.2.1) (tn := r19.2.2.2.1.2.2.2.2.2.2.2) (CM_bad hb (s := r15.2) er19) rfl rfl hm16 (fun _ => rfl) (fun _ => rfl) (fun _ => rfl) (fun _ => dM_expect_13) (fun _ R => kM_239 R) (fun _ => rfl) ⟨(Nat.le_of_ble_eq_true rfl), (Nat.le_of_ble_eq_true rfl)⟩ rfl rfl rfl (fun _ => rfl) (Nat.le_of_ble_eq_true rfl) ⟨rfl, rfl⟩
/-- FormulaShaperModel.open -/
def FM_open  (s : xMs) : Option (xo Unit xMs) := if s.2.1.2.2.2.1 = 12 then (xo_b (FM_bad s.2.1.2.1 s) fun r23 => some (.inl ((), (r23.2.1, (r23.2.2.1.1, (r23.2.2.1.2.1 + 1), r23.2.2.1.2.2.1, (r23.2.2.1.2.2.2.1 + 1), r23.2.2.1.2.2.2.2), r23.2.2.2)))) else (some (.inl ((), (s.1, (s.2.1.1, (s.2.1.2.1 + 1), s.2.1.2.2.1, (s.2.1.2.2.2.1 + 1), s.2.1.2.2.2.2), s.2.2))))
set_option maxRecDepth 20000 in
theorem CM_open {w : xw_G} {h : xw_H} (hb : xMb h)  {s : xMs} {out : (xo Unit xMs)} (hF : FM_open  s = some out) : (s.2.2.1.2.2.2.2.2.2.1 ≤ (xo_s out).2.2.1.2.2.2.2.2.2.1 ∧ s.2.2.1.2.2.2.2.2.2.2 ≤ (xo_s out).2.2.1.2.2.2.2.2.2.2) ∧ xw_C w (mM_open { frames := 7, cells := (xo_s out).2.2.1.2.2.2.2.2.2.1 - s.2.2.1.2.2.2.2.2.2.1, slots := (xo_s out).2.2.1.2.2.2.2.2.2.2 - s.2.2.1.2.2.2.2.2.2.2, locals := 121 }) (xo_P (fun x => none) (fun s => mV s h) out) [.ref 2000] (mV s h) := by
  unfold FM_open at hF
  refine xy_enter (L := [some (.ref 2000)]) (fun _ => rfl) (fun _ => rfl) (fun _ => (show plainName "FormulaShaperModel" = true by decide +kernel)) (fun _ => (Nat.le_of_ble_eq_true rfl)) (fun _ => rfl) ?_
  have hm : s.2.2.1.2.2.2.2.2.2.1 ≤ s.2.2.1.2.2.2.2.2.2.1 ∧ s.2.2.1.2.2.2.2.2.2.2 ≤ s.2.2.1.2.2.2.2.2.2.2 := ⟨Nat.le_refl _, Nat.le_refl _⟩
  refine xy_r (xw_aload_n dM_open_0 rfl) ?_
  refine xy_r (xw_get dM_open_1 fM_243 rfl rfl) ?_
  refine xy_r (xw_bipush (12) dM_open_4 (by decide)) ?_
  refine xy_brn (xw_icmp_ne 17 dM_open_6 (by decide)) (fun c22 => ?_) (fun c22 => ?_)
  · replace hF := xg_f c22 hF
    refine xy_r (xw_aload_n dM_open_17 rfl) ?_
    refine xy_r (xw_dup_r dM_open_18) ?_
    refine xy_r (xw_get dM_open_19 fM_243 rfl rfl) ?_
    refine xy_r (xw_iconst (1) dM_open_22 (by decide)) ?_
    refine xy_r (xw_iadd dM_open_23) ?_
    refine xy_r (xg_put dM_open_24 fM_243 rfl (by decide) (Nat.le_of_ble_eq_true rfl) (fun _ => rfl) (fun _ => rfl) (mV_o (s' := (s.1, (s.2.1.1, s.2.1.2.1, s.2.1.2.2.1, (s.2.1.2.2.2.1 + 1), s.2.1.2.2.2.2), s.2.2)) rfl)) ?_
    refine xy_r (xw_aload_n dM_open_27 rfl) ?_
    refine xy_r (xw_dup_r dM_open_28) ?_
    refine xy_r (xw_get dM_open_29 fM_221 rfl rfl) ?_
    refine xy_r (xw_iconst (1) dM_open_32 (by decide)) ?_
    refine xy_r (xw_iadd dM_open_33) ?_
    refine xy_r (xg_put dM_open_34 fM_221 rfl (by decide) (Nat.le_of_ble_eq_true rfl) (fun _ => rfl) (fun _ => rfl) (mV_o (s' := (s.1, (s.2.1.1, (s.2.1.2.1 + 1), s.2.1.2.2.1, (s.2.1.2.2.2.1 + 1), s.2.1.2.2.2.2), s.2.2)) rfl)) ?_
    obtain rfl := Option.some.inj hF
    exact xy_end (xw_return dM_open_37 rfl (Nat.le_refl _) (Nat.le_refl _) ⟨rfl, rfl⟩)
  · replace hF := xg_t c22 hF
    refine xy_r (xw_aload_n dM_open_9 rfl) ?_
    refine xy_r (xw_aload_n dM_open_10 rfl) ?_
    refine xy_r (xw_get dM_open_11 fM_221 rfl rfl) ?_
    rcases xg_o hF with ⟨r23, er23, hF⟩ | ⟨r23, er23, hF⟩
    · have hm24 : s.2.2.1.2.2.2.2.2.2.1 ≤ r23.2.2.2.1.2.2.2.2.2.2.1 ∧ s.2.2.1.2.2.2.2.2.2.2 ≤ r23.2.2.2.1.2.2.2.2.2.2.2 := xy_le hm (show s.2.2.1.2.2.2.2.2.2.1 ≤ r23.2.2.2.1.2.2.2.2.2.2.1 ∧ s.2.2.1.2.2.2.2.2.2.2 ≤ r23.2.2.2.1.2.2.2.2.2.2.2 from (CM_bad (w := w) (h := h) hb (s := s) er23).1)
      refine xy_V0 (nl := 2) (sm := s.2.2.1.2.2.2.2.2.2.1) (sn := s.2.2.1.2.2.2.2.2.2.2) (tm := r23.2.2.2.1.2.2.2.2.2.2.1) (tn := r23.2.2.2.1.2.2.2.2.2.2.2) (CM_bad hb (s := s) er23) rfl rfl hm (fun _ => rfl) (fun _ => rfl) (fun _ => rfl) (fun _ => dM_open_14) (fun _ R => kM_239 R) (fun _ => rfl) ⟨(Nat.le_of_ble_eq_true rfl), (Nat.le_of_ble_eq_true rfl)⟩ rfl rfl rfl (fun _ => rfl) (Nat.le_of_ble_eq_true rfl) ?_
      refine xy_r (xw_aload_n dM_open_17 rfl) ?_
      refine xy_r (xw_dup_r dM_open_18) ?_
      refine xy_r (xw_get dM_open_19 fM_243 rfl rfl) ?_
      refine xy_r (xw_iconst (1) dM_open_22 (by decide)) ?_
      refine xy_r (xw_iadd dM_open_23) ?_
      refine xy_r (xg_put dM_open_24 fM_243 rfl (by decide) (Nat.le_of_ble_eq_true rfl) (fun _ => rfl) (fun _ => rfl) (mV_o (s' := (r23.2.1, (r23.2.2.1.1, r23.2.2.1.2.1, r23.2.2.1.2.2.1, (r23.2.2.1.2.2.2.1 + 1), r23.2.2.1.2.2.2.2), r23.2.2.2)) rfl)) ?_
      refine xy_r (xw_aload_n dM_open_27 rfl) ?_
      refine xy_r (xw_dup_r dM_open_28) ?_
      refine xy_r (xw_get dM_open_29 fM_221 rfl rfl) ?_
      refine xy_r (xw_iconst (1) dM_open_32 (by decide)) ?_
      refine xy_r (xw_iadd dM_open_33) ?_
      refine xy_r (xg_put dM_open_34 fM_221 rfl (by decide) (Nat.le_of_ble_eq_true rfl) (fun _ => rfl) (fun _ => rfl) (mV_o (s' := (r23.2.1, (r23.2.2.1.1, (r23.2.2.1.2.1 + 1), r23.2.2.1.2.2.1, (r23.2.2.1.2.2.2.1 + 1), r23.2.2.1.2.2.2.2), r23.2.2.2)) rfl)) ?_
      obtain rfl := Option.some.inj hF
      exact xy_end (xw_return dM_open_37 rfl (Nat.le_refl _) (Nat.le_refl _) ⟨rfl, rfl⟩)
    · subst hF
      exact xy_Vt (nl := 2) (sm := s.2.2.1.2.2.2.2.2.2.1) (sn := s.2.2.1.2.2.2.2.2.2.2) (tm := r23.2.2.2.1.2.2.2.2.2.2.1) (tn := r23.2.2.2.1.2.2.2.2.2.2.2) (CM_bad hb (s := s) er23) rfl rfl hm (fun _ => rfl) (fun _ => rfl) (fun _ => rfl) (fun _ => dM_open_14) (fun _ R => kM_239 R) (fun _ => rfl) ⟨(Nat.le_of_ble_eq_true rfl), (Nat.le_of_ble_eq_true rfl)⟩ rfl rfl rfl (fun _ => rfl) (Nat.le_of_ble_eq_true rfl) ⟨rfl, rfl⟩
/-- FormulaShaperModel.close -/
def FM_close (x0 : Int32) (s : xMs) : Option (xo Unit xMs) := xo_b (FM_expect x0 s) fun r26 => some (.inl ((), (r26.2.1, (r26.2.2.1.1, r26.2.2.1.2.1, r26.2.2.1.2.2.1, (r26.2.2.1.2.2.2.1 - 1), r26.2.2.1.2.2.2.2), r26.2.2.2)))
set_option maxRecDepth 20000 in
theorem CM_close {w : xw_G} {h : xw_H} (hb : xMb h) {x0 : Int32} {s : xMs} {out : (xo Unit xMs)} (hF : FM_close x0 s = some out) : (s.2.2.1.2.2.2.2.2.2.1 ≤ (xo_s out).2.2.1.2.2.2.2.2.2.1 ∧ s.2.2.1.2.2.2.2.2.2.2 ≤ (xo_s out).2.2.1.2.2.2.2.2.2.2) ∧ xw_C w (mM_close { frames := 8, cells := (xo_s out).2.2.1.2.2.2.2.2.2.1 - s.2.2.1.2.2.2.2.2.2.1, slots := (xo_s out).2.2.1.2.2.2.2.2.2.2 - s.2.2.1.2.2.2.2.2.2.2, locals := 142 }) (xo_P (fun x => none) (fun s => mV s h) out) [.ref 2000, .int x0] (mV s h) := by
  unfold FM_close at hF
  refine xy_enter (L := [some (.ref 2000), some (.int x0)]) (fun _ => rfl) (fun _ => rfl) (fun _ => (show plainName "FormulaShaperModel" = true by decide +kernel)) (fun _ => (Nat.le_of_ble_eq_true rfl)) (fun _ => rfl) ?_
  have hm : s.2.2.1.2.2.2.2.2.2.1 ≤ s.2.2.1.2.2.2.2.2.2.1 ∧ s.2.2.1.2.2.2.2.2.2.2 ≤ s.2.2.1.2.2.2.2.2.2.2 := ⟨Nat.le_refl _, Nat.le_refl _⟩
  refine xy_r (xw_aload_n dM_close_0 rfl) ?_
  refine xy_r (xw_iload_n dM_close_1 rfl) ?_
  rcases xg_o hF with ⟨r26, er26, hF⟩ | ⟨r26, er26, hF⟩
  · have hm27 : s.2.2.1.2.2.2.2.2.2.1 ≤ r26.2.2.2.1.2.2.2.2.2.2.1 ∧ s.2.2.1.2.2.2.2.2.2.2 ≤ r26.2.2.2.1.2.2.2.2.2.2.2 := xy_le hm (show s.2.2.1.2.2.2.2.2.2.1 ≤ r26.2.2.2.1.2.2.2.2.2.2.1 ∧ s.2.2.1.2.2.2.2.2.2.2 ≤ r26.2.2.2.1.2.2.2.2.2.2.2 from (CM_expect (w := w) (h := h) hb (s := s) er26).1)
    refine xy_V0 (nl := 2) (sm := s.2.2.1.2.2.2.2.2.2.1) (sn := s.2.2.1.2.2.2.2.2.2.2) (tm := r26.2.2.2.1.2.2.2.2.2.2.1) (tn := r26.2.2.2.1.2.2.2.2.2.2.2) (CM_expect hb (s := s) er26) rfl rfl hm (fun _ => rfl) (fun _ => rfl) (fun _ => rfl) (fun _ => dM_close_2) (fun _ R => kM_246 R) (fun _ => rfl) ⟨(Nat.le_of_ble_eq_true rfl), (Nat.le_of_ble_eq_true rfl)⟩ rfl rfl rfl (fun _ => rfl) (Nat.le_of_ble_eq_true rfl) ?_
    refine xy_r (xw_aload_n dM_close_5 rfl) ?_
    refine xy_r (xw_dup_r dM_close_6) ?_
    refine xy_r (xw_get dM_close_7 fM_243 rfl rfl) ?_
    refine xy_r (xw_iconst (1) dM_close_10 (by decide)) ?_
    refine xy_r (xw_isub dM_close_11) ?_
    refine xy_r (xg_put dM_close_12 fM_243 rfl (by decide) (Nat.le_of_ble_eq_true rfl) (fun _ => rfl) (fun _ => rfl) (mV_o (s' := (r26.2.1, (r26.2.2.1.1, r26.2.2.1.2.1, r26.2.2.1.2.2.1, (r26.2.2.1.2.2.2.1 - 1), r26.2.2.1.2.2.2.2), r26.2.2.2)) rfl)) ?_
    obtain rfl := Option.some.inj hF
    exact xy_end (xw_return dM_close_15 rfl (Nat.le_refl _) (Nat.le_refl _) ⟨rfl, rfl⟩)
  · subst hF
    exact xy_Vt (nl := 2) (sm := s.2.2.1.2.2.2.2.2.2.1) (sn := s.2.2.1.2.2.2.2.2.2.2) (tm := r26.2.2.2.1.2.2.2.2.2.2.1) (tn := r26.2.2.2.1.2.2.2.2.2.2.2) (CM_expect hb (s := s) er26) rfl rfl hm (fun _ => rfl) (fun _ => rfl) (fun _ => rfl) (fun _ => dM_close_2) (fun _ R => kM_246 R) (fun _ => rfl) ⟨(Nat.le_of_ble_eq_true rfl), (Nat.le_of_ble_eq_true rfl)⟩ rfl rfl rfl (fun _ => rfl) (Nat.le_of_ble_eq_true rfl) ⟨rfl, rfl⟩
/-- FormulaShaperModel$Node.add -/
def FN_add (x9 : Nat) (x0 : Nat) (s : xMs) : Option xMs := if x9 < s.2.2.1.2.2.2.2.1 then (if (s.2.2.1.2.2.2.2.2.1 x9).2.2.2.2.2 = 0 then (some (s.1, s.2.1, (s.2.2.1.1, s.2.2.1.2.1, s.2.2.1.2.2.1, s.2.2.1.2.2.2.1, s.2.2.1.2.2.2.2.1, (va_up s.2.2.1.2.2.2.2.2.1 x9 (nCount (nLast (nFirst (s.2.2.1.2.2.2.2.2.1 x9) (some x0)) (some x0)) ((s.2.2.1.2.2.2.2.2.1 x9).2.2.2.2.2 + 1))), s.2.2.1.2.2.2.2.2.2), s.2.2.2)) else (((s.2.2.1.2.2.2.2.2.1 x9).2.2.2.1).bind fun i31 => if i31 < s.2.2.1.2.2.2.2.1 then (some (s.1, s.2.1, (s.2.2.1.1, s.2.2.1.2.1, s.2.2.1.2.2.1, s.2.2.1.2.2.2.1, s.2.2.1.2.2.2.2.1, (va_up (va_up s.2.2.1.2.2.2.2.2.1 i31 (nNext (s.2.2.1.2.2.2.2.2.1 i31) (some x0))) x9 (nCount (nLast ((va_up s.2.2.1.2.2.2.2.2.1 i31 (nNext (s.2.2.1.2.2.2.2.2.1 i31) (some x0))) x9) (some x0)) (((va_up s.2.2.1.2.2.2.2.2.1 i31 (nNext (s.2.2.1.2.2.2.2.2.1 i31) (some x0))) x9).2.2.2.2.2 + 1))), s.2.2.1.2.2.2.2.2.2), s.2.2.2)) else none)) else none
set_option maxRecDepth 20000 in
theorem CN_add {w : xw_G} {h : xw_H} (hb : xMb h) {x9 : Nat} {x0 : Nat} {s : xMs} {out : xMs} (hF : FN_add x9 x0 s = some out) : (s.2.2.1.2.2.2.2.2.2.1 ≤ out.2.2.1.2.2.2.2.2.2.1 ∧ s.2.2.1.2.2.2.2.2.2.2 ≤ out.2.2.1.2.2.2.2.2.2.2) ∧ xw_C w (mN_add { frames := 0, cells := out.2.2.1.2.2.2.2.2.2.1 - s.2.2.1.2.2.2.2.2.2.1, slots := out.2.2.1.2.2.2.2.2.2.2 - s.2.2.1.2.2.2.2.2.2.2, locals := 0 }) (xw_R none (mV out h)) [.ref (xn x9), .ref (xn x0)] (mV s h) := by
  unfold FN_add at hF
  refine xy_enter (L := [some (.ref (xn x9)), some (.ref (xn x0))]) (fun _ => rfl) (fun _ => rfl) (fun _ => (show plainName "FormulaShaperModel$Node" = true by decide +kernel)) (fun _ => (Nat.le_of_ble_eq_true rfl)) (fun _ => rfl) ?_
  have hm : s.2.2.1.2.2.2.2.2.2.1 ≤ s.2.2.1.2.2.2.2.2.2.1 ∧ s.2.2.1.2.2.2.2.2.2.2 ≤ s.2.2.1.2.2.2.2.2.2.2 := ⟨Nat.le_refl _, Nat.le_refl _⟩
  refine xy_r (xw_aload_n dN_add_0 rfl) ?_
  obtain ⟨g29, hF⟩ := xg_g hF
  refine xy_r (xw_get dN_add_1 fN_7 (mV_n g29) rfl) ?_
  refine xy_brn (xw_if_ne 15 dN_add_4 (by decide)) (fun c30 => ?_) (fun c30 => ?_)
  · replace hF := xg_f c30 hF
    refine xy_r (xw_aload_n dN_add_15 rfl) ?_
    refine xy_r (xw_get dN_add_16 fN_17 (mV_n g29) rfl) ?_
    refine xy_r (xw_aload_n dN_add_19 rfl) ?_
    obtain ⟨i31, ei31, hF⟩ := xg_b hF
    refine xy_r (xw_Sn (st' := [.ref (xn x0), .ref (xn i31)]) (by first | (rw [ei31]; done) | (rw [ei31]; rfl))) ?_
    obtain ⟨g32, hF⟩ := xg_g hF
    refine xy_r (xg_put dN_add_20 fN_20 (mV_n g32) (xn_le _) (Nat.le_of_ble_eq_true rfl) (fun _ => rfl) (fun _ => rfl) (mV_e (s' := (s.1, s.2.1, (s.2.2.1.1, s.2.2.1.2.1, s.2.2.1.2.2.1, s.2.2.1.2.2.2.1, s.2.2.1.2.2.2.2.1, (va_up s.2.2.1.2.2.2.2.2.1 i31 (nNext (s.2.2.1.2.2.2.2.2.1 i31) (some x0))), s.2.2.1.2.2.2.2.2.2), s.2.2.2)) (mV_pn (q := (nNext (s.2.2.1.2.2.2.2.2.1 i31) (some x0))) g32) rfl)) ?_
    refine xy_r (xw_aload_n dN_add_23 rfl) ?_
    refine xy_r (xw_aload_n dN_add_24 rfl) ?_
    refine xy_r (xg_put dN_add_25 fN_17 (mV_n g29) (xn_le _) (Nat.le_of_ble_eq_true rfl) (fun _ => rfl) (fun _ => rfl) (mV_e (s' := (s.1, s.2.1, (s.2.2.1.1, s.2.2.1.2.1, s.2.2.1.2.2.1, s.2.2.1.2.2.2.1, s.2.2.1.2.2.2.2.1, (va_up (va_up s.2.2.1.2.2.2.2.2.1 i31 (nNext (s.2.2.1.2.2.2.2.2.1 i31) (some x0))) x9 (nLast ((va_up s.2.2.1.2.2.2.2.2.1 i31 (nNext (s.2.2.1.2.2.2.2.2.1 i31) (some x0))) x9) (some x0))), s.2.2.1.2.2.2.2.2.2), s.2.2.2)) (mV_pn (q := (nLast ((va_up s.2.2.1.2.2.2.2.2.1 i31 (nNext (s.2.2.1.2.2.2.2.2.1 i31) (some x0))) x9) (some x0))) g29) rfl)) ?_
    refine xy_r (xw_aload_n dN_add_28 rfl) ?_
    refine xy_r (xw_dup_r dN_add_29) ?_
    refine xy_r (xw_get dN_add_30 fN_7 (mV_nu (va_up_self _ _ _) g29) rfl) ?_
    refine xy_r (xw_iconst (1) dN_add_33 (by decide)) ?_
    refine xy_r (xw_iadd dN_add_34) ?_
    refine xy_r (xg_put dN_add_35 fN_7 (mV_nu (va_up_self _ _ _) g29) (xn_le _) (Nat.le_of_ble_eq_true rfl) (fun _ => rfl) (fun _ => rfl) (mV_e (s' := (s.1, s.2.1, (s.2.2.1.1, s.2.2.1.2.1, s.2.2.1.2.2.1, s.2.2.1.2.2.2.1, s.2.2.1.2.2.2.2.1, (va_up (va_up s.2.2.1.2.2.2.2.2.1 i31 (nNext (s.2.2.1.2.2.2.2.2.1 i31) (some x0))) x9 (nCount (nLast ((va_up s.2.2.1.2.2.2.2.2.1 i31 (nNext (s.2.2.1.2.2.2.2.2.1 i31) (some x0))) x9) (some x0)) (((va_up s.2.2.1.2.2.2.2.2.1 i31 (nNext (s.2.2.1.2.2.2.2.2.1 i31) (some x0))) x9).2.2.2.2.2 + 1))), s.2.2.1.2.2.2.2.2.2), s.2.2.2)) (mV_pu (q := (nCount (nLast ((va_up s.2.2.1.2.2.2.2.2.1 i31 (nNext (s.2.2.1.2.2.2.2.2.1 i31) (some x0))) x9) (some x0)) (((va_up s.2.2.1.2.2.2.2.2.1 i31 (nNext (s.2.2.1.2.2.2.2.2.1 i31) (some x0))) x9).2.2.2.2.2 + 1))) g29 (va_up_up _ _ _ _)) rfl)) ?_
    obtain rfl := Option.some.inj hF
    exact xy_end (xw_return dN_add_38 rfl (Nat.le_refl _) (Nat.le_refl _) ⟨rfl, rfl⟩)
  · replace hF := xg_t c30 hF
    refine xy_r (xw_aload_n dN_add_7 rfl) ?_
    refine xy_r (xw_aload_n dN_add_8 rfl) ?_
    refine xy_r (xg_put dN_add_9 fN_13 (mV_n g29) (xn_le _) (Nat.le_of_ble_eq_true rfl) (fun _ => rfl) (fun _ => rfl) (mV_e (s' := (s.1, s.2.1, (s.2.2.1.1, s.2.2.1.2.1, s.2.2.1.2.2.1, s.2.2.1.2.2.2.1, s.2.2.1.2.2.2.2.1, (va_up s.2.2.1.2.2.2.2.2.1 x9 (nFirst (s.2.2.1.2.2.2.2.2.1 x9) (some x0))), s.2.2.1.2.2.2.2.2.2), s.2.2.2)) (mV_pn (q := (nFirst (s.2.2.1.2.2.2.2.2.1 x9) (some x0))) g29) rfl)) ?_
    refine xy_r (xw_goto 23 dN_add_12 (by decide)) ?_
    refine xy_r (xw_aload_n dN_add_23 rfl) ?_
    refine xy_r (xw_aload_n dN_add_24 rfl) ?_
    refine xy_r (xg_put dN_add_25 fN_17 (mV_nu (va_up_self _ _ _) g29) (xn_le _) (Nat.le_of_ble_eq_true rfl) (fun _ => rfl) (fun _ => rfl) (mV_e (s' := (s.1, s.2.1, (s.2.2.1.1, s.2.2.1.2.1, s.2.2.1.2.2.1, s.2.2.1.2.2.2.1, s.2.2.1.2.2.2.2.1, (va_up s.2.2.1.2.2.2.2.2.1 x9 (nLast (nFirst (s.2.2.1.2.2.2.2.2.1 x9) (some x0)) (some x0))), s.2.2.1.2.2.2.2.2.2), s.2.2.2)) (mV_pu (q := (nLast (nFirst (s.2.2.1.2.2.2.2.2.1 x9) (some x0)) (some x0))) g29 (va_up_up _ _ _ _)) rfl)) ?_
    refine xy_r (xw_aload_n dN_add_28 rfl) ?_
    refine xy_r (xw_dup_r dN_add_29) ?_
    refine xy_r (xw_get dN_add_30 fN_7 (mV_nu (va_up_self _ _ _) g29) rfl) ?_
    refine xy_r (xw_iconst (1) dN_add_33 (by decide)) ?_
    refine xy_r (xw_iadd dN_add_34) ?_
    refine xy_r (xg_put dN_add_35 fN_7 (mV_nu (va_up_self _ _ _) g29) (xn_le _) (Nat.le_of_ble_eq_true rfl) (fun _ => rfl) (fun _ => rfl) (mV_e (s' := (s.1, s.2.1, (s.2.2.1.1, s.2.2.1.2.1, s.2.2.1.2.2.1, s.2.2.1.2.2.2.1, s.2.2.1.2.2.2.2.1, (va_up s.2.2.1.2.2.2.2.2.1 x9 (nCount (nLast (nFirst (s.2.2.1.2.2.2.2.2.1 x9) (some x0)) (some x0)) ((s.2.2.1.2.2.2.2.2.1 x9).2.2.2.2.2 + 1))), s.2.2.1.2.2.2.2.2.2), s.2.2.2)) (mV_pu (q := (nCount (nLast (nFirst (s.2.2.1.2.2.2.2.2.1 x9) (some x0)) (some x0)) ((s.2.2.1.2.2.2.2.2.1 x9).2.2.2.2.2 + 1))) g29 (va_up_up _ _ _ _)) rfl)) ?_
    obtain rfl := Option.some.inj hF
    exact xy_end (xw_return dN_add_38 rfl (Nat.le_refl _) (Nat.le_refl _) ⟨rfl, rfl⟩)
def FN_part_7 : Nat → Int32 → Option Nat → Int32 → xMs → Option (Option Nat)
  | 0, _, _, _, _ => none
  | fu + 1, l1, l2, l3, s => if l1 ≤ l3 then (some l2) else ((l2).bind fun i35 => if i35 < s.2.2.1.2.2.2.2.1 then (FN_part_7 fu l1 (s.2.2.1.2.2.2.2.2.1 i35).2.2.2.2.1 (l3 + 1) s) else none)
/-- FormulaShaperModel$Node.part -/
def FN_part (x9 : Nat) (x0 : Int32) (s : xMs) : Option (Option Nat) := if x9 < s.2.2.1.2.2.2.2.1 then (FN_part_7 xFuel x0 (s.2.2.1.2.2.2.2.2.1 x9).2.2.1 0 s) else none
set_option maxRecDepth 20000 in
theorem CN_part_7 {w : xw_G} {h : xw_H}  : ∀ (fu : Nat) {l1 : Int32} {l2 : Option Nat} {l3 : Int32} {s : xMs} {out : (Option Nat)} {h0 : xw_H}, FN_part_7 fu l1 l2 l3 s = some out → xw_X w (mN_part { frames := 0, cells := 0, slots := 0, locals := 0 }) (xw_R (some (xw_rf out)) (mV s h)) h0 0 0 7 [none, some (.int l1), some (xw_rf l2), some (.int l3)] [] (mV s h) := by
  intro fu
  induction fu with
  | zero =>
    intro l1 l2 l3 s out h0 hF
    rw [FN_part_7] at hF
    cases hF
  | succ fu ih =>
    intro l1 l2 l3 s out h0 hF
    rw [FN_part_7] at hF
    refine xw_iload_n dN_part_7 rfl ?_
    refine xw_iload_n dN_part_8 rfl ?_
    refine xw_icmp_ge 23 dN_part_9 (by decide) (fun c34 => ?_) (fun c34 => ?_)
    · replace hF := xg_t c34 hF
      refine xg_aload_n dN_part_23 rfl ?_
      obtain rfl := Option.some.inj hF
      exact xg_areturn dN_part_24 rfl (Nat.le_of_ble_eq_true rfl) (Nat.le_of_ble_eq_true rfl) ⟨rfl, rfl⟩
    · replace hF := xg_f c34 hF
      refine xg_aload_n dN_part_12 rfl ?_
      obtain ⟨i35, ei35, hF⟩ := xg_b hF
      refine xw_Ln (L' := [none, some (.int l1), some (.ref (xn i35)), some (.int l3)]) (by first | (rw [ei35]; done) | (rw [ei35]; rfl)) ?_
      refine xw_Sn (st' := [.ref (xn i35)]) (by first | (rw [ei35]; done) | (rw [ei35]; rfl)) ?_
      obtain ⟨g36, hF⟩ := xg_g hF
      refine xw_get dN_part_13 fN_20 (mV_n g36) rfl ?_
      refine xg_astore_n dN_part_16 (Nat.le_of_ble_eq_true rfl) ?_
      refine xw_Ln (L' := [none, some (.int l1), some (xw_rf (s.2.2.1.2.2.2.2.2.1 i35).2.2.2.2.1), some (.int l3)]) rfl ?_
      refine xw_iinc ((l3 + 1)) dN_part_17 rfl rfl (Nat.le_of_ble_eq_true rfl) ?_
      refine xw_Ln (L' := [none, some (.int l1), some (xw_rf (s.2.2.1.2.2.2.2.2.1 i35).2.2.2.2.1), some (.int (l3 + 1))]) (by generalize (s.2.2.1.2.2.2.2.2.1 i35).2.2.2.2.1 = e9; cases e9 <;> rfl) ?_
      refine xw_goto 7 dN_part_20 (by decide) ?_
      exact ih (s := s) hF
set_option maxRecDepth 20000 in
theorem CN_part {w : xw_G} {h : xw_H} {x9 : Nat} {x0 : Int32} {s : xMs} {out : (Option Nat)} (hF : FN_part x9 x0 s = some out) : xw_C w (mN_part { frames := 0, cells := 0, slots := 0, locals := 0 }) (xw_R (some (xw_rf out)) (mV s h)) [.ref (xn x9), .int x0] (mV s h) := by
  unfold FN_part at hF
  refine xw_enter rfl (show plainName "FormulaShaperModel$Node" = true by decide +kernel) (Nat.le_of_ble_eq_true rfl) ?_
  refine xw_aload_n dN_part_0 rfl ?_
  obtain ⟨g33, hF⟩ := xg_g hF
  refine xw_get dN_part_1 fN_13 (mV_n g33) rfl ?_
  refine xg_astore_n dN_part_4 (Nat.le_of_ble_eq_true rfl) ?_
  refine xw_Ln (L' := [some (.ref (xn x9)), some (.int x0), some (xw_rf (s.2.2.1.2.2.2.2.2.1 x9).2.2.1), none]) rfl ?_
  refine xw_iconst (0) dN_part_5 (by decide) ?_
  refine xw_istore_n dN_part_6 (Nat.le_of_ble_eq_true rfl) ?_
  refine xw_Ln (L' := [some (.ref (xn x9)), some (.int x0), some (xw_rf (s.2.2.1.2.2.2.2.2.1 x9).2.2.1), some (.int 0)]) (by generalize (s.2.2.1.2.2.2.2.2.1 x9).2.2.1 = e9; cases e9 <;> rfl) ?_
  refine xw_drop (L' := [none, some (.int x0), some (xw_rf (s.2.2.1.2.2.2.2.2.1 x9).2.2.1), some (.int 0)]) ⟨rfl, ⟨rfl, ⟨rfl, trivial⟩⟩⟩ ?_
  exact CN_part_7 xFuel (s := s) hF
