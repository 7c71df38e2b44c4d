theorem xb_fit (b : Bool) : fits .boolean (.int (xb b)) = true := by cases b <;> rfl
set_option maxRecDepth 20000 in
theorem CP_init (w : xw_G) {h : xw_H} (ha : h 1012 = some (.inr (4, [.null, .null, .null, .int 0]))) : xw_C w (mP_init { frames := 1, cells := 0, slots := 0, locals := 20 }) (xw_R none (xw_u h 1012 (some (.inr (4, [.ref 1001, .ref 1005, .ref 1010, .int 0]))))) [.ref 1012, .ref 1001, .ref 1005, .ref 1010] h := by
  refine xw_enter rfl (by decide +kernel) (Nat.le_of_ble_eq_true rfl) ?_
  refine xw_aload_n dP_init_0 rfl ?_
  refine xw_objInit dP_init_1 oP_3 (Nat.le_of_ble_eq_true rfl) (Nat.le_of_ble_eq_true rfl) (Nat.le_of_ble_eq_true rfl) ?_
  refine xw_aload_n dP_init_4 rfl ?_
  refine xw_aload_n dP_init_5 rfl ?_
  refine xw_putF dP_init_6 fP_9 rfl rfl ha (by decide) (Nat.le_of_ble_eq_true rfl) (fun _ => rfl) (fun _ => rfl) ?_
  refine xw_aload_n dP_init_9 rfl ?_
  refine xw_aload_n dP_init_10 rfl ?_
  refine xw_putF dP_init_11 fP_15 rfl rfl xw_u_at (by decide) (Nat.le_of_ble_eq_true rfl) (fun _ => rfl) (fun _ => rfl) ?_
  refine xw_aload_n dP_init_14 rfl ?_
  refine xw_aload_n dP_init_15 rfl ?_
  refine xw_putF dP_init_16 fP_19 rfl rfl xw_u_at (by decide) (Nat.le_of_ble_eq_true rfl) (fun _ => rfl) (fun _ => rfl) ?_
  refine xw_aload_n dP_init_19 rfl ?_
  refine xw_iconst (0) dP_init_20 (by decide) ?_
  refine xw_put dP_init_21 fP_23 xw_u_at (by decide) (Nat.le_of_ble_eq_true rfl) (fun _ => rfl) (fun _ => rfl) ?_
  exact xw_return dP_init_24 rfl (Nat.le_of_ble_eq_true rfl) (Nat.le_of_ble_eq_true rfl) ⟨rfl, by rw [xw_u_u, xw_u_u, xw_u_u]; rfl⟩
set_option maxRecDepth 20000 in
theorem CG_init (w : xw_G) {h : xw_H} (ha : h 1013 = some (.inr (5, [.null, .int 0, .int 0]))) : xw_C w (mG_init { frames := 1, cells := 0, slots := 0, locals := 20 }) (xw_R none (xw_u h 1013 (some (.inr (5, [.ref 1005, .int 0, .int 0]))))) [.ref 1013, .ref 1005] h := by
  refine xw_enter rfl (by decide +kernel) (Nat.le_of_ble_eq_true rfl) ?_
  refine xw_aload_n dG_init_0 rfl ?_
  refine xw_objInit dG_init_1 oG_3 (Nat.le_of_ble_eq_true rfl) (Nat.le_of_ble_eq_true rfl) (Nat.le_of_ble_eq_true rfl) ?_
  refine xw_aload_n dG_init_4 rfl ?_
  refine xw_aload_n dG_init_5 rfl ?_
  refine xw_putF dG_init_6 fG_9 rfl rfl ha (by decide) (Nat.le_of_ble_eq_true rfl) (fun _ => rfl) (fun _ => rfl) ?_
  refine xw_aload_n dG_init_9 rfl ?_
  refine xw_iconst (0) dG_init_10 (by decide) ?_
  refine xw_put dG_init_11 fG_15 xw_u_at (by decide) (Nat.le_of_ble_eq_true rfl) (fun _ => rfl) (fun _ => rfl) ?_
  refine xw_aload_n dG_init_14 rfl ?_
  refine xw_iconst (0) dG_init_15 (by decide) ?_
  refine xw_put dG_init_16 fG_19 xw_u_at (by decide) (Nat.le_of_ble_eq_true rfl) (fun _ => rfl) (fun _ => rfl) ?_
  exact xw_return dG_init_19 rfl (Nat.le_of_ble_eq_true rfl) (Nat.le_of_ble_eq_true rfl) ⟨rfl, by rw [xw_u_u, xw_u_u]; rfl⟩
set_option maxRecDepth 20000 in
theorem CV_init (w : xw_G) {h : xw_H}  : xw_C w (mV_init { frames := 1, cells := 0, slots := 0, locals := 20 }) (xw_R none h) [.ref 1014] h := by
  refine xw_enter rfl (by decide +kernel) (Nat.le_of_ble_eq_true rfl) ?_
  refine xw_aload_n dV_init_0 rfl ?_
  refine xw_objInit dV_init_1 oV_1 (Nat.le_of_ble_eq_true rfl) (Nat.le_of_ble_eq_true rfl) (Nat.le_of_ble_eq_true rfl) ?_
  exact xw_return dV_init_4 rfl (Nat.le_of_ble_eq_true rfl) (Nat.le_of_ble_eq_true rfl) ⟨rfl, rfl⟩
theorem nC_3 (R : Room) : xw_KN "FormulaShaper$Copying" 3 (mV_init R) 0 := ⟨"FormulaShaper", tw_696, tw_25, tw_698, (show (("FormulaShaper$Move" : String) ≠ "java/lang/invoke/MethodHandle" ∧ ("FormulaShaper$Move" : String) ≠ "java/lang/invoke/VarHandle") by decide), (show (parseMethodDescriptor "()V").map (fun d => d.parameters.length) = some 0 by decide +kernel), tw_697, rfl, rfl, rfl⟩
set_option maxRecDepth 20000 in
theorem CC_init (w : xw_G) {h : xw_H} {x y : Int32} (ha : h 1014 = some (.inr (6, [.int 0, .int 0]))) : xw_C w (mC_init { frames := 2, cells := 0, slots := 0, locals := 50 }) (xw_R none (xw_u h 1014 (some (vMc (.inl (x, y)))))) [.ref 1014, .int x, .int y] h := by
  refine xw_enter rfl (by decide +kernel) (Nat.le_of_ble_eq_true rfl) ?_
  refine xw_aload_n dC_init_0 rfl ?_
  refine xg_N0 (k1 := 0) (n1 := 0) (CV_init w) rfl rfl rfl dC_init_1 (nC_3 _) ⟨Nat.le_of_ble_eq_true rfl, Nat.le_of_ble_eq_true rfl⟩ rfl rfl (Nat.le_of_ble_eq_true rfl) (Nat.le_of_ble_eq_true rfl) (Nat.le_of_ble_eq_true rfl) (Nat.le_of_ble_eq_true rfl) (Nat.le_of_ble_eq_true rfl) ?_
  refine xw_aload_n dC_init_4 rfl ?_
  refine xw_iload_n dC_init_5 rfl ?_
  refine xw_putF dC_init_6 fC_9 rfl rfl ha (by decide) (Nat.le_of_ble_eq_true rfl) (fun _ => rfl) (fun _ => rfl) ?_
  refine xw_aload_n dC_init_9 rfl ?_
  refine xw_iload_n dC_init_10 rfl ?_
  refine xw_putF dC_init_11 fC_15 rfl rfl xw_u_at (by decide) (Nat.le_of_ble_eq_true rfl) (fun _ => rfl) (fun _ => rfl) ?_
  exact xw_return dC_init_14 rfl (Nat.le_of_ble_eq_true rfl) (Nat.le_of_ble_eq_true rfl) ⟨rfl, by rw [xw_u_u]; rfl⟩
theorem nH_3 (R : Room) : xw_KN "FormulaShaper$Shifting" 3 (mV_init R) 0 := ⟨"FormulaShaper", tw_803, tw_25, tw_698, (show (("FormulaShaper$Move" : String) ≠ "java/lang/invoke/MethodHandle" ∧ ("FormulaShaper$Move" : String) ≠ "java/lang/invoke/VarHandle") by decide), (show (parseMethodDescriptor "()V").map (fun d => d.parameters.length) = some 0 by decide +kernel), tw_697, rfl, rfl, rfl⟩
set_option maxRecDepth 20000 in
theorem CH_init (w : xw_G) {h : xw_H} {c : Bool} {x y : Int32} (ha : h 1014 = some (.inr (7, [.int 0, .int 0, .int 0]))) : xw_C w (mH_init { frames := 2, cells := 0, slots := 0, locals := 50 }) (xw_R none (xw_u h 1014 (some (vMc (.inr (c, x, y)))))) [.ref 1014, .int (xb c), .int x, .int y] h := by
  refine xw_enter rfl (by decide +kernel) (Nat.le_of_ble_eq_true rfl) ?_
  refine xw_aload_n dH_init_0 rfl ?_
  refine xg_N0 (k1 := 0) (n1 := 0) (CV_init w) rfl rfl rfl dH_init_1 (nH_3 _) ⟨Nat.le_of_ble_eq_true rfl, Nat.le_of_ble_eq_true rfl⟩ rfl rfl (Nat.le_of_ble_eq_true rfl) (Nat.le_of_ble_eq_true rfl) (Nat.le_of_ble_eq_true rfl) (Nat.le_of_ble_eq_true rfl) (Nat.le_of_ble_eq_true rfl) ?_
  refine xw_aload_n dH_init_4 rfl ?_
  refine xw_iload_n dH_init_5 rfl ?_
  refine xw_putF dH_init_6 fH_9 rfl rfl ha (by decide) (Nat.le_of_ble_eq_true rfl) (fun _ => xb_nar c) (fun _ => xb_fit c) ?_
  refine xw_aload_n dH_init_9 rfl ?_
  refine xw_iload_n dH_init_10 rfl ?_
  refine xw_putF dH_init_11 fH_15 rfl rfl xw_u_at (by decide) (Nat.le_of_ble_eq_true rfl) (fun _ => rfl) (fun _ => rfl) ?_
  refine xw_aload_n dH_init_14 rfl ?_
  refine xw_iload_n dH_init_15 rfl ?_
  refine xw_putF dH_init_16 fH_19 rfl rfl xw_u_at (by decide) (Nat.le_of_ble_eq_true rfl) (fun _ => rfl) (fun _ => rfl) ?_
  exact xw_return dH_init_19 rfl (Nat.le_of_ble_eq_true rfl) (Nat.le_of_ble_eq_true rfl) ⟨rfl, by rw [xw_u_u, xw_u_u]; rfl⟩

/-- the two Formulas have changed places -/
def vX (s : xSs) (h : xw_H) : xw_H := xw_u (vB 1001 s.1 (vB 1003 s.2.1 (vT s.2.2.1 (vF 1010 s.2.2.2.1 (vF 1008 s.2.2.2.2.1 h))))) 1000 (some (.inr (0, [.ref 1001, .ref 1003, .ref 1005, .ref 1010, .ref 1008, .int (xb s.2.2.2.2.2.1), .int s.2.2.2.2.2.2])))
def xJ (h h' : xw_H) : Prop := ∀ x, (x < 1012 ∨ 1014 < x) → h' x = h x
theorem xJ_u {h h' : xw_H} (hj : xJ h h') {k : Nat} {c : Option va_E} (h1 : 1012 ≤ k) (h2 : k ≤ 1014) : xJ h (xw_u h' k c) := fun x hx => (xw_u_ne (by omega)).trans (hj x hx)
theorem xJ_0 {h : xw_H} : xJ h h := fun _ _ => rfl
theorem xJ_t {h h' h1 : xw_H} (a : xJ h h') (b : xJ h' h1) : xJ h h1 := fun x hx => (b x hx).trans (a x hx)
def xo_Q {α : Type} (vf : α → Option Value) (h : xw_H) : xo α xSs → xw_P
  | .inl r => xw_R (vf r.1) (vX r.2 h)
  | .inr r => (fun _ _ => False, fun E h1 => E = r.1 ∧ ∃ h', xJ h h' ∧ h1 = vS r.2 h')
theorem vu_S {s : xSs} {h : xw_H} {k : Nat} {c : Option va_E} (hk : 1012 ≤ k) : xw_u (vS s h) k c = vS s (xw_u h k c) := by
  unfold vS
  rw [xw_u_comm (b := k) (by omega), vu_B (b := k) (by omega) (by omega), vu_B (b := k) (by omega) (by omega), vu_T (b := k) (by omega) (by omega) (by omega), vu_F (b := k) (by omega) (by omega), vu_F (b := k) (by omega) (by omega)]
theorem vS_FF {s : xSs} {h : xw_H} : vS s h = vF 1008 s.2.2.2.1 (vF 1010 s.2.2.2.2.1 (vB 1001 s.1 (vB 1003 s.2.1 (vT s.2.2.1 (vS_x s h))))) := by
  rw [vS_B, vTF (by decide), vTF (by decide), vBF (by decide), vBF (by decide), vBF (by decide), vBF (by decide)]
theorem vS_M {s : xSs} {m : xMv} {h : xw_H} : vS s (vV m h) = vM s.2.2.2.1 m s.2.2.2.2.1 (vB 1001 s.1 (vB 1003 s.2.1 (vT s.2.2.1 (vS_x s h)))) := by
  have e : vS s (vV m h) = vV m (vS s h) := (vu_S (s := s) (h := h) (k := 1014) (c := some (vMc m)) (by decide)).symm
  rw [e, vS_FF]; rfl
theorem vS_P {s : xSs} {x : Int32} {h : xw_H} : vS s (xw_u h 1012 (some (.inr (4, [.ref 1001, .ref 1005, .ref 1010, .int x])))) = vP s.1 (s.2.2.1, s.2.2.2.2.1, x) (vB 1003 s.2.1 (vF 1008 s.2.2.2.1 (vS_x s h))) := by
  rw [← vu_S (by decide), vS_B, vFF (a := 1008) (b := 1010) (by decide), vBT (a := 1003) (by decide), vBF (a := 1003) (b := 1010) (by decide)]; rfl
theorem vS_Gr {s : xSs} {x y : Int32} {h : xw_H} : vS s (xw_u h 1013 (some (.inr (5, [.ref 1005, .int x, .int y])))) = vG s.2.2.1 (x, y) (vB 1001 s.1 (vB 1003 s.2.1 (vF 1008 s.2.2.2.1 (vF 1010 s.2.2.2.2.1 (vS_x s h))))) := by
  rw [← vu_S (by decide), vS_B, vBT (a := 1003) (by decide), vBT (a := 1001) (by decide)]; rfl
theorem vX_out {s : xSs} {h : xw_H} {a : Nat} (ha : a < 1000 ∨ 1011 < a) : vX s h a = h a := by
  unfold vX vB vT vF
  rw [xw_u_ne (by omega), xw_u_ne (by omega), xw_u_ne (by omega), xw_u_ne (by omega), xw_u_ne (by omega), xw_u_ne (by omega), xw_u_ne (by omega), xw_u_ne (by omega), xw_u_ne (by omega), xw_u_ne (by omega), xw_u_ne (by omega), xw_u_ne (by omega)]
theorem vS_out {s : xSs} {h : xw_H} {a : Nat} (ha : a < 1000 ∨ 1011 < a) : vS s h a = h a := by
  unfold vS vB vT vF
  rw [xw_u_ne (by omega), xw_u_ne (by omega), xw_u_ne (by omega), xw_u_ne (by omega), xw_u_ne (by omega), xw_u_ne (by omega), xw_u_ne (by omega), xw_u_ne (by omega), xw_u_ne (by omega), xw_u_ne (by omega), xw_u_ne (by omega), xw_u_ne (by omega)]
theorem x12 {a : Nat} (h1 : 1000 ≤ a) (h2 : a ≤ 1011) : a = 1000 ∨ a = 1001 ∨ a = 1002 ∨ a = 1003 ∨ a = 1004 ∨ a = 1005 ∨ a = 1006 ∨ a = 1007 ∨ a = 1008 ∨ a = 1009 ∨ a = 1010 ∨ a = 1011 := by omega
theorem vX_in {s : xSs} {h h' : xw_H} {a : Nat} (h1 : 1000 ≤ a) (h2 : a ≤ 1011) : vX s h a = vX s h' a ∧ (vX s h a).isSome = true ∧ ∀ c, vX s h a = some c → xw_cl (vX s h) c := by
  rcases x12 h1 h2 with rfl | rfl | rfl | rfl | rfl | rfl | rfl | rfl | rfl | rfl | rfl | rfl <;> refine ⟨rfl, rfl, fun c hc => ?_⟩ <;> cases hc <;> first | exact trivial | exact ⟨Or.inr rfl, trivial, trivial⟩ | exact ⟨Or.inr rfl, Or.inr rfl, trivial, trivial⟩ | exact ⟨Or.inr rfl, trivial, trivial, trivial, trivial⟩ | exact ⟨Or.inr rfl, Or.inr rfl, Or.inr rfl, Or.inr rfl, Or.inr rfl, trivial, trivial, trivial⟩
theorem vS_in {s : xSs} {h h' : xw_H} {a : Nat} (h1 : 1000 ≤ a) (h2 : a ≤ 1011) : vS s h a = vS s h' a ∧ (vS s h a).isSome = true ∧ ∀ c, vS s h a = some c → xw_cl (vS s h) c := by
  rcases x12 h1 h2 with rfl | rfl | rfl | rfl | rfl | rfl | rfl | rfl | rfl | rfl | rfl | rfl <;> refine ⟨rfl, rfl, fun c hc => ?_⟩ <;> cases hc <;> first | exact trivial | exact ⟨Or.inr rfl, trivial, trivial⟩ | exact ⟨Or.inr rfl, Or.inr rfl, trivial, trivial⟩ | exact ⟨Or.inr rfl, trivial, trivial, trivial, trivial⟩ | exact ⟨Or.inr rfl, Or.inr rfl, Or.inr rfl, Or.inr rfl, Or.inr rfl, trivial, trivial, trivial⟩
/-- a view of the class, in one of its two orders -/
def xVv (W : xSs → xw_H → xw_H) : Prop := (∀ s h a, (a < 1000 ∨ 1011 < a) → W s h a = h a) ∧ ∀ s h h' a, 1000 ≤ a → a ≤ 1011 → W s h a = W s h' a ∧ (W s h a).isSome = true ∧ ∀ c, W s h a = some c → xw_cl (W s h) c
theorem xVv_S : xVv vS := ⟨fun _ _ _ h => vS_out h, fun _ _ _ _ h1 h2 => vS_in h1 h2⟩
theorem xVv_X : xVv vX := ⟨fun _ _ _ h => vX_out h, fun _ _ _ _ h1 h2 => vX_in h1 h2⟩
/-- what was made for a call is dropped -/
theorem xw_forgetJ {W W' : xSs → xw_H → xw_H} (hW : xVv W) (hW' : xVv W') {w : xw_G} {μ : xw_M} {P : xw_P} {kc n pc : Nat} {L : List (Option Value)} {st : List Value} {s s' : xSs} {h h' : xw_H} (hj : xJ h h') (hf : ∀ x, 1012 ≤ x → x ≤ 1014 → h x = none) (hL1 : xw_okL (W' s' h) L) (hst1 : xw_oks (W' s' h) st) (k : xw_X w μ P (W s h) kc n pc L st (W' s' h)) : xw_X w μ P (W s h) kc n pc L st (W' s' h') := by
  have hd : ∀ a, xw_bd (W s h) a → xw_bd (W' s' h) a := by
    intro a ha
    rcases ha with ha | ha
    · exact Or.inl ha
    · by_cases q : 1000 ≤ a ∧ a ≤ 1011
      · exact Or.inr (hW'.2 s' h h a q.1 q.2).2.1
      · rw [hW.1 s h a (by omega)] at ha
        exact Or.inr (by rw [hW'.1 s' h a (by omega)]; exact ha)
  refine xw_forget (W' s' h) (fun a c ha => ?_) (fun hc a c ha => ?_) hd hL1 hst1 k
  · by_cases q : 1000 ≤ a ∧ a ≤ 1011
    · rw [(hW'.2 s' h' h a q.1 q.2).1]; exact ha
    · rw [hW'.1 s' h a (by omega)] at ha
      by_cases q2 : 1012 ≤ a ∧ a ≤ 1014
      · rw [hf a q2.1 q2.2] at ha; cases ha
      · rw [hW'.1 s' h' a (by omega), hj a (by omega)]; exact ha
  · by_cases q : 1000 ≤ a ∧ a ≤ 1011
    · exact (hW'.2 s' h h a q.1 q.2).2.2 c ha
    · rw [hW'.1 s' h a (by omega)] at ha
      exact xw_cl_mono hd (hc a c (by rw [hW.1 s h a (by omega)]; exact ha))
-- ===== settle =====
def FS_settle (s : xSs) : Option (xo Int32 xSs) := if s.2.2.2.2.1.2.2.1 ≤ 1000 then some (.inl (s.2.2.2.2.1.2.2.1, (s.1, s.2.1, s.2.2.1, s.2.2.2.2.1, s.2.2.2.1, true, s.2.2.2.2.2.2))) else some (.inr ("java/lang/IndexOutOfBoundsException", s))
set_option maxRecDepth 20000 in
theorem CS_settle {w : xw_G} {h : xw_H} {s : xSs} {out : xo Int32 xSs} (hF : FS_settle s = some out) : xw_C w (mS_settle { frames := 7, cells := 1, slots := 6, locals := 120 }) (xo_Q (fun x => some (.int x)) h out) [.ref 1000] (vS s h) := by
  unfold FS_settle at hF
  refine xw_enter rfl (show plainName "FormulaShaper" = true by decide +kernel) (Nat.le_of_ble_eq_true rfl) ?_
  refine xw_aload_n dS_settle_0 rfl ?_
  refine xw_get dS_settle_1 fS_33 rfl rfl ?_
  refine xg_V1 (k1 := 0) (n1 := 0) (CF_width (a := 1010) (by decide) rfl) (vS_G (s := s) (h := h)) (vS_G (s := s) (h := h)).symm rfl dS_settle_4 (kS_158 _) ⟨Nat.le_of_ble_eq_true rfl, Nat.le_of_ble_eq_true rfl⟩ rfl rfl rfl rfl (Nat.le_of_ble_eq_true rfl) (Nat.le_of_ble_eq_true rfl) (Nat.le_of_ble_eq_true rfl) (Nat.le_of_ble_eq_true rfl) (Nat.le_of_ble_eq_true rfl) ?_
  refine xw_sipush 1000 dS_settle_7 (by decide) ?_
  refine xw_icmp_le 21 dS_settle_10 (by decide) (fun c => ?_) (fun c => ?_)
  · replace hF := xg_t c hF
    obtain rfl := Option.some.inj hF
    refine xw_aload_n dS_settle_21 rfl ?_
    refine xw_get dS_settle_22 fS_29 rfl rfl ?_
    refine xw_astore_n dS_settle_25 (Nat.le_of_ble_eq_true rfl) ?_
    refine xw_aload_n dS_settle_26 rfl ?_
    refine xw_aload_n dS_settle_27 rfl ?_
    refine xw_get dS_settle_28 fS_33 rfl rfl ?_
    refine xw_put dS_settle_31 fS_29 rfl (by decide) (Nat.le_of_ble_eq_true rfl) (fun _ => rfl) (fun _ => rfl) ?_
    refine xw_aload_n dS_settle_34 rfl ?_
    refine xw_aload_n dS_settle_35 rfl ?_
    refine xw_put dS_settle_36 fS_33 rfl (by decide) (Nat.le_of_ble_eq_true rfl) (fun _ => rfl) (fun _ => rfl) ?_
    refine xw_aload_n dS_settle_39 rfl ?_
    refine xw_iconst 1 dS_settle_40 (by decide) ?_
    refine xw_put dS_settle_41 fS_36 rfl (by decide) (Nat.le_of_ble_eq_true rfl) (fun _ => rfl) (fun _ => rfl) ?_
    have e : xw_u (xw_u (xw_u (vS s h) 1000 (some (.inr (0, [.ref 1001, .ref 1003, .ref 1005, .ref 1010, .ref 1010, .int (xb s.2.2.2.2.2.1), .int s.2.2.2.2.2.2])))) 1000 (some (.inr (0, [.ref 1001, .ref 1003, .ref 1005, .ref 1010, .ref 1008, .int (xb s.2.2.2.2.2.1), .int s.2.2.2.2.2.2])))) 1000 (some (.inr (0, [.ref 1001, .ref 1003, .ref 1005, .ref 1010, .ref 1008, .int 1, .int s.2.2.2.2.2.2]))) = vX (s.1, s.2.1, s.2.2.1, s.2.2.2.2.1, s.2.2.2.1, true, s.2.2.2.2.2.2) h := by
      unfold vS vX
      rw [xw_u_u, xw_u_u, xw_u_u, vFF (a := 1008) (b := 1010) (by decide)]
    refine xw_aload_n dS_settle_44 rfl ?_
    refine xw_get dS_settle_45 fS_29 rfl rfl ?_
    have e2 : vX (s.1, s.2.1, s.2.2.1, s.2.2.2.2.1, s.2.2.2.1, true, s.2.2.2.2.2.2) h = vF 1010 s.2.2.2.2.1 (xw_u (vB 1001 s.1 (vB 1003 s.2.1 (vT s.2.2.1 (vF 1008 s.2.2.2.1 h)))) 1000 (some (.inr (0, [.ref 1001, .ref 1003, .ref 1005, .ref 1010, .ref 1008, .int 1, .int s.2.2.2.2.2.2])))) := by
      unfold vX
      rw [vTF (by decide), vBF (by decide), vBF (by decide), vu_F (by decide) (by decide)]
    refine xg_V1 (k1 := 0) (n1 := 0) (CF_width (a := 1010) (by decide) rfl) (e.trans e2) e2.symm rfl dS_settle_48 (kS_158 _) ⟨Nat.le_of_ble_eq_true rfl, Nat.le_of_ble_eq_true rfl⟩ rfl rfl rfl rfl (Nat.le_of_ble_eq_true rfl) (Nat.le_of_ble_eq_true rfl) (Nat.le_of_ble_eq_true rfl) (Nat.le_of_ble_eq_true rfl) (Nat.le_of_ble_eq_true rfl) ?_
    exact xw_ireturn dS_settle_51 rfl rfl (Nat.le_of_ble_eq_true rfl) (Nat.le_of_ble_eq_true rfl) ⟨rfl, rfl⟩
  · replace hF := xg_f c hF
    obtain rfl := Option.some.inj hF
    exact xw_throw rfl tS_48 dS_settle_13 dS_settle_16 dS_settle_17 dS_settle_20 (Nat.le_of_ble_eq_true rfl) (Nat.le_of_ble_eq_true rfl) (Nat.le_of_ble_eq_true rfl) (Nat.le_of_ble_eq_true rfl) ⟨rfl, h, xJ_0, rfl⟩
-- ===== change =====
def FS_change (m : xMv) (s : xSs) : Option (xo Int32 xSs) := xo_b (FS_needFormula s) fun r => (FF_takeMoved r.2.2.2.2.1 m r.2.2.2.2.2.1).bind fun o => FS_settle (r.2.1, r.2.2.1, r.2.2.2.1, r.2.2.2.2.1, o, r.2.2.2.2.2.2)
set_option maxRecDepth 20000 in
theorem CS_change {w : xw_G} {h : xw_H} {m : xMv} {s : xSs} {out : xo Int32 xSs} (hF : FS_change m s = some out) : xw_C w (mS_change { frames := 20, cells := 2, slots := 12, locals := 700 }) (xo_Q (fun x => some (.int x)) (vV m h) out) [.ref 1000, .ref 1014] (vS s (vV m h)) := by
  unfold FS_change at hF
  refine xw_enter rfl (show plainName "FormulaShaper" = true by decide +kernel) (Nat.le_of_ble_eq_true rfl) ?_
  refine xw_aload_n dS_change_0 rfl ?_
  rcases xg_o hF with ⟨r, er, hF⟩ | ⟨r, er, hF⟩
  · refine xg_V0 (k1 := 1) (n1 := 6) (CS_needFormula er) rfl rfl rfl dS_change_1 (kS_108 _) ⟨Nat.le_of_ble_eq_true rfl, Nat.le_of_ble_eq_true rfl⟩ rfl rfl rfl rfl (Nat.le_of_ble_eq_true rfl) (Nat.le_of_ble_eq_true rfl) (Nat.le_of_ble_eq_true rfl) (Nat.le_of_ble_eq_true rfl) (Nat.le_of_ble_eq_true rfl) ?_
    obtain ⟨o, eo, hF⟩ := xg_b hF
    refine xw_aload_n dS_change_4 rfl ?_
    refine xw_get dS_change_5 fS_33 rfl rfl ?_
    refine xw_aload_n dS_change_8 rfl ?_
    refine xw_get dS_change_9 fS_29 rfl rfl ?_
    refine xw_aload_n dS_change_12 rfl ?_
    refine xg_V0 (k1 := 1) (n1 := 6) (CF_takeMoved eo) (vS_M (s := r.2) (m := m) (h := h)) (vS_M (s := (r.2.1, r.2.2.1, r.2.2.2.1, r.2.2.2.2.1, o, r.2.2.2.2.2.2)) (m := m) (h := h)).symm rfl dS_change_13 (kS_154 _) ⟨Nat.le_of_ble_eq_true rfl, Nat.le_of_ble_eq_true rfl⟩ rfl rfl rfl rfl (Nat.le_of_ble_eq_true rfl) (Nat.le_of_ble_eq_true rfl) (Nat.le_of_ble_eq_true rfl) (Nat.le_of_ble_eq_true rfl) (Nat.le_of_ble_eq_true rfl) ?_
    refine xw_aload_n dS_change_16 rfl ?_
    have hC := CS_settle (w := w) (h := vV m h) hF
    match out, hC with
    | .inl q, hC =>
      refine xg_V1 (k1 := 2) (n1 := 12) hC rfl rfl rfl dS_change_17 (kS_83 _) ⟨Nat.le_of_ble_eq_true rfl, Nat.le_of_ble_eq_true rfl⟩ rfl rfl rfl rfl (Nat.le_of_ble_eq_true rfl) (Nat.le_of_ble_eq_true rfl) (Nat.le_of_ble_eq_true rfl) (Nat.le_of_ble_eq_true rfl) (Nat.le_of_ble_eq_true rfl) ?_
      exact xw_ireturn dS_change_20 rfl rfl (Nat.le_of_ble_eq_true rfl) (Nat.le_of_ble_eq_true rfl) ⟨rfl, rfl⟩
    | .inr q, hC => exact xw_callV hC rfl dS_change_17 (kS_83 _) ⟨Nat.le_of_ble_eq_true rfl, Nat.le_of_ble_eq_true rfl⟩ rfl rfl rfl rfl (Nat.le_of_ble_eq_true rfl) (Nat.le_of_ble_eq_true rfl) (Nat.le_of_ble_eq_true rfl) (fun _ _ z => z.elim) (fun _ _ z => z)
  · subst hF
    exact xg_Vt (CS_needFormula er) rfl rfl rfl dS_change_1 (kS_108 _) ⟨Nat.le_of_ble_eq_true rfl, Nat.le_of_ble_eq_true rfl⟩ rfl rfl rfl rfl (Nat.le_of_ble_eq_true rfl) (Nat.le_of_ble_eq_true rfl) (Nat.le_of_ble_eq_true rfl) ⟨rfl, _, xJ_0, rfl⟩

/-- the answer of a call that changes the formula, what was made dropped -/
theorem xJ_V {h : xw_H} {m : xMv} : xJ h (vV m h) := fun x hx => xw_u_ne (by omega)
def FS_copy (x0 x1 : Int32) (s : xSs) : Option (xo Int32 xSs) := if ¬ sS_isTooFar x0 = 0 then some (.inr ("java/lang/IllegalArgumentException", s)) else if sS_isTooFar x1 = 0 then FS_change (.inl (x0, x1)) s else some (.inr ("java/lang/IllegalArgumentException", s))
def FS_insert (x0 : Bool) (x1 x2 : Int32) (s : xSs) : Option (xo Int32 xSs) := if sS_isOffSheet (xb x0) x1 x2 = 0 then FS_change (.inr (x0, x1, x2)) s else some (.inr ("java/lang/IllegalArgumentException", s))
def FS_remove (x0 : Bool) (x1 x2 : Int32) (s : xSs) : Option (xo Int32 xSs) := if sS_isOffSheet (xb x0) x1 x2 = 0 then FS_change (.inr (x0, x1, -x2)) s else some (.inr ("java/lang/IllegalArgumentException", s))
set_option maxRecDepth 20000 in
theorem CS_copy {w : xw_G} {h : xw_H} {x0 x1 : Int32} {s : xSs} {out : xo Int32 xSs} (hf : ∀ x, 1012 ≤ x → x ≤ 1014 → h x = none) (hF : FS_copy x0 x1 s = some out) : xw_C w (mS_copy { frames := 21, cells := 3, slots := 15, locals := 800 }) (xo_Q (fun x => some (.int x)) h out) [.ref 1000, .int x0, .int x1] (vS s h) := by
  unfold FS_copy at hF
  refine xw_enter rfl (show plainName "FormulaShaper" = true by decide +kernel) (Nat.le_of_ble_eq_true rfl) ?_
  refine xw_iload_n dS_copy_0 rfl ?_
  refine xg_S1 (k1 := 0) (n1 := 0) (cS_isTooFar w) rfl rfl rfl dS_copy_1 (kS_86 _) ⟨Nat.le_of_ble_eq_true rfl, Nat.le_of_ble_eq_true rfl⟩ rfl rfl (Nat.le_of_ble_eq_true rfl) (Nat.le_of_ble_eq_true rfl) (Nat.le_of_ble_eq_true rfl) (Nat.le_of_ble_eq_true rfl) (Nat.le_of_ble_eq_true rfl) ?_
  refine xw_if_ne 14 dS_copy_4 (by decide) (fun c => ?_) (fun c => ?_)
  · replace hF := xg_t c hF
    obtain rfl := Option.some.inj hF
    exact xw_throw rfl tS_55 dS_copy_14 dS_copy_17 dS_copy_18 dS_copy_21 (Nat.le_of_ble_eq_true rfl) (Nat.le_of_ble_eq_true rfl) (Nat.le_of_ble_eq_true rfl) (Nat.le_of_ble_eq_true rfl) ⟨rfl, h, xJ_0, rfl⟩
  replace hF := xg_f (fun z => z c) hF
  refine xw_iload_n dS_copy_7 rfl ?_
  refine xg_S1 (k1 := 0) (n1 := 0) (cS_isTooFar w) rfl rfl rfl dS_copy_8 (kS_86 _) ⟨Nat.le_of_ble_eq_true rfl, Nat.le_of_ble_eq_true rfl⟩ rfl rfl (Nat.le_of_ble_eq_true rfl) (Nat.le_of_ble_eq_true rfl) (Nat.le_of_ble_eq_true rfl) (Nat.le_of_ble_eq_true rfl) (Nat.le_of_ble_eq_true rfl) ?_
  refine xw_if_eq 22 dS_copy_11 (by decide) (fun c => ?_) (fun c => ?_)
  · replace hF := xg_t c hF
    refine xw_aload_n dS_copy_22 rfl ?_
    refine xw_new 1014 dS_copy_23 nS_90 (hf 1014 (by decide) (by decide)) (by decide) (Nat.le_of_ble_eq_true rfl) (Nat.le_of_ble_eq_true rfl) ?_
    refine xw_dup_r dS_copy_26 ?_
    refine xw_iload_n dS_copy_27 rfl ?_
    refine xw_iload_n dS_copy_28 rfl ?_
    refine xg_I0 (k1 := 1) (n1 := 2) (CC_init w rfl) rfl rfl rfl dS_copy_29 (kS_92 _) ⟨Nat.le_of_ble_eq_true rfl, Nat.le_of_ble_eq_true rfl⟩ rfl rfl (Nat.le_of_ble_eq_true rfl) (Nat.le_of_ble_eq_true rfl) (Nat.le_of_ble_eq_true rfl) (Nat.le_of_ble_eq_true rfl) (Nat.le_of_ble_eq_true rfl) ?_
    have e9 : ∀ m : xMv, xw_u (vS s h) 1014 (some (vMc m)) = vS s (vV m h) := fun m => vu_S (by decide)
    rw [xw_u_u, e9]
    have hC := CS_change (w := w) (h := h) hF
    match out, hC with
    | .inl q, hC =>
      refine xg_V1 (k1 := 3) (n1 := 14) hC rfl rfl rfl dS_copy_32 (kS_95 _) ⟨Nat.le_of_ble_eq_true rfl, Nat.le_of_ble_eq_true rfl⟩ rfl rfl rfl rfl (Nat.le_of_ble_eq_true rfl) (Nat.le_of_ble_eq_true rfl) (Nat.le_of_ble_eq_true rfl) (Nat.le_of_ble_eq_true rfl) (Nat.le_of_ble_eq_true rfl) ?_
      refine xw_forgetJ xVv_S xVv_X xJ_V hf ⟨Or.inr rfl, trivial, trivial, trivial⟩ ⟨trivial, trivial⟩ ?_
      exact xw_ireturn dS_copy_35 rfl rfl (Nat.le_of_ble_eq_true rfl) (Nat.le_of_ble_eq_true rfl) ⟨rfl, rfl⟩
    | .inr q, hC => exact xw_callV hC rfl dS_copy_32 (kS_95 _) ⟨Nat.le_of_ble_eq_true rfl, Nat.le_of_ble_eq_true rfl⟩ rfl rfl rfl rfl (Nat.le_of_ble_eq_true rfl) (Nat.le_of_ble_eq_true rfl) (Nat.le_of_ble_eq_true rfl) (fun _ _ z => z.elim) (fun _ _ z => ⟨z.1, z.2.elim fun h9 z9 => ⟨h9, xJ_t xJ_V z9.1, z9.2⟩⟩)
  · replace hF := xg_f c hF
    obtain rfl := Option.some.inj hF
    exact xw_throw rfl tS_55 dS_copy_14 dS_copy_17 dS_copy_18 dS_copy_21 (Nat.le_of_ble_eq_true rfl) (Nat.le_of_ble_eq_true rfl) (Nat.le_of_ble_eq_true rfl) (Nat.le_of_ble_eq_true rfl) ⟨rfl, h, xJ_0, rfl⟩
set_option maxRecDepth 20000 in
theorem CS_insert {w : xw_G} {h : xw_H} {x0 : Bool} {x1 x2 : Int32} {s : xSs} {out : xo Int32 xSs} (hf : ∀ x, 1012 ≤ x → x ≤ 1014 → h x = none) (hF : FS_insert x0 x1 x2 s = some out) : xw_C w (mS_insert { frames := 21, cells := 3, slots := 15, locals := 800 }) (xo_Q (fun x => some (.int x)) h out) [.ref 1000, .int (xb x0), .int x1, .int x2] (vS s h) := by
  unfold FS_insert at hF
  refine xw_enter rfl (show plainName "FormulaShaper" = true by decide +kernel) (Nat.le_of_ble_eq_true rfl) ?_
  refine xw_iload_n dS_insert_0 rfl ?_
  refine xw_iload_n dS_insert_1 rfl ?_
  refine xw_iload_n dS_insert_2 rfl ?_
  refine xg_S1 (k1 := 0) (n1 := 0) (cS_isOffSheet w) rfl rfl rfl dS_insert_3 (kS_99 _) ⟨Nat.le_of_ble_eq_true rfl, Nat.le_of_ble_eq_true rfl⟩ rfl rfl (Nat.le_of_ble_eq_true rfl) (Nat.le_of_ble_eq_true rfl) (Nat.le_of_ble_eq_true rfl) (Nat.le_of_ble_eq_true rfl) (Nat.le_of_ble_eq_true rfl) ?_
  refine xw_if_eq 17 dS_insert_6 (by decide) (fun c => ?_) (fun c => ?_)
  · replace hF := xg_t c hF
    refine xw_aload_n dS_insert_17 rfl ?_
    refine xw_new 1014 dS_insert_18 nS_103 (hf 1014 (by decide) (by decide)) (by decide) (Nat.le_of_ble_eq_true rfl) (Nat.le_of_ble_eq_true rfl) ?_
    refine xw_dup_r dS_insert_21 ?_
    refine xw_iload_n dS_insert_22 rfl ?_
    refine xw_iload_n dS_insert_23 rfl ?_
    refine xw_iload_n dS_insert_24 rfl ?_
    refine xg_I0 (k1 := 1) (n1 := 3) (CH_init w rfl) rfl rfl rfl dS_insert_25 (kS_105 _) ⟨Nat.le_of_ble_eq_true rfl, Nat.le_of_ble_eq_true rfl⟩ rfl rfl (Nat.le_of_ble_eq_true rfl) (Nat.le_of_ble_eq_true rfl) (Nat.le_of_ble_eq_true rfl) (Nat.le_of_ble_eq_true rfl) (Nat.le_of_ble_eq_true rfl) ?_
    have e9 : ∀ m : xMv, xw_u (vS s h) 1014 (some (vMc m)) = vS s (vV m h) := fun m => vu_S (by decide)
    rw [xw_u_u, e9]
    have hC := CS_change (w := w) (h := h) hF
    match out, hC with
    | .inl q, hC =>
      refine xg_V1 (k1 := 3) (n1 := 15) hC rfl rfl rfl dS_insert_28 (kS_95 _) ⟨Nat.le_of_ble_eq_true rfl, Nat.le_of_ble_eq_true rfl⟩ rfl rfl rfl rfl (Nat.le_of_ble_eq_true rfl) (Nat.le_of_ble_eq_true rfl) (Nat.le_of_ble_eq_true rfl) (Nat.le_of_ble_eq_true rfl) (Nat.le_of_ble_eq_true rfl) ?_
      refine xw_forgetJ xVv_S xVv_X xJ_V hf ⟨Or.inr rfl, trivial, trivial, trivial, trivial⟩ ⟨trivial, trivial⟩ ?_
      exact xw_ireturn dS_insert_31 rfl rfl (Nat.le_of_ble_eq_true rfl) (Nat.le_of_ble_eq_true rfl) ⟨rfl, rfl⟩
    | .inr q, hC => exact xw_callV hC rfl dS_insert_28 (kS_95 _) ⟨Nat.le_of_ble_eq_true rfl, Nat.le_of_ble_eq_true rfl⟩ rfl rfl rfl rfl (Nat.le_of_ble_eq_true rfl) (Nat.le_of_ble_eq_true rfl) (Nat.le_of_ble_eq_true rfl) (fun _ _ z => z.elim) (fun _ _ z => ⟨z.1, z.2.elim fun h9 z9 => ⟨h9, xJ_t xJ_V z9.1, z9.2⟩⟩)
  · replace hF := xg_f c hF
    obtain rfl := Option.some.inj hF
    exact xw_throw rfl tS_55 dS_insert_9 dS_insert_12 dS_insert_13 dS_insert_16 (Nat.le_of_ble_eq_true rfl) (Nat.le_of_ble_eq_true rfl) (Nat.le_of_ble_eq_true rfl) (Nat.le_of_ble_eq_true rfl) ⟨rfl, h, xJ_0, rfl⟩
set_option maxRecDepth 20000 in
theorem CS_remove {w : xw_G} {h : xw_H} {x0 : Bool} {x1 x2 : Int32} {s : xSs} {out : xo Int32 xSs} (hf : ∀ x, 1012 ≤ x → x ≤ 1014 → h x = none) (hF : FS_remove x0 x1 x2 s = some out) : xw_C w (mS_remove { frames := 21, cells := 3, slots := 15, locals := 800 }) (xo_Q (fun x => some (.int x)) h out) [.ref 1000, .int (xb x0), .int x1, .int x2] (vS s h) := by
  unfold FS_remove at hF
  refine xw_enter rfl (show plainName "FormulaShaper" = true by decide +kernel) (Nat.le_of_ble_eq_true rfl) ?_
  refine xw_iload_n dS_remove_0 rfl ?_
  refine xw_iload_n dS_remove_1 rfl ?_
  refine xw_iload_n dS_remove_2 rfl ?_
  refine xg_S1 (k1 := 0) (n1 := 0) (cS_isOffSheet w) rfl rfl rfl dS_remove_3 (kS_99 _) ⟨Nat.le_of_ble_eq_true rfl, Nat.le_of_ble_eq_true rfl⟩ rfl rfl (Nat.le_of_ble_eq_true rfl) (Nat.le_of_ble_eq_true rfl) (Nat.le_of_ble_eq_true rfl) (Nat.le_of_ble_eq_true rfl) (Nat.le_of_ble_eq_true rfl) ?_
  refine xw_if_eq 17 dS_remove_6 (by decide) (fun c => ?_) (fun c => ?_)
  · replace hF := xg_t c hF
    refine xw_aload_n dS_remove_17 rfl ?_
    refine xw_new 1014 dS_remove_18 nS_103 (hf 1014 (by decide) (by decide)) (by decide) (Nat.le_of_ble_eq_true rfl) (Nat.le_of_ble_eq_true rfl) ?_
    refine xw_dup_r dS_remove_21 ?_
    refine xw_iload_n dS_remove_22 rfl ?_
    refine xw_iload_n dS_remove_23 rfl ?_
    refine xw_iload_n dS_remove_24 rfl ?_
    refine xw_ineg dS_remove_25 ?_
    refine xg_I0 (k1 := 1) (n1 := 3) (CH_init w rfl) rfl rfl rfl dS_remove_26 (kS_105 _) ⟨Nat.le_of_ble_eq_true rfl, Nat.le_of_ble_eq_true rfl⟩ rfl rfl (Nat.le_of_ble_eq_true rfl) (Nat.le_of_ble_eq_true rfl) (Nat.le_of_ble_eq_true rfl) (Nat.le_of_ble_eq_true rfl) (Nat.le_of_ble_eq_true rfl) ?_
    have e9 : ∀ m : xMv, xw_u (vS s h) 1014 (some (vMc m)) = vS s (vV m h) := fun m => vu_S (by decide)
    rw [xw_u_u, e9]
    have hC := CS_change (w := w) (h := h) hF
    match out, hC with
    | .inl q, hC =>
      refine xg_V1 (k1 := 3) (n1 := 15) hC rfl rfl rfl dS_remove_29 (kS_95 _) ⟨Nat.le_of_ble_eq_true rfl, Nat.le_of_ble_eq_true rfl⟩ rfl rfl rfl rfl (Nat.le_of_ble_eq_true rfl) (Nat.le_of_ble_eq_true rfl) (Nat.le_of_ble_eq_true rfl) (Nat.le_of_ble_eq_true rfl) (Nat.le_of_ble_eq_true rfl) ?_
      refine xw_forgetJ xVv_S xVv_X xJ_V hf ⟨Or.inr rfl, trivial, trivial, trivial, trivial⟩ ⟨trivial, trivial⟩ ?_
      exact xw_ireturn dS_remove_32 rfl rfl (Nat.le_of_ble_eq_true rfl) (Nat.le_of_ble_eq_true rfl) ⟨rfl, rfl⟩
    | .inr q, hC => exact xw_callV hC rfl dS_remove_29 (kS_95 _) ⟨Nat.le_of_ble_eq_true rfl, Nat.le_of_ble_eq_true rfl⟩ rfl rfl rfl rfl (Nat.le_of_ble_eq_true rfl) (Nat.le_of_ble_eq_true rfl) (Nat.le_of_ble_eq_true rfl) (fun _ _ z => z.elim) (fun _ _ z => ⟨z.1, z.2.elim fun h9 z9 => ⟨h9, xJ_t xJ_V z9.1, z9.2⟩⟩)
  · replace hF := xg_f c hF
    obtain rfl := Option.some.inj hF
    exact xw_throw rfl tS_55 dS_remove_9 dS_remove_12 dS_remove_13 dS_remove_16 (Nat.le_of_ble_eq_true rfl) (Nat.le_of_ble_eq_true rfl) (Nat.le_of_ble_eq_true rfl) (Nat.le_of_ble_eq_true rfl) ⟨rfl, h, xJ_0, rfl⟩

-- ===== read =====
def FS_read (s : xSs) : Option (xo Int32 xSs) := (FP_split s.1 (s.2.2.1, s.2.2.2.2.1, 0)).bind fun p => (FG_takesFormula p.1 (0, 0)).bind fun r => if r.1 = true then FS_settle ((s.1.1, 0), s.2.1, p.1, s.2.2.2.1, p.2.1, s.2.2.2.2.2.1, -1) else (FG_place p.1 r.2).bind fun q => some (.inr ("java/lang/UnsupportedOperationException", ((s.1.1, 0), s.2.1, p.1, s.2.2.2.1, p.2.1, s.2.2.2.2.2.1, q)))
set_option maxRecDepth 20000 in
theorem CS_read {w : xw_G} {h : xw_H} {s : xSs} {out : xo Int32 xSs} (hf : ∀ x, 1012 ≤ x → x ≤ 1014 → h x = none) (hF : FS_read s = some out) : xw_C w (mS_read { frames := 160, cells := 3, slots := 13, locals := 8000 }) (xo_Q (fun x => some (.int x)) h out) [.ref 1000] (vS s h) := by
  unfold FS_read at hF
  obtain ⟨p, ep, hF⟩ := xg_b hF
  obtain ⟨r, er, hF⟩ := xg_b hF
  refine xw_enter rfl (show plainName "FormulaShaper" = true by decide +kernel) (Nat.le_of_ble_eq_true rfl) ?_
  refine xw_new 1012 dS_read_0 nS_61 (hf 1012 (by decide) (by decide)) (by decide) (Nat.le_of_ble_eq_true rfl) (Nat.le_of_ble_eq_true rfl) ?_
  refine xw_dup_r dS_read_3 ?_
  refine xw_aload_n dS_read_4 rfl ?_
  refine xw_get dS_read_5 fS_10 rfl rfl ?_
  refine xw_aload_n dS_read_8 rfl ?_
  refine xw_get dS_read_9 fS_22 rfl rfl ?_
  refine xw_aload_n dS_read_12 rfl ?_
  refine xw_get dS_read_13 fS_33 rfl rfl ?_
  refine xg_I0 (k1 := 1) (n1 := 4) (CP_init w rfl) rfl rfl rfl dS_read_16 (kS_63 _) ⟨Nat.le_of_ble_eq_true rfl, Nat.le_of_ble_eq_true rfl⟩ rfl rfl (Nat.le_of_ble_eq_true rfl) (Nat.le_of_ble_eq_true rfl) (Nat.le_of_ble_eq_true rfl) (Nat.le_of_ble_eq_true rfl) (Nat.le_of_ble_eq_true rfl) ?_
  rw [xw_u_u, vu_S (by decide)]
  refine xg_V0 (k1 := 1) (n1 := 4) (CP_split ep) (vS_P (s := s) (h := h)) (vS_P (s := (s.1, s.2.1, p.1, s.2.2.2.1, p.2.1, s.2.2.2.2.2)) (h := h)).symm rfl dS_read_19 (kS_66 _) ⟨Nat.le_of_ble_eq_true rfl, Nat.le_of_ble_eq_true rfl⟩ rfl rfl rfl rfl (Nat.le_of_ble_eq_true rfl) (Nat.le_of_ble_eq_true rfl) (Nat.le_of_ble_eq_true rfl) (Nat.le_of_ble_eq_true rfl) (Nat.le_of_ble_eq_true rfl) ?_
  refine xw_aload_n dS_read_22 rfl ?_
  refine xw_get dS_read_23 fS_10 rfl rfl ?_
  refine xw_iconst 0 dS_read_26 (by decide) ?_
  refine xg_V0 (k1 := 1) (n1 := 4) (CB_cut (a := 1001) (by decide) rfl) (vS_B (s := (s.1, s.2.1, p.1, s.2.2.2.1, p.2.1, s.2.2.2.2.2))) (vS_B (s := ((s.1.1, 0), s.2.1, p.1, s.2.2.2.1, p.2.1, s.2.2.2.2.2)) (h := xw_u h 1012 (some (.inr (4, [.ref 1001, .ref 1005, .ref 1010, .int p.2.2]))))).symm rfl dS_read_27 (kS_58 _) ⟨Nat.le_of_ble_eq_true rfl, Nat.le_of_ble_eq_true rfl⟩ rfl rfl rfl rfl (Nat.le_of_ble_eq_true rfl) (Nat.le_of_ble_eq_true rfl) (Nat.le_of_ble_eq_true rfl) (Nat.le_of_ble_eq_true rfl) (Nat.le_of_ble_eq_true rfl) ?_
  refine xw_new 1013 dS_read_30 nS_69 (hf 1013 (by decide) (by decide)) (by decide) (Nat.le_of_ble_eq_true rfl) (Nat.le_of_ble_eq_true rfl) ?_
  refine xw_dup_r dS_read_33 ?_
  refine xw_aload_n dS_read_34 rfl ?_
  refine xw_get dS_read_35 fS_22 rfl rfl ?_
  refine xg_I0 (k1 := 2) (n1 := 7) (CG_init w rfl) rfl rfl rfl dS_read_38 (kS_71 _) ⟨Nat.le_of_ble_eq_true rfl, Nat.le_of_ble_eq_true rfl⟩ rfl rfl (Nat.le_of_ble_eq_true rfl) (Nat.le_of_ble_eq_true rfl) (Nat.le_of_ble_eq_true rfl) (Nat.le_of_ble_eq_true rfl) (Nat.le_of_ble_eq_true rfl) ?_
  rw [xw_u_u, vu_S (by decide)]
  refine xw_astore_n dS_read_41 (Nat.le_of_ble_eq_true rfl) ?_
  refine xw_Ln (L' := [some (.ref 1000), some (.ref 1013)]) rfl ?_
  refine xw_aload_n dS_read_42 rfl ?_
  refine xg_V1 (k1 := 2) (n1 := 7) (CG_takesFormula er) (vS_Gr (s := ((s.1.1, 0), s.2.1, p.1, s.2.2.2.1, p.2.1, s.2.2.2.2.2))) (vS_Gr (s := ((s.1.1, 0), s.2.1, p.1, s.2.2.2.1, p.2.1, s.2.2.2.2.2)) (x := r.2.1) (y := r.2.2) (h := xw_u h 1012 (some (.inr (4, [.ref 1001, .ref 1005, .ref 1010, .int p.2.2]))))).symm rfl dS_read_43 (kS_74 _) ⟨Nat.le_of_ble_eq_true rfl, Nat.le_of_ble_eq_true rfl⟩ rfl rfl rfl rfl (Nat.le_of_ble_eq_true rfl) (Nat.le_of_ble_eq_true rfl) (Nat.le_of_ble_eq_true rfl) (Nat.le_of_ble_eq_true rfl) (Nat.le_of_ble_eq_true rfl) ?_
  refine xw_if_neB 65 dS_read_46 (by decide) (fun c => ?_) (fun c => ?_)
  · replace hF := xg_t c hF
    refine xw_aload_n dS_read_65 rfl ?_
    refine xw_iconst (-1) dS_read_66 (by decide) ?_
    refine xg_put dS_read_67 fS_40 rfl (by decide) (Nat.le_of_ble_eq_true rfl) (fun _ => rfl) (fun _ => rfl) vS_p ?_
    refine xw_aload_n dS_read_70 rfl ?_
    have hC := CS_settle (w := w) (h := xw_u (xw_u h 1012 (some (.inr (4, [.ref 1001, .ref 1005, .ref 1010, .int p.2.2])))) 1013 (some (.inr (5, [.ref 1005, .int r.2.1, .int r.2.2])))) hF
    have hj : xJ h (xw_u (xw_u h 1012 (some (.inr (4, [.ref 1001, .ref 1005, .ref 1010, .int p.2.2])))) 1013 (some (.inr (5, [.ref 1005, .int r.2.1, .int r.2.2])))) := xJ_u (xJ_u xJ_0 (by decide) (by decide)) (by decide) (by decide)
    match out, hC with
    | .inl q, hC =>
      refine xg_V1 (k1 := 3) (n1 := 13) hC rfl rfl rfl dS_read_71 (kS_83 _) ⟨Nat.le_of_ble_eq_true rfl, Nat.le_of_ble_eq_true rfl⟩ rfl rfl rfl rfl (Nat.le_of_ble_eq_true rfl) (Nat.le_of_ble_eq_true rfl) (Nat.le_of_ble_eq_true rfl) (Nat.le_of_ble_eq_true rfl) (Nat.le_of_ble_eq_true rfl) ?_
      refine xw_drop (L' := [some (.ref 1000), none]) ⟨rfl, trivial⟩ ?_
      refine xw_forgetJ xVv_S xVv_X hj hf ⟨Or.inr rfl, trivial⟩ ⟨trivial, trivial⟩ ?_
      exact xw_ireturn dS_read_74 rfl rfl (Nat.le_of_ble_eq_true rfl) (Nat.le_of_ble_eq_true rfl) ⟨rfl, rfl⟩
    | .inr q, hC => exact xw_callV hC rfl dS_read_71 (kS_83 _) ⟨Nat.le_of_ble_eq_true rfl, Nat.le_of_ble_eq_true rfl⟩ rfl rfl rfl rfl (Nat.le_of_ble_eq_true rfl) (Nat.le_of_ble_eq_true rfl) (Nat.le_of_ble_eq_true rfl) (fun _ _ z => z.elim) (fun _ _ z => ⟨z.1, z.2.elim fun h9 z9 => ⟨h9, xJ_t hj z9.1, z9.2⟩⟩)
  · replace hF := xg_f c hF
    obtain ⟨q, eq, hF⟩ := xg_b hF
    obtain rfl := Option.some.inj hF
    refine xw_aload_n dS_read_49 rfl ?_
    refine xw_aload_n dS_read_50 rfl ?_
    refine xg_V1 (k1 := 2) (n1 := 7) (CG_place eq) (vS_Gr (s := ((s.1.1, 0), s.2.1, p.1, s.2.2.2.1, p.2.1, s.2.2.2.2.2))) (vS_Gr (s := ((s.1.1, 0), s.2.1, p.1, s.2.2.2.1, p.2.1, s.2.2.2.2.2)) (x := r.2.1) (y := r.2.2) (h := xw_u h 1012 (some (.inr (4, [.ref 1001, .ref 1005, .ref 1010, .int p.2.2]))))).symm rfl dS_read_51 (kS_78 _) ⟨Nat.le_of_ble_eq_true rfl, Nat.le_of_ble_eq_true rfl⟩ rfl rfl rfl rfl (Nat.le_of_ble_eq_true rfl) (Nat.le_of_ble_eq_true rfl) (Nat.le_of_ble_eq_true rfl) (Nat.le_of_ble_eq_true rfl) (Nat.le_of_ble_eq_true rfl) ?_
    refine xg_put dS_read_54 fS_40 rfl (by decide) (Nat.le_of_ble_eq_true rfl) (fun _ => rfl) (fun _ => rfl) vS_p ?_
    exact xw_throw rfl tS_80 dS_read_57 dS_read_60 dS_read_61 dS_read_64 (Nat.le_of_ble_eq_true rfl) (Nat.le_of_ble_eq_true rfl) (Nat.le_of_ble_eq_true rfl) (Nat.le_of_ble_eq_true rfl) ⟨rfl, _, xJ_u (xJ_u xJ_0 (by decide) (by decide)) (by decide) (by decide), rfl⟩

