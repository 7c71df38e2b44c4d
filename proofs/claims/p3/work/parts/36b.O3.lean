/-- FormulaShaperModel.binary -/
def FM_binary (x0 : Int32) (x1 : Nat) (x2 : Nat) (s : xMs) : Option (Nat × xMs) := (FM_node 9 s).bind fun r54 => if r54.1 < r54.2.2.2.1.2.2.2.2.1 then ((FN_add r54.1 x1 (r54.2.1, r54.2.2.1, (r54.2.2.2.1.1, r54.2.2.2.1.2.1, r54.2.2.2.1.2.2.1, r54.2.2.2.1.2.2.2.1, r54.2.2.2.1.2.2.2.2.1, (va_up r54.2.2.2.1.2.2.2.2.2.1 r54.1 (nA (r54.2.2.2.1.2.2.2.2.2.1 r54.1) x0)), r54.2.2.2.1.2.2.2.2.2.2), r54.2.2.2.2)).bind fun r58 => if r54.1 < r58.2.2.1.2.2.2.2.1 then ((FN_add r54.1 x2 r58).bind fun r62 => some (r54.1, r62)) else none) else none
set_option maxRecDepth 20000 in
theorem CM_binary {w : xw_G} {h : xw_H} (hb : xMb h) {x0 : Int32} {x1 : Nat} {x2 : Nat} {s : xMs} {out : (Nat × xMs)} (hF : FM_binary x0 x1 x2 s = some out) : (s.2.2.1.2.2.2.2.2.2.1 ≤ out.2.2.2.1.2.2.2.2.2.2.1 ∧ s.2.2.1.2.2.2.2.2.2.2 ≤ out.2.2.2.1.2.2.2.2.2.2.2) ∧ xw_C w (mM_binary { frames := 3, cells := out.2.2.2.1.2.2.2.2.2.2.1 - s.2.2.1.2.2.2.2.2.2.1, slots := out.2.2.2.1.2.2.2.2.2.2.2 - s.2.2.1.2.2.2.2.2.2.2, locals := 83 }) (xw_R (some (.ref (xn out.1))) (mV out.2 h)) [.ref 2000, .int x0, .ref (xn x1), .ref (xn x2)] (mV s h) := by
  unfold FM_binary at hF
  refine xy_enter (L := [some (.ref 2000), some (.int x0), some (.ref (xn x1)), some (.ref (xn x2)), none]) (fun _ => rfl) (fun _ => rfl) (fun _ => (show plainName "FormulaShaperModel" = true by decide +kernel)) (fun _ => (Nat.le_of_ble_eq_true rfl)) (fun _ => rfl) ?_
  have hm : s.2.2.1.2.2.2.2.2.2.1 ≤ s.2.2.1.2.2.2.2.2.2.1 ∧ s.2.2.1.2.2.2.2.2.2.2 ≤ s.2.2.1.2.2.2.2.2.2.2 := ⟨Nat.le_refl _, Nat.le_refl _⟩
  refine xy_r (xw_aload_n dM_binary_0 rfl) ?_
  refine xy_r (xw_bipush (9) dM_binary_1 (by decide)) ?_
  obtain ⟨r54, er54, hF⟩ := xg_b hF
  have hm55 : s.2.2.1.2.2.2.2.2.2.1 ≤ r54.2.2.2.1.2.2.2.2.2.2.1 ∧ s.2.2.1.2.2.2.2.2.2.2 ≤ r54.2.2.2.1.2.2.2.2.2.2.2 := xy_le hm (show s.2.2.1.2.2.2.2.2.2.1 ≤ r54.2.2.2.1.2.2.2.2.2.2.1 ∧ s.2.2.1.2.2.2.2.2.2.2 ≤ r54.2.2.2.1.2.2.2.2.2.2.2 from (CM_node (w := w) (h := h) hb (s := s) er54).1)
  refine xy_V1 (nl := 4) (sm := s.2.2.1.2.2.2.2.2.2.1) (sn := s.2.2.1.2.2.2.2.2.2.2) (tm := r54.2.2.2.1.2.2.2.2.2.2.1) (tn := r54.2.2.2.1.2.2.2.2.2.2.2) (CM_node hb (s := s) er54) rfl rfl hm (fun _ => rfl) (fun _ => rfl) (fun _ => rfl) (fun _ => dM_binary_3) (fun _ R => kM_253 R) (fun _ => rfl) ⟨(Nat.le_of_ble_eq_true rfl), (Nat.le_of_ble_eq_true rfl)⟩ rfl rfl rfl (fun _ => rfl) (Nat.le_of_ble_eq_true rfl) ?_
  refine xy_r (xw_astore dM_binary_6 (Nat.le_of_ble_eq_true rfl)) ?_
  refine xy_r (xw_Ln (L' := [some (.ref 2000), some (.int x0), some (.ref (xn x1)), some (.ref (xn x2)), some (.ref (xn r54.1))]) rfl) ?_
  refine xy_r (xw_aload dM_binary_8 rfl) ?_
  refine xy_r (xw_iload_n dM_binary_10 rfl) ?_
  obtain ⟨g57, hF⟩ := xg_g hF
  refine xy_r (xg_put dM_binary_11 fM_195 (mV_n g57) (xn_le _) (Nat.le_of_ble_eq_true rfl) (fun _ => rfl) (fun _ => rfl) (mV_e (s' := (r54.2.1, r54.2.2.1, (r54.2.2.2.1.1, r54.2.2.2.1.2.1, r54.2.2.2.1.2.2.1, r54.2.2.2.1.2.2.2.1, r54.2.2.2.1.2.2.2.2.1, (va_up r54.2.2.2.1.2.2.2.2.2.1 r54.1 (nA (r54.2.2.2.1.2.2.2.2.2.1 r54.1) x0)), r54.2.2.2.1.2.2.2.2.2.2), r54.2.2.2.2)) (mV_pn (q := (nA (r54.2.2.2.1.2.2.2.2.2.1 r54.1) x0)) g57) rfl)) ?_
  refine xy_r (xw_aload dM_binary_14 rfl) ?_
  refine xy_r (xw_aload_n dM_binary_16 rfl) ?_
  obtain ⟨r58, er58, hF⟩ := xg_b hF
  have hm59 : s.2.2.1.2.2.2.2.2.2.1 ≤ r58.2.2.1.2.2.2.2.2.2.1 ∧ s.2.2.1.2.2.2.2.2.2.2 ≤ r58.2.2.1.2.2.2.2.2.2.2 := xy_le hm55 (show r54.2.2.2.1.2.2.2.2.2.2.1 ≤ r58.2.2.1.2.2.2.2.2.2.1 ∧ r54.2.2.2.1.2.2.2.2.2.2.2 ≤ r58.2.2.1.2.2.2.2.2.2.2 from (CN_add (w := w) (h := h) hb (s := (r54.2.1, r54.2.2.1, (r54.2.2.2.1.1, r54.2.2.2.1.2.1, r54.2.2.2.1.2.2.1, r54.2.2.2.1.2.2.2.1, r54.2.2.2.1.2.2.2.2.1, (va_up r54.2.2.2.1.2.2.2.2.2.1 r54.1 (nA (r54.2.2.2.1.2.2.2.2.2.1 r54.1) x0)), r54.2.2.2.1.2.2.2.2.2.2), r54.2.2.2.2)) er58).1)
  refine xy_V0 (nl := 2) (sm := r54.2.2.2.1.2.2.2.2.2.2.1) (sn := r54.2.2.2.1.2.2.2.2.2.2.2) (tm := r58.2.2.1.2.2.2.2.2.2.1) (tn := r58.2.2.1.2.2.2.2.2.2.2) (CN_add hb (s := (r54.2.1, r54.2.2.1, (r54.2.2.2.1.1, r54.2.2.2.1.2.1, r54.2.2.2.1.2.2.1, r54.2.2.2.1.2.2.2.1, r54.2.2.2.1.2.2.2.2.1, (va_up r54.2.2.2.1.2.2.2.2.2.1 r54.1 (nA (r54.2.2.2.1.2.2.2.2.2.1 r54.1) x0)), r54.2.2.2.1.2.2.2.2.2.2), r54.2.2.2.2)) er58) rfl rfl hm55 (fun _ => rfl) (fun _ => rfl) (fun _ => rfl) (fun _ => dM_binary_17) (fun _ R => kM_257 R) (fun _ => rfl) ⟨(Nat.le_of_ble_eq_true rfl), (Nat.le_of_ble_eq_true rfl)⟩ rfl rfl (mV_n g57) (fun _ => rfl) (Nat.le_of_ble_eq_true rfl) ?_
  refine xy_r (xw_aload dM_binary_20 rfl) ?_
  refine xy_r (xw_aload_n dM_binary_22 rfl) ?_
  obtain ⟨g61, hF⟩ := xg_g hF
  obtain ⟨r62, er62, hF⟩ := xg_b hF
  have hm63 : s.2.2.1.2.2.2.2.2.2.1 ≤ r62.2.2.1.2.2.2.2.2.2.1 ∧ s.2.2.1.2.2.2.2.2.2.2 ≤ r62.2.2.1.2.2.2.2.2.2.2 := xy_le hm59 (show r58.2.2.1.2.2.2.2.2.2.1 ≤ r62.2.2.1.2.2.2.2.2.2.1 ∧ r58.2.2.1.2.2.2.2.2.2.2 ≤ r62.2.2.1.2.2.2.2.2.2.2 from (CN_add (w := w) (h := h) hb (s := r58) er62).1)
  refine xy_V0 (nl := 2) (sm := r58.2.2.1.2.2.2.2.2.2.1) (sn := r58.2.2.1.2.2.2.2.2.2.2) (tm := r62.2.2.1.2.2.2.2.2.2.1) (tn := r62.2.2.1.2.2.2.2.2.2.2) (CN_add hb (s := r58) er62) rfl rfl hm59 (fun _ => rfl) (fun _ => rfl) (fun _ => rfl) (fun _ => dM_binary_23) (fun _ R => kM_257 R) (fun _ => rfl) ⟨(Nat.le_of_ble_eq_true rfl), (Nat.le_of_ble_eq_true rfl)⟩ rfl rfl (mV_n g61) (fun _ => rfl) (Nat.le_of_ble_eq_true rfl) ?_
  refine xy_r (xw_aload dM_binary_26 rfl) ?_
  obtain rfl := Option.some.inj hF
  exact xy_end (xw_areturn dM_binary_28 rfl (Or.inl ⟨_, rfl⟩) (Nat.le_refl _) (Nat.le_refl _) ⟨rfl, rfl⟩)
