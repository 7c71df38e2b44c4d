/-- what the methods comparison, joined, sum, product, factor, applied, atom, function, bound mean, to a depth -/
abbrev xTP : Type := (xMs → Option (xo Nat xMs)) × (xMs → Option (xo Nat xMs)) × (xMs → Option (xo Nat xMs)) × (xMs → Option (xo Nat xMs)) × (xMs → Option (xo Nat xMs)) × (xMs → Option (xo Nat xMs)) × (xMs → Option (xo Nat xMs)) × (Int32 → xMs → Option (xo Nat xMs)) × (Nat → Int32 → xMs → Option (xo Unit xMs))
def xKP (w : xw_G) (p : xTP) (d : Nat) : Prop := (∀ {h : xw_H}, xMb h → ∀ {s : xMs} {out : (xo Nat xMs)}, p.1  s = some out → (s.2.2.1.2.2.2.2.2.2.1 ≤ (xo_s out).2.2.1.2.2.2.2.2.2.1 ∧ s.2.2.1.2.2.2.2.2.2.2 ≤ (xo_s out).2.2.1.2.2.2.2.2.2.2) ∧ xw_C w (mM_comparison { frames := d + 20, cells := (xo_s out).2.2.1.2.2.2.2.2.2.1 - s.2.2.1.2.2.2.2.2.2.1, slots := (xo_s out).2.2.1.2.2.2.2.2.2.2 - s.2.2.1.2.2.2.2.2.2.2, locals := 60 * d + 600 }) (xo_P (fun x => some (.ref (xn x))) (fun s => mV s h) out) [.ref 2000] (mV s h)) ∧ (∀ {h : xw_H}, xMb h → ∀ {s : xMs} {out : (xo Nat xMs)}, p.2.1  s = some out → (s.2.2.1.2.2.2.2.2.2.1 ≤ (xo_s out).2.2.1.2.2.2.2.2.2.1 ∧ s.2.2.1.2.2.2.2.2.2.2 ≤ (xo_s out).2.2.1.2.2.2.2.2.2.2) ∧ xw_C w (mM_joined { frames := d + 20, cells := (xo_s out).2.2.1.2.2.2.2.2.2.1 - s.2.2.1.2.2.2.2.2.2.1, slots := (xo_s out).2.2.1.2.2.2.2.2.2.2 - s.2.2.1.2.2.2.2.2.2.2, locals := 60 * d + 600 }) (xo_P (fun x => some (.ref (xn x))) (fun s => mV s h) out) [.ref 2000] (mV s h)) ∧ (∀ {h : xw_H}, xMb h → ∀ {s : xMs} {out : (xo Nat xMs)}, p.2.2.1  s = some out → (s.2.2.1.2.2.2.2.2.2.1 ≤ (xo_s out).2.2.1.2.2.2.2.2.2.1 ∧ s.2.2.1.2.2.2.2.2.2.2 ≤ (xo_s out).2.2.1.2.2.2.2.2.2.2) ∧ xw_C w (mM_sum { frames := d + 20, cells := (xo_s out).2.2.1.2.2.2.2.2.2.1 - s.2.2.1.2.2.2.2.2.2.1, slots := (xo_s out).2.2.1.2.2.2.2.2.2.2 - s.2.2.1.2.2.2.2.2.2.2, locals := 60 * d + 600 }) (xo_P (fun x => some (.ref (xn x))) (fun s => mV s h) out) [.ref 2000] (mV s h)) ∧ (∀ {h : xw_H}, xMb h → ∀ {s : xMs} {out : (xo Nat xMs)}, p.2.2.2.1  s = some out → (s.2.2.1.2.2.2.2.2.2.1 ≤ (xo_s out).2.2.1.2.2.2.2.2.2.1 ∧ s.2.2.1.2.2.2.2.2.2.2 ≤ (xo_s out).2.2.1.2.2.2.2.2.2.2) ∧ xw_C w (mM_product { frames := d + 20, cells := (xo_s out).2.2.1.2.2.2.2.2.2.1 - s.2.2.1.2.2.2.2.2.2.1, slots := (xo_s out).2.2.1.2.2.2.2.2.2.2 - s.2.2.1.2.2.2.2.2.2.2, locals := 60 * d + 600 }) (xo_P (fun x => some (.ref (xn x))) (fun s => mV s h) out) [.ref 2000] (mV s h)) ∧ (∀ {h : xw_H}, xMb h → ∀ {s : xMs} {out : (xo Nat xMs)}, p.2.2.2.2.1  s = some out → (s.2.2.1.2.2.2.2.2.2.1 ≤ (xo_s out).2.2.1.2.2.2.2.2.2.1 ∧ s.2.2.1.2.2.2.2.2.2.2 ≤ (xo_s out).2.2.1.2.2.2.2.2.2.2) ∧ xw_C w (mM_factor { frames := d + 20, cells := (xo_s out).2.2.1.2.2.2.2.2.2.1 - s.2.2.1.2.2.2.2.2.2.1, slots := (xo_s out).2.2.1.2.2.2.2.2.2.2 - s.2.2.1.2.2.2.2.2.2.2, locals := 60 * d + 600 }) (xo_P (fun x => some (.ref (xn x))) (fun s => mV s h) out) [.ref 2000] (mV s h)) ∧ (∀ {h : xw_H}, xMb h → ∀ {s : xMs} {out : (xo Nat xMs)}, p.2.2.2.2.2.1  s = some out → (s.2.2.1.2.2.2.2.2.2.1 ≤ (xo_s out).2.2.1.2.2.2.2.2.2.1 ∧ s.2.2.1.2.2.2.2.2.2.2 ≤ (xo_s out).2.2.1.2.2.2.2.2.2.2) ∧ xw_C w (mM_applied { frames := d + 20, cells := (xo_s out).2.2.1.2.2.2.2.2.2.1 - s.2.2.1.2.2.2.2.2.2.1, slots := (xo_s out).2.2.1.2.2.2.2.2.2.2 - s.2.2.1.2.2.2.2.2.2.2, locals := 60 * d + 600 }) (xo_P (fun x => some (.ref (xn x))) (fun s => mV s h) out) [.ref 2000] (mV s h)) ∧ (∀ {h : xw_H}, xMb h → ∀ {s : xMs} {out : (xo Nat xMs)}, p.2.2.2.2.2.2.1  s = some out → (s.2.2.1.2.2.2.2.2.2.1 ≤ (xo_s out).2.2.1.2.2.2.2.2.2.1 ∧ s.2.2.1.2.2.2.2.2.2.2 ≤ (xo_s out).2.2.1.2.2.2.2.2.2.2) ∧ xw_C w (mM_atom { frames := d + 20, cells := (xo_s out).2.2.1.2.2.2.2.2.2.1 - s.2.2.1.2.2.2.2.2.2.1, slots := (xo_s out).2.2.1.2.2.2.2.2.2.2 - s.2.2.1.2.2.2.2.2.2.2, locals := 60 * d + 600 }) (xo_P (fun x => some (.ref (xn x))) (fun s => mV s h) out) [.ref 2000] (mV s h)) ∧ (∀ {h : xw_H}, xMb h → ∀ {x0 : Int32} {s : xMs} {out : (xo Nat xMs)}, p.2.2.2.2.2.2.2.1 x0 s = some out → (s.2.2.1.2.2.2.2.2.2.1 ≤ (xo_s out).2.2.1.2.2.2.2.2.2.1 ∧ s.2.2.1.2.2.2.2.2.2.2 ≤ (xo_s out).2.2.1.2.2.2.2.2.2.2) ∧ xw_C w (mM_function { frames := d + 20, cells := (xo_s out).2.2.1.2.2.2.2.2.2.1 - s.2.2.1.2.2.2.2.2.2.1, slots := (xo_s out).2.2.1.2.2.2.2.2.2.2 - s.2.2.1.2.2.2.2.2.2.2, locals := 60 * d + 600 }) (xo_P (fun x => some (.ref (xn x))) (fun s => mV s h) out) [.ref 2000, .int x0] (mV s h)) ∧ (∀ {h : xw_H}, xMb h → ∀ {x0 : Nat} {x1 : Int32} {s : xMs} {out : (xo Unit xMs)}, p.2.2.2.2.2.2.2.2 x0 x1 s = some out → (s.2.2.1.2.2.2.2.2.2.1 ≤ (xo_s out).2.2.1.2.2.2.2.2.2.1 ∧ s.2.2.1.2.2.2.2.2.2.2 ≤ (xo_s out).2.2.1.2.2.2.2.2.2.2) ∧ xw_C w (mM_bound { frames := d + 20, cells := (xo_s out).2.2.1.2.2.2.2.2.2.1 - s.2.2.1.2.2.2.2.2.2.1, slots := (xo_s out).2.2.1.2.2.2.2.2.2.2 - s.2.2.1.2.2.2.2.2.2.2, locals := 60 * d + 600 }) (xo_P (fun x => none) (fun s => mV s h) out) [.ref 2000, .ref (xn x0), .int x1] (mV s h))
theorem xZP {μ : xw_M} {d c n : Nat} (h : μ.2.2.2.2.1.frames + 1 ≤ 21) (h2 : 8 + (μ.2.2.1 + 11) + μ.2.2.2.2.1.locals ≤ 660) : xw_fit { frames := d + 1 + 20, cells := c, slots := n, locals := 60 * (d + 1) + 600 } μ := ⟨by show _ ≤ d + 1 + 20; omega, by show _ ≤ 60 * (d + 1) + 600; omega⟩
def FM_comparison_5 (p : xTP) : Nat → Nat → xMs → Option (xo Nat xMs)
  | 0, _, _ => none
  | fu + 1, l1, s => (FM_blanks s).bind fun r454 => (FM_peek r454).bind fun r457 => if r457 = 61 then (if r457 = 61 then (xo_b (p.2.1 (r454.1, (r454.2.1.1, (r454.2.1.2.1 + 1), r454.2.1.2.2), r454.2.2)) fun r508 => (FM_binary 0 l1 r508.1 r508.2).bind fun r511 => FM_comparison_5 p fu r511.1 r511.2) else (if r457 = 62 then ((FM_look 1 r454).bind fun r489 => if r489 = 61 then (xo_b (p.2.1 (r454.1, (r454.2.1.1, (r454.2.1.2.1 + 2), r454.2.1.2.2), r454.2.2)) fun r501 => (FM_binary 3 l1 r501.1 r501.2).bind fun r504 => FM_comparison_5 p fu r504.1 r504.2) else (xo_b (p.2.1 (r454.1, (r454.2.1.1, (r454.2.1.2.1 + 1), r454.2.1.2.2), r454.2.2)) fun r493 => (FM_binary 5 l1 r493.1 r493.2).bind fun r496 => FM_comparison_5 p fu r496.1 r496.2)) else ((FM_look 1 r454).bind fun r461 => if r461 = 62 then (xo_b (p.2.1 (r454.1, (r454.2.1.1, (r454.2.1.2.1 + 2), r454.2.1.2.2), r454.2.2)) fun r483 => (FM_binary 1 l1 r483.1 r483.2).bind fun r486 => FM_comparison_5 p fu r486.1 r486.2) else ((FM_look 1 r454).bind fun r463 => if r463 = 61 then (xo_b (p.2.1 (r454.1, (r454.2.1.1, (r454.2.1.2.1 + 2), r454.2.1.2.2), r454.2.2)) fun r475 => (FM_binary 2 l1 r475.1 r475.2).bind fun r478 => FM_comparison_5 p fu r478.1 r478.2) else (xo_b (p.2.1 (r454.1, (r454.2.1.1, (r454.2.1.2.1 + 1), r454.2.1.2.2), r454.2.2)) fun r467 => (FM_binary 4 l1 r467.1 r467.2).bind fun r470 => FM_comparison_5 p fu r470.1 r470.2))))) else (if r457 = 60 then (if r457 = 61 then (xo_b (p.2.1 (r454.1, (r454.2.1.1, (r454.2.1.2.1 + 1), r454.2.1.2.2), r454.2.2)) fun r564 => (FM_binary 0 l1 r564.1 r564.2).bind fun r567 => FM_comparison_5 p fu r567.1 r567.2) else (if r457 = 62 then ((FM_look 1 r454).bind fun r545 => if r545 = 61 then (xo_b (p.2.1 (r454.1, (r454.2.1.1, (r454.2.1.2.1 + 2), r454.2.1.2.2), r454.2.2)) fun r557 => (FM_binary 3 l1 r557.1 r557.2).bind fun r560 => FM_comparison_5 p fu r560.1 r560.2) else (xo_b (p.2.1 (r454.1, (r454.2.1.1, (r454.2.1.2.1 + 1), r454.2.1.2.2), r454.2.2)) fun r549 => (FM_binary 5 l1 r549.1 r549.2).bind fun r552 => FM_comparison_5 p fu r552.1 r552.2)) else ((FM_look 1 r454).bind fun r517 => if r517 = 62 then (xo_b (p.2.1 (r454.1, (r454.2.1.1, (r454.2.1.2.1 + 2), r454.2.1.2.2), r454.2.2)) fun r539 => (FM_binary 1 l1 r539.1 r539.2).bind fun r542 => FM_comparison_5 p fu r542.1 r542.2) else ((FM_look 1 r454).bind fun r519 => if r519 = 61 then (xo_b (p.2.1 (r454.1, (r454.2.1.1, (r454.2.1.2.1 + 2), r454.2.1.2.2), r454.2.2)) fun r531 => (FM_binary 2 l1 r531.1 r531.2).bind fun r534 => FM_comparison_5 p fu r534.1 r534.2) else (xo_b (p.2.1 (r454.1, (r454.2.1.1, (r454.2.1.2.1 + 1), r454.2.1.2.2), r454.2.2)) fun r523 => (FM_binary 4 l1 r523.1 r523.2).bind fun r526 => FM_comparison_5 p fu r526.1 r526.2))))) else (if r457 = 62 then (if r457 = 61 then (xo_b (p.2.1 (r454.1, (r454.2.1.1, (r454.2.1.2.1 + 1), r454.2.1.2.2), r454.2.2)) fun r620 => (FM_binary 0 l1 r620.1 r620.2).bind fun r623 => FM_comparison_5 p fu r623.1 r623.2) else (if r457 = 62 then ((FM_look 1 r454).bind fun r601 => if r601 = 61 then (xo_b (p.2.1 (r454.1, (r454.2.1.1, (r454.2.1.2.1 + 2), r454.2.1.2.2), r454.2.2)) fun r613 => (FM_binary 3 l1 r613.1 r613.2).bind fun r616 => FM_comparison_5 p fu r616.1 r616.2) else (xo_b (p.2.1 (r454.1, (r454.2.1.1, (r454.2.1.2.1 + 1), r454.2.1.2.2), r454.2.2)) fun r605 => (FM_binary 5 l1 r605.1 r605.2).bind fun r608 => FM_comparison_5 p fu r608.1 r608.2)) else ((FM_look 1 r454).bind fun r573 => if r573 = 62 then (xo_b (p.2.1 (r454.1, (r454.2.1.1, (r454.2.1.2.1 + 2), r454.2.1.2.2), r454.2.2)) fun r595 => (FM_binary 1 l1 r595.1 r595.2).bind fun r598 => FM_comparison_5 p fu r598.1 r598.2) else ((FM_look 1 r454).bind fun r575 => if r575 = 61 then (xo_b (p.2.1 (r454.1, (r454.2.1.1, (r454.2.1.2.1 + 2), r454.2.1.2.2), r454.2.2)) fun r587 => (FM_binary 2 l1 r587.1 r587.2).bind fun r590 => FM_comparison_5 p fu r590.1 r590.2) else (xo_b (p.2.1 (r454.1, (r454.2.1.1, (r454.2.1.2.1 + 1), r454.2.1.2.2), r454.2.2)) fun r579 => (FM_binary 4 l1 r579.1 r579.2).bind fun r582 => FM_comparison_5 p fu r582.1 r582.2))))) else (some (.inl (l1, r454)))))
/-- FormulaShaperModel.comparison -/
def FM_comparison (p : xTP)  (s : xMs) : Option (xo Nat xMs) := xo_b (p.2.1 s) fun r451 => FM_comparison_5 p xFuel r451.1 r451.2
set_option maxRecDepth 20000 in
theorem CM_comparison_5 {w : xw_G} {p : xTP} {d : Nat} (hp : xKP w p d) {h : xw_H} (hb : xMb h)  : ∀ (fu : Nat) {l1 : Nat} {s : xMs} {out : (xo Nat xMs)} {h0 : xw_H} {m0 n0 : Nat} (hm : m0 ≤ s.2.2.1.2.2.2.2.2.2.1 ∧ n0 ≤ s.2.2.1.2.2.2.2.2.2.2), FM_comparison_5 p fu l1 s = some out → xw_Y w mM_comparison (d + 1 + 20) (60 * (d + 1) + 600) (xo_P (fun x => some (.ref (xn x))) (fun s => mV s h) out) h0 m0 n0 s.2.2.1.2.2.2.2.2.2.1 s.2.2.1.2.2.2.2.2.2.2 (xo_s out).2.2.1.2.2.2.2.2.2.1 (xo_s out).2.2.1.2.2.2.2.2.2.2 5 [some (.ref 2000), some (.ref (xn l1)), none, none] [] (mV s h) := by
  intro fu
  induction fu with
  | zero =>
    intro l1 s out h0 m0 n0 hm hF
    rw [FM_comparison_5] at hF
    cases hF
  | succ fu ih =>
    intro l1 s out h0 m0 n0 hm hF
    rw [FM_comparison_5] at hF
    refine xy_r (xw_aload_n dM_comparison_5 rfl) ?_
    obtain ⟨r454, er454, hF⟩ := xg_b hF
    have hm455 : m0 ≤ r454.2.2.1.2.2.2.2.2.2.1 ∧ n0 ≤ r454.2.2.1.2.2.2.2.2.2.2 := xy_le hm (show s.2.2.1.2.2.2.2.2.2.1 ≤ r454.2.2.1.2.2.2.2.2.2.1 ∧ s.2.2.1.2.2.2.2.2.2.2 ≤ r454.2.2.1.2.2.2.2.2.2.2 from (CM_blanks (w := w) (h := h) hb (s := s) er454).1)
    refine xy_V0 (nl := 1) (sm := s.2.2.1.2.2.2.2.2.2.1) (sn := s.2.2.1.2.2.2.2.2.2.2) (tm := r454.2.2.1.2.2.2.2.2.2.1) (tn := r454.2.2.1.2.2.2.2.2.2.2) (CM_blanks hb (s := s) er454) rfl rfl hm (fun _ => rfl) (fun _ => rfl) (fun _ => rfl) (fun _ => dM_comparison_6) (fun _ R => kM_233 R) (fun _ => rfl) ⟨by omega, by omega⟩ rfl rfl rfl (fun _ => rfl) (Nat.le_of_ble_eq_true rfl) ?_
    refine xy_r (xw_aload_n dM_comparison_9 rfl) ?_
    obtain ⟨r457, er457, hF⟩ := xg_b hF
    refine xy_q (fun hq => xg_V1 (k1 := _) (n1 := _) (CM_peek er457) rfl rfl rfl dM_comparison_10 (kM_230 _) (xZP (Nat.le_of_ble_eq_true rfl) (Nat.le_of_ble_eq_true rfl)) rfl rfl rfl rfl (Nat.le_of_ble_eq_true rfl) (Nat.le_refl _) (Nat.le_refl _) (Nat.sub_le_sub_right hq.1 _) (Nat.sub_le_sub_right hq.2 _)) ?_
    refine xy_r (xw_istore_n dM_comparison_13 (Nat.le_of_ble_eq_true rfl)) ?_
    refine xy_r (xw_Ln (L' := [some (.ref 2000), some (.ref (xn l1)), some (.int r457), none]) rfl) ?_
    refine xy_r (xw_iload_n dM_comparison_14 rfl) ?_
    refine xy_r (xw_bipush (61) dM_comparison_15 (by decide)) ?_
    refine xy_br (xw_icmp_eq 34 dM_comparison_17 (by decide)) (fun c458 => ?_) (fun c458 => ?_)
    · replace hF := xg_t c458 hF
      refine xy_r (xw_iload_n dM_comparison_34 rfl) ?_
      refine xy_r (xw_bipush (61) dM_comparison_35 (by decide)) ?_
      refine xy_brn (xw_icmp_ne 44 dM_comparison_37 (by decide)) (fun c459 => ?_) (fun c459 => ?_)
      · replace hF := xg_f c459 hF
        refine xy_r (xw_iload_n dM_comparison_44 rfl) ?_
        refine xy_r (xw_bipush (62) dM_comparison_45 (by decide)) ?_
        refine xy_brn (xw_icmp_ne 68 dM_comparison_47 (by decide)) (fun c460 => ?_) (fun c460 => ?_)
        · replace hF := xg_f c460 hF
          refine xy_r (xw_aload_n dM_comparison_68 rfl) ?_
          refine xy_r (xw_iconst (1) dM_comparison_69 (by decide)) ?_
          obtain ⟨r461, er461, hF⟩ := xg_b hF
          refine xy_q (fun hq => xg_V1 (k1 := _) (n1 := _) (CM_look er461) rfl rfl rfl dM_comparison_70 (kM_264 _) (xZP (Nat.le_of_ble_eq_true rfl) (Nat.le_of_ble_eq_true rfl)) rfl rfl rfl rfl (Nat.le_of_ble_eq_true rfl) (Nat.le_refl _) (Nat.le_refl _) (Nat.sub_le_sub_right hq.1 _) (Nat.sub_le_sub_right hq.2 _)) ?_
          refine xy_r (xw_bipush (62) dM_comparison_73 (by decide)) ?_
          refine xy_brn (xw_icmp_ne 82 dM_comparison_75 (by decide)) (fun c462 => ?_) (fun c462 => ?_)
          · replace hF := xg_f c462 hF
            refine xy_r (xw_aload_n dM_comparison_82 rfl) ?_
            refine xy_r (xw_iconst (1) dM_comparison_83 (by decide)) ?_
            obtain ⟨r463, er463, hF⟩ := xg_b hF
            refine xy_q (fun hq => xg_V1 (k1 := _) (n1 := _) (CM_look er463) rfl rfl rfl dM_comparison_84 (kM_264 _) (xZP (Nat.le_of_ble_eq_true rfl) (Nat.le_of_ble_eq_true rfl)) rfl rfl rfl rfl (Nat.le_of_ble_eq_true rfl) (Nat.le_refl _) (Nat.le_refl _) (Nat.sub_le_sub_right hq.1 _) (Nat.sub_le_sub_right hq.2 _)) ?_
            refine xy_r (xw_bipush (61) dM_comparison_87 (by decide)) ?_
            refine xy_brn (xw_icmp_ne 96 dM_comparison_89 (by decide)) (fun c464 => ?_) (fun c464 => ?_)
            · replace hF := xg_f c464 hF
              refine xy_r (xw_iconst (4) dM_comparison_96 (by decide)) ?_
              refine xy_r (xw_istore_n dM_comparison_97 (Nat.le_of_ble_eq_true rfl)) ?_
              refine xy_r (xw_Ln (L' := [some (.ref 2000), some (.ref (xn l1)), some (.int r457), some (.int 4)]) rfl) ?_
              refine xy_r (xw_aload_n dM_comparison_98 rfl) ?_
              refine xy_r (xw_dup_r dM_comparison_99) ?_
              refine xy_r (xw_get dM_comparison_100 fM_221 rfl rfl) ?_
              refine xy_r (xw_iload_n dM_comparison_103 rfl) ?_
              refine xy_r (xw_iconst (1) dM_comparison_104 (by decide)) ?_
              refine xy_r (fun k9 => xw_icmp_lt 117 dM_comparison_105 (by decide) (fun q => absurd q (show ¬ ((4 : Int32) < (1 : Int32)) by decide)) (fun _ => k9)) ?_
              refine xy_r (xw_iload_n dM_comparison_108 rfl) ?_
              refine xy_r (xw_iconst (3) dM_comparison_109 (by decide)) ?_
              refine xy_r (fun k9 => xw_icmp_gt 117 dM_comparison_110 (by decide) (fun _ => k9) (fun q => absurd (show (3 : Int32) < (4 : Int32) by decide) q)) ?_
              refine xy_r (xw_iconst (1) dM_comparison_117 (by decide)) ?_
              refine xy_r (xw_iadd dM_comparison_118) ?_
              refine xy_r (xg_put dM_comparison_119 fM_221 rfl (by decide) (Nat.le_of_ble_eq_true rfl) (fun _ => rfl) (fun _ => rfl) (mV_o (s' := (r454.1, (r454.2.1.1, (r454.2.1.2.1 + 1), r454.2.1.2.2), r454.2.2)) rfl)) ?_
              refine xy_r (xw_aload_n dM_comparison_122 rfl) ?_
              refine xy_r (xw_iload_n dM_comparison_123 rfl) ?_
              refine xy_r (xw_aload_n dM_comparison_124 rfl) ?_
              refine xy_r (xw_aload_n dM_comparison_125 rfl) ?_
              rcases xg_o hF with ⟨r467, er467, hF⟩ | ⟨r467, er467, hF⟩
              · have hm468 : m0 ≤ r467.2.2.2.1.2.2.2.2.2.2.1 ∧ n0 ≤ r467.2.2.2.1.2.2.2.2.2.2.2 := xy_le hm455 (show r454.2.2.1.2.2.2.2.2.2.1 ≤ r467.2.2.2.1.2.2.2.2.2.2.1 ∧ r454.2.2.1.2.2.2.2.2.2.2 ≤ r467.2.2.2.1.2.2.2.2.2.2.2 from ((hp.2.1 (h := h) hb (s := (r454.1, (r454.2.1.1, (r454.2.1.2.1 + 1), r454.2.1.2.2), r454.2.2)) er467)).1)
                refine xy_V1 (nl := 2) (sm := r454.2.2.1.2.2.2.2.2.2.1) (sn := r454.2.2.1.2.2.2.2.2.2.2) (tm := r467.2.2.2.1.2.2.2.2.2.2.1) (tn := r467.2.2.2.1.2.2.2.2.2.2.2) (hp.2.1 hb (s := (r454.1, (r454.2.1.1, (r454.2.1.2.1 + 1), r454.2.1.2.2), r454.2.2)) er467) rfl rfl hm455 (fun _ => rfl) (fun _ => rfl) (fun _ => rfl) (fun _ => dM_comparison_126) (fun _ R => kM_261 R) (fun _ => rfl) ⟨by omega, by omega⟩ rfl rfl rfl (fun _ => rfl) (Nat.le_of_ble_eq_true rfl) ?_
                obtain ⟨r470, er470, hF⟩ := xg_b hF
                have hm471 : m0 ≤ r470.2.2.2.1.2.2.2.2.2.2.1 ∧ n0 ≤ r470.2.2.2.1.2.2.2.2.2.2.2 := xy_le hm468 (show r467.2.2.2.1.2.2.2.2.2.2.1 ≤ r470.2.2.2.1.2.2.2.2.2.2.1 ∧ r467.2.2.2.1.2.2.2.2.2.2.2 ≤ r470.2.2.2.1.2.2.2.2.2.2.2 from (CM_binary (w := w) (h := h) hb (s := r467.2) er470).1)
                refine xy_V1 (nl := 5) (sm := r467.2.2.2.1.2.2.2.2.2.2.1) (sn := r467.2.2.2.1.2.2.2.2.2.2.2) (tm := r470.2.2.2.1.2.2.2.2.2.2.1) (tn := r470.2.2.2.1.2.2.2.2.2.2.2) (CM_binary hb (s := r467.2) er470) rfl rfl hm468 (fun _ => rfl) (fun _ => rfl) (fun _ => rfl) (fun _ => dM_comparison_129) (fun _ R => kM_267 R) (fun _ => rfl) ⟨by omega, by omega⟩ rfl rfl rfl (fun _ => rfl) (Nat.le_of_ble_eq_true rfl) ?_
                refine xy_r (xw_astore_n dM_comparison_132 (Nat.le_of_ble_eq_true rfl)) ?_
                refine xy_r (xw_Ln (L' := [some (.ref 2000), some (.ref (xn r470.1)), some (.int r457), some (.int 4)]) rfl) ?_
                refine xy_r (xw_goto 5 dM_comparison_133 (by decide)) ?_
                refine xy_r (xw_drop (L' := [some (.ref 2000), some (.ref (xn r470.1)), none, none]) ⟨rfl, ⟨rfl, trivial⟩⟩) ?_
                exact ih (s := r470.2) hm471 hF
              · subst hF
                exact xy_Vt (nl := 2) (sm := r454.2.2.1.2.2.2.2.2.2.1) (sn := r454.2.2.1.2.2.2.2.2.2.2) (tm := r467.2.2.2.1.2.2.2.2.2.2.1) (tn := r467.2.2.2.1.2.2.2.2.2.2.2) (hp.2.1 hb (s := (r454.1, (r454.2.1.1, (r454.2.1.2.1 + 1), r454.2.1.2.2), r454.2.2)) er467) rfl rfl hm455 (fun _ => rfl) (fun _ => rfl) (fun _ => rfl) (fun _ => dM_comparison_126) (fun _ R => kM_261 R) (fun _ => rfl) ⟨by omega, by omega⟩ rfl rfl rfl (fun _ => rfl) (Nat.le_of_ble_eq_true rfl) ⟨rfl, rfl⟩
            · replace hF := xg_t c464 hF
              refine xy_r (xw_iconst (2) dM_comparison_92 (by decide)) ?_
              refine xy_r (xw_goto 97 dM_comparison_93 (by decide)) ?_
              refine xy_r (xw_istore_n dM_comparison_97 (Nat.le_of_ble_eq_true rfl)) ?_
              refine xy_r (xw_Ln (L' := [some (.ref 2000), some (.ref (xn l1)), some (.int r457), some (.int 2)]) rfl) ?_
              refine xy_r (xw_aload_n dM_comparison_98 rfl) ?_
              refine xy_r (xw_dup_r dM_comparison_99) ?_
              refine xy_r (xw_get dM_comparison_100 fM_221 rfl rfl) ?_
              refine xy_r (xw_iload_n dM_comparison_103 rfl) ?_
              refine xy_r (xw_iconst (1) dM_comparison_104 (by decide)) ?_
              refine xy_r (fun k9 => xw_icmp_lt 117 dM_comparison_105 (by decide) (fun q => absurd q (show ¬ ((2 : Int32) < (1 : Int32)) by decide)) (fun _ => k9)) ?_
              refine xy_r (xw_iload_n dM_comparison_108 rfl) ?_
              refine xy_r (xw_iconst (3) dM_comparison_109 (by decide)) ?_
              refine xy_r (fun k9 => xw_icmp_gt 117 dM_comparison_110 (by decide) (fun q => absurd q (show ¬ ((3 : Int32) < (2 : Int32)) by decide)) (fun _ => k9)) ?_
              refine xy_r (xw_iconst (2) dM_comparison_113 (by decide)) ?_
              refine xy_r (xw_goto 118 dM_comparison_114 (by decide)) ?_
              refine xy_r (xw_iadd dM_comparison_118) ?_
              refine xy_r (xg_put dM_comparison_119 fM_221 rfl (by decide) (Nat.le_of_ble_eq_true rfl) (fun _ => rfl) (fun _ => rfl) (mV_o (s' := (r454.1, (r454.2.1.1, (r454.2.1.2.1 + 2), r454.2.1.2.2), r454.2.2)) rfl)) ?_
              refine xy_r (xw_aload_n dM_comparison_122 rfl) ?_
              refine xy_r (xw_iload_n dM_comparison_123 rfl) ?_
              refine xy_r (xw_aload_n dM_comparison_124 rfl) ?_
              refine xy_r (xw_aload_n dM_comparison_125 rfl) ?_
              rcases xg_o hF with ⟨r475, er475, hF⟩ | ⟨r475, er475, hF⟩
              · have hm476 : m0 ≤ r475.2.2.2.1.2.2.2.2.2.2.1 ∧ n0 ≤ r475.2.2.2.1.2.2.2.2.2.2.2 := xy_le hm455 (show r454.2.2.1.2.2.2.2.2.2.1 ≤ r475.2.2.2.1.2.2.2.2.2.2.1 ∧ r454.2.2.1.2.2.2.2.2.2.2 ≤ r475.2.2.2.1.2.2.2.2.2.2.2 from ((hp.2.1 (h := h) hb (s := (r454.1, (r454.2.1.1, (r454.2.1.2.1 + 2), r454.2.1.2.2), r454.2.2)) er475)).1)
                refine xy_V1 (nl := 2) (sm := r454.2.2.1.2.2.2.2.2.2.1) (sn := r454.2.2.1.2.2.2.2.2.2.2) (tm := r475.2.2.2.1.2.2.2.2.2.2.1) (tn := r475.2.2.2.1.2.2.2.2.2.2.2) (hp.2.1 hb (s := (r454.1, (r454.2.1.1, (r454.2.1.2.1 + 2), r454.2.1.2.2), r454.2.2)) er475) rfl rfl hm455 (fun _ => rfl) (fun _ => rfl) (fun _ => rfl) (fun _ => dM_comparison_126) (fun _ R => kM_261 R) (fun _ => rfl) ⟨by omega, by omega⟩ rfl rfl rfl (fun _ => rfl) (Nat.le_of_ble_eq_true rfl) ?_
                obtain ⟨r478, er478, hF⟩ := xg_b hF
                have hm479 : m0 ≤ r478.2.2.2.1.2.2.2.2.2.2.1 ∧ n0 ≤ r478.2.2.2.1.2.2.2.2.2.2.2 := xy_le hm476 (show r475.2.2.2.1.2.2.2.2.2.2.1 ≤ r478.2.2.2.1.2.2.2.2.2.2.1 ∧ r475.2.2.2.1.2.2.2.2.2.2.2 ≤ r478.2.2.2.1.2.2.2.2.2.2.2 from (CM_binary (w := w) (h := h) hb (s := r475.2) er478).1)
                refine xy_V1 (nl := 5) (sm := r475.2.2.2.1.2.2.2.2.2.2.1) (sn := r475.2.2.2.1.2.2.2.2.2.2.2) (tm := r478.2.2.2.1.2.2.2.2.2.2.1) (tn := r478.2.2.2.1.2.2.2.2.2.2.2) (CM_binary hb (s := r475.2) er478) rfl rfl hm476 (fun _ => rfl) (fun _ => rfl) (fun _ => rfl) (fun _ => dM_comparison_129) (fun _ R => kM_267 R) (fun _ => rfl) ⟨by omega, by omega⟩ rfl rfl rfl (fun _ => rfl) (Nat.le_of_ble_eq_true rfl) ?_
                refine xy_r (xw_astore_n dM_comparison_132 (Nat.le_of_ble_eq_true rfl)) ?_
                refine xy_r (xw_Ln (L' := [some (.ref 2000), some (.ref (xn r478.1)), some (.int r457), some (.int 2)]) rfl) ?_
                refine xy_r (xw_goto 5 dM_comparison_133 (by decide)) ?_
                refine xy_r (xw_drop (L' := [some (.ref 2000), some (.ref (xn r478.1)), none, none]) ⟨rfl, ⟨rfl, trivial⟩⟩) ?_
                exact ih (s := r478.2) hm479 hF
              · subst hF
                exact xy_Vt (nl := 2) (sm := r454.2.2.1.2.2.2.2.2.2.1) (sn := r454.2.2.1.2.2.2.2.2.2.2) (tm := r475.2.2.2.1.2.2.2.2.2.2.1) (tn := r475.2.2.2.1.2.2.2.2.2.2.2) (hp.2.1 hb (s := (r454.1, (r454.2.1.1, (r454.2.1.2.1 + 2), r454.2.1.2.2), r454.2.2)) er475) rfl rfl hm455 (fun _ => rfl) (fun _ => rfl) (fun _ => rfl) (fun _ => dM_comparison_126) (fun _ R => kM_261 R) (fun _ => rfl) ⟨by omega, by omega⟩ rfl rfl rfl (fun _ => rfl) (Nat.le_of_ble_eq_true rfl) ⟨rfl, rfl⟩
          · replace hF := xg_t c462 hF
            refine xy_r (xw_iconst (1) dM_comparison_78 (by decide)) ?_
            refine xy_r (xw_goto 97 dM_comparison_79 (by decide)) ?_
            refine xy_r (xw_istore_n dM_comparison_97 (Nat.le_of_ble_eq_true rfl)) ?_
            refine xy_r (xw_Ln (L' := [some (.ref 2000), some (.ref (xn l1)), some (.int r457), some (.int 1)]) rfl) ?_
            refine xy_r (xw_aload_n dM_comparison_98 rfl) ?_
            refine xy_r (xw_dup_r dM_comparison_99) ?_
            refine xy_r (xw_get dM_comparison_100 fM_221 rfl rfl) ?_
            refine xy_r (xw_iload_n dM_comparison_103 rfl) ?_
            refine xy_r (xw_iconst (1) dM_comparison_104 (by decide)) ?_
            refine xy_r (fun k9 => xw_icmp_lt 117 dM_comparison_105 (by decide) (fun q => absurd q (show ¬ ((1 : Int32) < (1 : Int32)) by decide)) (fun _ => k9)) ?_
            refine xy_r (xw_iload_n dM_comparison_108 rfl) ?_
            refine xy_r (xw_iconst (3) dM_comparison_109 (by decide)) ?_
            refine xy_r (fun k9 => xw_icmp_gt 117 dM_comparison_110 (by decide) (fun q => absurd q (show ¬ ((3 : Int32) < (1 : Int32)) by decide)) (fun _ => k9)) ?_
            refine xy_r (xw_iconst (2) dM_comparison_113 (by decide)) ?_
            refine xy_r (xw_goto 118 dM_comparison_114 (by decide)) ?_
            refine xy_r (xw_iadd dM_comparison_118) ?_
            refine xy_r (xg_put dM_comparison_119 fM_221 rfl (by decide) (Nat.le_of_ble_eq_true rfl) (fun _ => rfl) (fun _ => rfl) (mV_o (s' := (r454.1, (r454.2.1.1, (r454.2.1.2.1 + 2), r454.2.1.2.2), r454.2.2)) rfl)) ?_
            refine xy_r (xw_aload_n dM_comparison_122 rfl) ?_
            refine xy_r (xw_iload_n dM_comparison_123 rfl) ?_
            refine xy_r (xw_aload_n dM_comparison_124 rfl) ?_
            refine xy_r (xw_aload_n dM_comparison_125 rfl) ?_
            rcases xg_o hF with ⟨r483, er483, hF⟩ | ⟨r483, er483, hF⟩
            · have hm484 : m0 ≤ r483.2.2.2.1.2.2.2.2.2.2.1 ∧ n0 ≤ r483.2.2.2.1.2.2.2.2.2.2.2 := xy_le hm455 (show r454.2.2.1.2.2.2.2.2.2.1 ≤ r483.2.2.2.1.2.2.2.2.2.2.1 ∧ r454.2.2.1.2.2.2.2.2.2.2 ≤ r483.2.2.2.1.2.2.2.2.2.2.2 from ((hp.2.1 (h := h) hb (s := (r454.1, (r454.2.1.1, (r454.2.1.2.1 + 2), r454.2.1.2.2), r454.2.2)) er483)).1)
              refine xy_V1 (nl := 2) (sm := r454.2.2.1.2.2.2.2.2.2.1) (sn := r454.2.2.1.2.2.2.2.2.2.2) (tm := r483.2.2.2.1.2.2.2.2.2.2.1) (tn := r483.2.2.2.1.2.2.2.2.2.2.2) (hp.2.1 hb (s := (r454.1, (r454.2.1.1, (r454.2.1.2.1 + 2), r454.2.1.2.2), r454.2.2)) er483) rfl rfl hm455 (fun _ => rfl) (fun _ => rfl) (fun _ => rfl) (fun _ => dM_comparison_126) (fun _ R => kM_261 R) (fun _ => rfl) ⟨by omega, by omega⟩ rfl rfl rfl (fun _ => rfl) (Nat.le_of_ble_eq_true rfl) ?_
              obtain ⟨r486, er486, hF⟩ := xg_b hF
              have hm487 : m0 ≤ r486.2.2.2.1.2.2.2.2.2.2.1 ∧ n0 ≤ r486.2.2.2.1.2.2.2.2.2.2.2 := xy_le hm484 (show r483.2.2.2.1.2.2.2.2.2.2.1 ≤ r486.2.2.2.1.2.2.2.2.2.2.1 ∧ r483.2.2.2.1.2.2.2.2.2.2.2 ≤ r486.2.2.2.1.2.2.2.2.2.2.2 from (CM_binary (w := w) (h := h) hb (s := r483.2) er486).1)
              refine xy_V1 (nl := 5) (sm := r483.2.2.2.1.2.2.2.2.2.2.1) (sn := r483.2.2.2.1.2.2.2.2.2.2.2) (tm := r486.2.2.2.1.2.2.2.2.2.2.1) (tn := r486.2.2.2.1.2.2.2.2.2.2.2) (CM_binary hb (s := r483.2) er486) rfl rfl hm484 (fun _ => rfl) (fun _ => rfl) (fun _ => rfl) (fun _ => dM_comparison_129) (fun _ R => kM_267 R) (fun _ => rfl) ⟨by omega, by omega⟩ rfl rfl rfl (fun _ => rfl) (Nat.le_of_ble_eq_true rfl) ?_
              refine xy_r (xw_astore_n dM_comparison_132 (Nat.le_of_ble_eq_true rfl)) ?_
              refine xy_r (xw_Ln (L' := [some (.ref 2000), some (.ref (xn r486.1)), some (.int r457), some (.int 1)]) rfl) ?_
              refine xy_r (xw_goto 5 dM_comparison_133 (by decide)) ?_
              refine xy_r (xw_drop (L' := [some (.ref 2000), some (.ref (xn r486.1)), none, none]) ⟨rfl, ⟨rfl, trivial⟩⟩) ?_
              exact ih (s := r486.2) hm487 hF
            · subst hF
              exact xy_Vt (nl := 2) (sm := r454.2.2.1.2.2.2.2.2.2.1) (sn := r454.2.2.1.2.2.2.2.2.2.2) (tm := r483.2.2.2.1.2.2.2.2.2.2.1) (tn := r483.2.2.2.1.2.2.2.2.2.2.2) (hp.2.1 hb (s := (r454.1, (r454.2.1.1, (r454.2.1.2.1 + 2), r454.2.1.2.2), r454.2.2)) er483) rfl rfl hm455 (fun _ => rfl) (fun _ => rfl) (fun _ => rfl) (fun _ => dM_comparison_126) (fun _ R => kM_261 R) (fun _ => rfl) ⟨by omega, by omega⟩ rfl rfl rfl (fun _ => rfl) (Nat.le_of_ble_eq_true rfl) ⟨rfl, rfl⟩
        · replace hF := xg_t c460 hF
          refine xy_r (xw_aload_n dM_comparison_50 rfl) ?_
          refine xy_r (xw_iconst (1) dM_comparison_51 (by decide)) ?_
          obtain ⟨r489, er489, hF⟩ := xg_b hF
          refine xy_q (fun hq => xg_V1 (k1 := _) (n1 := _) (CM_look er489) rfl rfl rfl dM_comparison_52 (kM_264 _) (xZP (Nat.le_of_ble_eq_true rfl) (Nat.le_of_ble_eq_true rfl)) rfl rfl rfl rfl (Nat.le_of_ble_eq_true rfl) (Nat.le_refl _) (Nat.le_refl _) (Nat.sub_le_sub_right hq.1 _) (Nat.sub_le_sub_right hq.2 _)) ?_
          refine xy_r (xw_bipush (61) dM_comparison_55 (by decide)) ?_
          refine xy_brn (xw_icmp_ne 64 dM_comparison_57 (by decide)) (fun c490 => ?_) (fun c490 => ?_)
          · replace hF := xg_f c490 hF
            refine xy_r (xw_iconst (5) dM_comparison_64 (by decide)) ?_
            refine xy_r (xw_goto 97 dM_comparison_65 (by decide)) ?_
            refine xy_r (xw_istore_n dM_comparison_97 (Nat.le_of_ble_eq_true rfl)) ?_
            refine xy_r (xw_Ln (L' := [some (.ref 2000), some (.ref (xn l1)), some (.int r457), some (.int 5)]) rfl) ?_
            refine xy_r (xw_aload_n dM_comparison_98 rfl) ?_
            refine xy_r (xw_dup_r dM_comparison_99) ?_
            refine xy_r (xw_get dM_comparison_100 fM_221 rfl rfl) ?_
            refine xy_r (xw_iload_n dM_comparison_103 rfl) ?_
            refine xy_r (xw_iconst (1) dM_comparison_104 (by decide)) ?_
            refine xy_r (fun k9 => xw_icmp_lt 117 dM_comparison_105 (by decide) (fun q => absurd q (show ¬ ((5 : Int32) < (1 : Int32)) by decide)) (fun _ => k9)) ?_
            refine xy_r (xw_iload_n dM_comparison_108 rfl) ?_
            refine xy_r (xw_iconst (3) dM_comparison_109 (by decide)) ?_
            refine xy_r (fun k9 => xw_icmp_gt 117 dM_comparison_110 (by decide) (fun _ => k9) (fun q => absurd (show (3 : Int32) < (5 : Int32) by decide) q)) ?_
            refine xy_r (xw_iconst (1) dM_comparison_117 (by decide)) ?_
            refine xy_r (xw_iadd dM_comparison_118) ?_
            refine xy_r (xg_put dM_comparison_119 fM_221 rfl (by decide) (Nat.le_of_ble_eq_true rfl) (fun _ => rfl) (fun _ => rfl) (mV_o (s' := (r454.1, (r454.2.1.1, (r454.2.1.2.1 + 1), r454.2.1.2.2), r454.2.2)) rfl)) ?_
            refine xy_r (xw_aload_n dM_comparison_122 rfl) ?_
            refine xy_r (xw_iload_n dM_comparison_123 rfl) ?_
            refine xy_r (xw_aload_n dM_comparison_124 rfl) ?_
            refine xy_r (xw_aload_n dM_comparison_125 rfl) ?_
            rcases xg_o hF with ⟨r493, er493, hF⟩ | ⟨r493, er493, hF⟩
            · have hm494 : m0 ≤ r493.2.2.2.1.2.2.2.2.2.2.1 ∧ n0 ≤ r493.2.2.2.1.2.2.2.2.2.2.2 := xy_le hm455 (show r454.2.2.1.2.2.2.2.2.2.1 ≤ r493.2.2.2.1.2.2.2.2.2.2.1 ∧ r454.2.2.1.2.2.2.2.2.2.2 ≤ r493.2.2.2.1.2.2.2.2.2.2.2 from ((hp.2.1 (h := h) hb (s := (r454.1, (r454.2.1.1, (r454.2.1.2.1 + 1), r454.2.1.2.2), r454.2.2)) er493)).1)
              refine xy_V1 (nl := 2) (sm := r454.2.2.1.2.2.2.2.2.2.1) (sn := r454.2.2.1.2.2.2.2.2.2.2) (tm := r493.2.2.2.1.2.2.2.2.2.2.1) (tn := r493.2.2.2.1.2.2.2.2.2.2.2) (hp.2.1 hb (s := (r454.1, (r454.2.1.1, (r454.2.1.2.1 + 1), r454.2.1.2.2), r454.2.2)) er493) rfl rfl hm455 (fun _ => rfl) (fun _ => rfl) (fun _ => rfl) (fun _ => dM_comparison_126) (fun _ R => kM_261 R) (fun _ => rfl) ⟨by omega, by omega⟩ rfl rfl rfl (fun _ => rfl) (Nat.le_of_ble_eq_true rfl) ?_
              obtain ⟨r496, er496, hF⟩ := xg_b hF
              have hm497 : m0 ≤ r496.2.2.2.1.2.2.2.2.2.2.1 ∧ n0 ≤ r496.2.2.2.1.2.2.2.2.2.2.2 := xy_le hm494 (show r493.2.2.2.1.2.2.2.2.2.2.1 ≤ r496.2.2.2.1.2.2.2.2.2.2.1 ∧ r493.2.2.2.1.2.2.2.2.2.2.2 ≤ r496.2.2.2.1.2.2.2.2.2.2.2 from (CM_binary (w := w) (h := h) hb (s := r493.2) er496).1)
              refine xy_V1 (nl := 5) (sm := r493.2.2.2.1.2.2.2.2.2.2.1) (sn := r493.2.2.2.1.2.2.2.2.2.2.2) (tm := r496.2.2.2.1.2.2.2.2.2.2.1) (tn := r496.2.2.2.1.2.2.2.2.2.2.2) (CM_binary hb (s := r493.2) er496) rfl rfl hm494 (fun _ => rfl) (fun _ => rfl) (fun _ => rfl) (fun _ => dM_comparison_129) (fun _ R => kM_267 R) (fun _ => rfl) ⟨by omega, by omega⟩ rfl rfl rfl (fun _ => rfl) (Nat.le_of_ble_eq_true rfl) ?_
              refine xy_r (xw_astore_n dM_comparison_132 (Nat.le_of_ble_eq_true rfl)) ?_
              refine xy_r (xw_Ln (L' := [some (.ref 2000), some (.ref (xn r496.1)), some (.int r457), some (.int 5)]) rfl) ?_
              refine xy_r (xw_goto 5 dM_comparison_133 (by decide)) ?_
              refine xy_r (xw_drop (L' := [some (.ref 2000), some (.ref (xn r496.1)), none, none]) ⟨rfl, ⟨rfl, trivial⟩⟩) ?_
              exact ih (s := r496.2) hm497 hF
            · subst hF
              exact xy_Vt (nl := 2) (sm := r454.2.2.1.2.2.2.2.2.2.1) (sn := r454.2.2.1.2.2.2.2.2.2.2) (tm := r493.2.2.2.1.2.2.2.2.2.2.1) (tn := r493.2.2.2.1.2.2.2.2.2.2.2) (hp.2.1 hb (s := (r454.1, (r454.2.1.1, (r454.2.1.2.1 + 1), r454.2.1.2.2), r454.2.2)) er493) rfl rfl hm455 (fun _ => rfl) (fun _ => rfl) (fun _ => rfl) (fun _ => dM_comparison_126) (fun _ R => kM_261 R) (fun _ => rfl) ⟨by omega, by omega⟩ rfl rfl rfl (fun _ => rfl) (Nat.le_of_ble_eq_true rfl) ⟨rfl, rfl⟩
          · replace hF := xg_t c490 hF
            refine xy_r (xw_iconst (3) dM_comparison_60 (by decide)) ?_
            refine xy_r (xw_goto 97 dM_comparison_61 (by decide)) ?_
            refine xy_r (xw_istore_n dM_comparison_97 (Nat.le_of_ble_eq_true rfl)) ?_
            refine xy_r (xw_Ln (L' := [some (.ref 2000), some (.ref (xn l1)), some (.int r457), some (.int 3)]) rfl) ?_
            refine xy_r (xw_aload_n dM_comparison_98 rfl) ?_
            refine xy_r (xw_dup_r dM_comparison_99) ?_
            refine xy_r (xw_get dM_comparison_100 fM_221 rfl rfl) ?_
            refine xy_r (xw_iload_n dM_comparison_103 rfl) ?_
            refine xy_r (xw_iconst (1) dM_comparison_104 (by decide)) ?_
            refine xy_r (fun k9 => xw_icmp_lt 117 dM_comparison_105 (by decide) (fun q => absurd q (show ¬ ((3 : Int32) < (1 : Int32)) by decide)) (fun _ => k9)) ?_
            refine xy_r (xw_iload_n dM_comparison_108 rfl) ?_
            refine xy_r (xw_iconst (3) dM_comparison_109 (by decide)) ?_
            refine xy_r (fun k9 => xw_icmp_gt 117 dM_comparison_110 (by decide) (fun q => absurd q (show ¬ ((3 : Int32) < (3 : Int32)) by decide)) (fun _ => k9)) ?_
            refine xy_r (xw_iconst (2) dM_comparison_113 (by decide)) ?_
            refine xy_r (xw_goto 118 dM_comparison_114 (by decide)) ?_
            refine xy_r (xw_iadd dM_comparison_118) ?_
            refine xy_r (xg_put dM_comparison_119 fM_221 rfl (by decide) (Nat.le_of_ble_eq_true rfl) (fun _ => rfl) (fun _ => rfl) (mV_o (s' := (r454.1, (r454.2.1.1, (r454.2.1.2.1 + 2), r454.2.1.2.2), r454.2.2)) rfl)) ?_
            refine xy_r (xw_aload_n dM_comparison_122 rfl) ?_
            refine xy_r (xw_iload_n dM_comparison_123 rfl) ?_
            refine xy_r (xw_aload_n dM_comparison_124 rfl) ?_
            refine xy_r (xw_aload_n dM_comparison_125 rfl) ?_
            rcases xg_o hF with ⟨r501, er501, hF⟩ | ⟨r501, er501, hF⟩
            · have hm502 : m0 ≤ r501.2.2.2.1.2.2.2.2.2.2.1 ∧ n0 ≤ r501.2.2.2.1.2.2.2.2.2.2.2 := xy_le hm455 (show r454.2.2.1.2.2.2.2.2.2.1 ≤ r501.2.2.2.1.2.2.2.2.2.2.1 ∧ r454.2.2.1.2.2.2.2.2.2.2 ≤ r501.2.2.2.1.2.2.2.2.2.2.2 from ((hp.2.1 (h := h) hb (s := (r454.1, (r454.2.1.1, (r454.2.1.2.1 + 2), r454.2.1.2.2), r454.2.2)) er501)).1)
              refine xy_V1 (nl := 2) (sm := r454.2.2.1.2.2.2.2.2.2.1) (sn := r454.2.2.1.2.2.2.2.2.2.2) (tm := r501.2.2.2.1.2.2.2.2.2.2.1) (tn := r501.2.2.2.1.2.2.2.2.2.2.2) (hp.2.1 hb (s := (r454.1, (r454.2.1.1, (r454.2.1.2.1 + 2), r454.2.1.2.2), r454.2.2)) er501) rfl rfl hm455 (fun _ => rfl) (fun _ => rfl) (fun _ => rfl) (fun _ => dM_comparison_126) (fun _ R => kM_261 R) (fun _ => rfl) ⟨by omega, by omega⟩ rfl rfl rfl (fun _ => rfl) (Nat.le_of_ble_eq_true rfl) ?_
              obtain ⟨r504, er504, hF⟩ := xg_b hF
              have hm505 : m0 ≤ r504.2.2.2.1.2.2.2.2.2.2.1 ∧ n0 ≤ r504.2.2.2.1.2.2.2.2.2.2.2 := xy_le hm502 (show r501.2.2.2.1.2.2.2.2.2.2.1 ≤ r504.2.2.2.1.2.2.2.2.2.2.1 ∧ r501.2.2.2.1.2.2.2.2.2.2.2 ≤ r504.2.2.2.1.2.2.2.2.2.2.2 from (CM_binary (w := w) (h := h) hb (s := r501.2) er504).1)
              refine xy_V1 (nl := 5) (sm := r501.2.2.2.1.2.2.2.2.2.2.1) (sn := r501.2.2.2.1.2.2.2.2.2.2.2) (tm := r504.2.2.2.1.2.2.2.2.2.2.1) (tn := r504.2.2.2.1.2.2.2.2.2.2.2) (CM_binary hb (s := r501.2) er504) rfl rfl hm502 (fun _ => rfl) (fun _ => rfl) (fun _ => rfl) (fun _ => dM_comparison_129) (fun _ R => kM_267 R) (fun _ => rfl) ⟨by omega, by omega⟩ rfl rfl rfl (fun _ => rfl) (Nat.le_of_ble_eq_true rfl) ?_
              refine xy_r (xw_astore_n dM_comparison_132 (Nat.le_of_ble_eq_true rfl)) ?_
              refine xy_r (xw_Ln (L' := [some (.ref 2000), some (.ref (xn r504.1)), some (.int r457), some (.int 3)]) rfl) ?_
              refine xy_r (xw_goto 5 dM_comparison_133 (by decide)) ?_
              refine xy_r (xw_drop (L' := [some (.ref 2000), some (.ref (xn r504.1)), none, none]) ⟨rfl, ⟨rfl, trivial⟩⟩) ?_
              exact ih (s := r504.2) hm505 hF
            · subst hF
              exact xy_Vt (nl := 2) (sm := r454.2.2.1.2.2.2.2.2.2.1) (sn := r454.2.2.1.2.2.2.2.2.2.2) (tm := r501.2.2.2.1.2.2.2.2.2.2.1) (tn := r501.2.2.2.1.2.2.2.2.2.2.2) (hp.2.1 hb (s := (r454.1, (r454.2.1.1, (r454.2.1.2.1 + 2), r454.2.1.2.2), r454.2.2)) er501) rfl rfl hm455 (fun _ => rfl) (fun _ => rfl) (fun _ => rfl) (fun _ => dM_comparison_126) (fun _ R => kM_261 R) (fun _ => rfl) ⟨by omega, by omega⟩ rfl rfl rfl (fun _ => rfl) (Nat.le_of_ble_eq_true rfl) ⟨rfl, rfl⟩
      · replace hF := xg_t c459 hF
        refine xy_r (xw_iconst (0) dM_comparison_40 (by decide)) ?_
        refine xy_r (xw_goto 97 dM_comparison_41 (by decide)) ?_
        refine xy_r (xw_istore_n dM_comparison_97 (Nat.le_of_ble_eq_true rfl)) ?_
        refine xy_r (xw_Ln (L' := [some (.ref 2000), some (.ref (xn l1)), some (.int r457), some (.int 0)]) rfl) ?_
        refine xy_r (xw_aload_n dM_comparison_98 rfl) ?_
        refine xy_r (xw_dup_r dM_comparison_99) ?_
        refine xy_r (xw_get dM_comparison_100 fM_221 rfl rfl) ?_
        refine xy_r (xw_iload_n dM_comparison_103 rfl) ?_
        refine xy_r (xw_iconst (1) dM_comparison_104 (by decide)) ?_
        refine xy_r (fun k9 => xw_icmp_lt 117 dM_comparison_105 (by decide) (fun _ => k9) (fun q => absurd (show (0 : Int32) < (1 : Int32) by decide) q)) ?_
        refine xy_r (xw_iconst (1) dM_comparison_117 (by decide)) ?_
        refine xy_r (xw_iadd dM_comparison_118) ?_
        refine xy_r (xg_put dM_comparison_119 fM_221 rfl (by decide) (Nat.le_of_ble_eq_true rfl) (fun _ => rfl) (fun _ => rfl) (mV_o (s' := (r454.1, (r454.2.1.1, (r454.2.1.2.1 + 1), r454.2.1.2.2), r454.2.2)) rfl)) ?_
        refine xy_r (xw_aload_n dM_comparison_122 rfl) ?_
        refine xy_r (xw_iload_n dM_comparison_123 rfl) ?_
        refine xy_r (xw_aload_n dM_comparison_124 rfl) ?_
        refine xy_r (xw_aload_n dM_comparison_125 rfl) ?_
        rcases xg_o hF with ⟨r508, er508, hF⟩ | ⟨r508, er508, hF⟩
        · have hm509 : m0 ≤ r508.2.2.2.1.2.2.2.2.2.2.1 ∧ n0 ≤ r508.2.2.2.1.2.2.2.2.2.2.2 := xy_le hm455 (show r454.2.2.1.2.2.2.2.2.2.1 ≤ r508.2.2.2.1.2.2.2.2.2.2.1 ∧ r454.2.2.1.2.2.2.2.2.2.2 ≤ r508.2.2.2.1.2.2.2.2.2.2.2 from ((hp.2.1 (h := h) hb (s := (r454.1, (r454.2.1.1, (r454.2.1.2.1 + 1), r454.2.1.2.2), r454.2.2)) er508)).1)
          refine xy_V1 (nl := 2) (sm := r454.2.2.1.2.2.2.2.2.2.1) (sn := r454.2.2.1.2.2.2.2.2.2.2) (tm := r508.2.2.2.1.2.2.2.2.2.2.1) (tn := r508.2.2.2.1.2.2.2.2.2.2.2) (hp.2.1 hb (s := (r454.1, (r454.2.1.1, (r454.2.1.2.1 + 1), r454.2.1.2.2), r454.2.2)) er508) rfl rfl hm455 (fun _ => rfl) (fun _ => rfl) (fun _ => rfl) (fun _ => dM_comparison_126) (fun _ R => kM_261 R) (fun _ => rfl) ⟨by omega, by omega⟩ rfl rfl rfl (fun _ => rfl) (Nat.le_of_ble_eq_true rfl) ?_
          obtain ⟨r511, er511, hF⟩ := xg_b hF
          have hm512 : m0 ≤ r511.2.2.2.1.2.2.2.2.2.2.1 ∧ n0 ≤ r511.2.2.2.1.2.2.2.2.2.2.2 := xy_le hm509 (show r508.2.2.2.1.2.2.2.2.2.2.1 ≤ r511.2.2.2.1.2.2.2.2.2.2.1 ∧ r508.2.2.2.1.2.2.2.2.2.2.2 ≤ r511.2.2.2.1.2.2.2.2.2.2.2 from (CM_binary (w := w) (h := h) hb (s := r508.2) er511).1)
          refine xy_V1 (nl := 5) (sm := r508.2.2.2.1.2.2.2.2.2.2.1) (sn := r508.2.2.2.1.2.2.2.2.2.2.2) (tm := r511.2.2.2.1.2.2.2.2.2.2.1) (tn := r511.2.2.2.1.2.2.2.2.2.2.2) (CM_binary hb (s := r508.2) er511) rfl rfl hm509 (fun _ => rfl) (fun _ => rfl) (fun _ => rfl) (fun _ => dM_comparison_129) (fun _ R => kM_267 R) (fun _ => rfl) ⟨by omega, by omega⟩ rfl rfl rfl (fun _ => rfl) (Nat.le_of_ble_eq_true rfl) ?_
          refine xy_r (xw_astore_n dM_comparison_132 (Nat.le_of_ble_eq_true rfl)) ?_
          refine xy_r (xw_Ln (L' := [some (.ref 2000), some (.ref (xn r511.1)), some (.int r457), some (.int 0)]) rfl) ?_
          refine xy_r (xw_goto 5 dM_comparison_133 (by decide)) ?_
          refine xy_r (xw_drop (L' := [some (.ref 2000), some (.ref (xn r511.1)), none, none]) ⟨rfl, ⟨rfl, trivial⟩⟩) ?_
          exact ih (s := r511.2) hm512 hF
        · subst hF
          exact xy_Vt (nl := 2) (sm := r454.2.2.1.2.2.2.2.2.2.1) (sn := r454.2.2.1.2.2.2.2.2.2.2) (tm := r508.2.2.2.1.2.2.2.2.2.2.1) (tn := r508.2.2.2.1.2.2.2.2.2.2.2) (hp.2.1 hb (s := (r454.1, (r454.2.1.1, (r454.2.1.2.1 + 1), r454.2.1.2.2), r454.2.2)) er508) rfl rfl hm455 (fun _ => rfl) (fun _ => rfl) (fun _ => rfl) (fun _ => dM_comparison_126) (fun _ R => kM_261 R) (fun _ => rfl) ⟨by omega, by omega⟩ rfl rfl rfl (fun _ => rfl) (Nat.le_of_ble_eq_true rfl) ⟨rfl, rfl⟩
    · replace hF := xg_f c458 hF
      refine xy_r (xw_iload_n dM_comparison_20 rfl) ?_
      refine xy_r (xw_bipush (60) dM_comparison_21 (by decide)) ?_
      refine xy_br (xw_icmp_eq 34 dM_comparison_23 (by decide)) (fun c514 => ?_) (fun c514 => ?_)
      · replace hF := xg_t c514 hF
        refine xy_r (xw_iload_n dM_comparison_34 rfl) ?_
        refine xy_r (xw_bipush (61) dM_comparison_35 (by decide)) ?_
        refine xy_brn (xw_icmp_ne 44 dM_comparison_37 (by decide)) (fun c515 => ?_) (fun c515 => ?_)
        · replace hF := xg_f c515 hF
          refine xy_r (xw_iload_n dM_comparison_44 rfl) ?_
          refine xy_r (xw_bipush (62) dM_comparison_45 (by decide)) ?_
          refine xy_brn (xw_icmp_ne 68 dM_comparison_47 (by decide)) (fun c516 => ?_) (fun c516 => ?_)
          · replace hF := xg_f c516 hF
            refine xy_r (xw_aload_n dM_comparison_68 rfl) ?_
            refine xy_r (xw_iconst (1) dM_comparison_69 (by decide)) ?_
            obtain ⟨r517, er517, hF⟩ := xg_b hF
            refine xy_q (fun hq => xg_V1 (k1 := _) (n1 := _) (CM_look er517) rfl rfl rfl dM_comparison_70 (kM_264 _) (xZP (Nat.le_of_ble_eq_true rfl) (Nat.le_of_ble_eq_true rfl)) rfl rfl rfl rfl (Nat.le_of_ble_eq_true rfl) (Nat.le_refl _) (Nat.le_refl _) (Nat.sub_le_sub_right hq.1 _) (Nat.sub_le_sub_right hq.2 _)) ?_
            refine xy_r (xw_bipush (62) dM_comparison_73 (by decide)) ?_
            refine xy_brn (xw_icmp_ne 82 dM_comparison_75 (by decide)) (fun c518 => ?_) (fun c518 => ?_)
            · replace hF := xg_f c518 hF
              refine xy_r (xw_aload_n dM_comparison_82 rfl) ?_
              refine xy_r (xw_iconst (1) dM_comparison_83 (by decide)) ?_
              obtain ⟨r519, er519, hF⟩ := xg_b hF
              refine xy_q (fun hq => xg_V1 (k1 := _) (n1 := _) (CM_look er519) rfl rfl rfl dM_comparison_84 (kM_264 _) (xZP (Nat.le_of_ble_eq_true rfl) (Nat.le_of_ble_eq_true rfl)) rfl rfl rfl rfl (Nat.le_of_ble_eq_true rfl) (Nat.le_refl _) (Nat.le_refl _) (Nat.sub_le_sub_right hq.1 _) (Nat.sub_le_sub_right hq.2 _)) ?_
              refine xy_r (xw_bipush (61) dM_comparison_87 (by decide)) ?_
              refine xy_brn (xw_icmp_ne 96 dM_comparison_89 (by decide)) (fun c520 => ?_) (fun c520 => ?_)
              · replace hF := xg_f c520 hF
                refine xy_r (xw_iconst (4) dM_comparison_96 (by decide)) ?_
                refine xy_r (xw_istore_n dM_comparison_97 (Nat.le_of_ble_eq_true rfl)) ?_
                refine xy_r (xw_Ln (L' := [some (.ref 2000), some (.ref (xn l1)), some (.int r457), some (.int 4)]) rfl) ?_
                refine xy_r (xw_aload_n dM_comparison_98 rfl) ?_
                refine xy_r (xw_dup_r dM_comparison_99) ?_
                refine xy_r (xw_get dM_comparison_100 fM_221 rfl rfl) ?_
                refine xy_r (xw_iload_n dM_comparison_103 rfl) ?_
                refine xy_r (xw_iconst (1) dM_comparison_104 (by decide)) ?_
                refine xy_r (fun k9 => xw_icmp_lt 117 dM_comparison_105 (by decide) (fun q => absurd q (show ¬ ((4 : Int32) < (1 : Int32)) by decide)) (fun _ => k9)) ?_
                refine xy_r (xw_iload_n dM_comparison_108 rfl) ?_
                refine xy_r (xw_iconst (3) dM_comparison_109 (by decide)) ?_
                refine xy_r (fun k9 => xw_icmp_gt 117 dM_comparison_110 (by decide) (fun _ => k9) (fun q => absurd (show (3 : Int32) < (4 : Int32) by decide) q)) ?_
                refine xy_r (xw_iconst (1) dM_comparison_117 (by decide)) ?_
                refine xy_r (xw_iadd dM_comparison_118) ?_
                refine xy_r (xg_put dM_comparison_119 fM_221 rfl (by decide) (Nat.le_of_ble_eq_true rfl) (fun _ => rfl) (fun _ => rfl) (mV_o (s' := (r454.1, (r454.2.1.1, (r454.2.1.2.1 + 1), r454.2.1.2.2), r454.2.2)) rfl)) ?_
                refine xy_r (xw_aload_n dM_comparison_122 rfl) ?_
                refine xy_r (xw_iload_n dM_comparison_123 rfl) ?_
                refine xy_r (xw_aload_n dM_comparison_124 rfl) ?_
                refine xy_r (xw_aload_n dM_comparison_125 rfl) ?_
                rcases xg_o hF with ⟨r523, er523, hF⟩ | ⟨r523, er523, hF⟩
                · have hm524 : m0 ≤ r523.2.2.2.1.2.2.2.2.2.2.1 ∧ n0 ≤ r523.2.2.2.1.2.2.2.2.2.2.2 := xy_le hm455 (show r454.2.2.1.2.2.2.2.2.2.1 ≤ r523.2.2.2.1.2.2.2.2.2.2.1 ∧ r454.2.2.1.2.2.2.2.2.2.2 ≤ r523.2.2.2.1.2.2.2.2.2.2.2 from ((hp.2.1 (h := h) hb (s := (r454.1, (r454.2.1.1, (r454.2.1.2.1 + 1), r454.2.1.2.2), r454.2.2)) er523)).1)
                  refine xy_V1 (nl := 2) (sm := r454.2.2.1.2.2.2.2.2.2.1) (sn := r454.2.2.1.2.2.2.2.2.2.2) (tm := r523.2.2.2.1.2.2.2.2.2.2.1) (tn := r523.2.2.2.1.2.2.2.2.2.2.2) (hp.2.1 hb (s := (r454.1, (r454.2.1.1, (r454.2.1.2.1 + 1), r454.2.1.2.2), r454.2.2)) er523) rfl rfl hm455 (fun _ => rfl) (fun _ => rfl) (fun _ => rfl) (fun _ => dM_comparison_126) (fun _ R => kM_261 R) (fun _ => rfl) ⟨by omega, by omega⟩ rfl rfl rfl (fun _ => rfl) (Nat.le_of_ble_eq_true rfl) ?_
                  obtain ⟨r526, er526, hF⟩ := xg_b hF
                  have hm527 : m0 ≤ r526.2.2.2.1.2.2.2.2.2.2.1 ∧ n0 ≤ r526.2.2.2.1.2.2.2.2.2.2.2 := xy_le hm524 (show r523.2.2.2.1.2.2.2.2.2.2.1 ≤ r526.2.2.2.1.2.2.2.2.2.2.1 ∧ r523.2.2.2.1.2.2.2.2.2.2.2 ≤ r526.2.2.2.1.2.2.2.2.2.2.2 from (CM_binary (w := w) (h := h) hb (s := r523.2) er526).1)
                  refine xy_V1 (nl := 5) (sm := r523.2.2.2.1.2.2.2.2.2.2.1) (sn := r523.2.2.2.1.2.2.2.2.2.2.2) (tm := r526.2.2.2.1.2.2.2.2.2.2.1) (tn := r526.2.2.2.1.2.2.2.2.2.2.2) (CM_binary hb (s := r523.2) er526) rfl rfl hm524 (fun _ => rfl) (fun _ => rfl) (fun _ => rfl) (fun _ => dM_comparison_129) (fun _ R => kM_267 R) (fun _ => rfl) ⟨by omega, by omega⟩ rfl rfl rfl (fun _ => rfl) (Nat.le_of_ble_eq_true rfl) ?_
                  refine xy_r (xw_astore_n dM_comparison_132 (Nat.le_of_ble_eq_true rfl)) ?_
                  refine xy_r (xw_Ln (L' := [some (.ref 2000), some (.ref (xn r526.1)), some (.int r457), some (.int 4)]) rfl) ?_
                  refine xy_r (xw_goto 5 dM_comparison_133 (by decide)) ?_
                  refine xy_r (xw_drop (L' := [some (.ref 2000), some (.ref (xn r526.1)), none, none]) ⟨rfl, ⟨rfl, trivial⟩⟩) ?_
                  exact ih (s := r526.2) hm527 hF
                · subst hF
                  exact xy_Vt (nl := 2) (sm := r454.2.2.1.2.2.2.2.2.2.1) (sn := r454.2.2.1.2.2.2.2.2.2.2) (tm := r523.2.2.2.1.2.2.2.2.2.2.1) (tn := r523.2.2.2.1.2.2.2.2.2.2.2) (hp.2.1 hb (s := (r454.1, (r454.2.1.1, (r454.2.1.2.1 + 1), r454.2.1.2.2), r454.2.2)) er523) rfl rfl hm455 (fun _ => rfl) (fun _ => rfl) (fun _ => rfl) (fun _ => dM_comparison_126) (fun _ R => kM_261 R) (fun _ => rfl) ⟨by omega, by omega⟩ rfl rfl rfl (fun _ => rfl) (Nat.le_of_ble_eq_true rfl) ⟨rfl, rfl⟩
              · replace hF := xg_t c520 hF
                refine xy_r (xw_iconst (2) dM_comparison_92 (by decide)) ?_
                refine xy_r (xw_goto 97 dM_comparison_93 (by decide)) ?_
                refine xy_r (xw_istore_n dM_comparison_97 (Nat.le_of_ble_eq_true rfl)) ?_
                refine xy_r (xw_Ln (L' := [some (.ref 2000), some (.ref (xn l1)), some (.int r457), some (.int 2)]) rfl) ?_
                refine xy_r (xw_aload_n dM_comparison_98 rfl) ?_
                refine xy_r (xw_dup_r dM_comparison_99) ?_
                refine xy_r (xw_get dM_comparison_100 fM_221 rfl rfl) ?_
                refine xy_r (xw_iload_n dM_comparison_103 rfl) ?_
                refine xy_r (xw_iconst (1) dM_comparison_104 (by decide)) ?_
                refine xy_r (fun k9 => xw_icmp_lt 117 dM_comparison_105 (by decide) (fun q => absurd q (show ¬ ((2 : Int32) < (1 : Int32)) by decide)) (fun _ => k9)) ?_
                refine xy_r (xw_iload_n dM_comparison_108 rfl) ?_
                refine xy_r (xw_iconst (3) dM_comparison_109 (by decide)) ?_
                refine xy_r (fun k9 => xw_icmp_gt 117 dM_comparison_110 (by decide) (fun q => absurd q (show ¬ ((3 : Int32) < (2 : Int32)) by decide)) (fun _ => k9)) ?_
                refine xy_r (xw_iconst (2) dM_comparison_113 (by decide)) ?_
                refine xy_r (xw_goto 118 dM_comparison_114 (by decide)) ?_
                refine xy_r (xw_iadd dM_comparison_118) ?_
                refine xy_r (xg_put dM_comparison_119 fM_221 rfl (by decide) (Nat.le_of_ble_eq_true rfl) (fun _ => rfl) (fun _ => rfl) (mV_o (s' := (r454.1, (r454.2.1.1, (r454.2.1.2.1 + 2), r454.2.1.2.2), r454.2.2)) rfl)) ?_
                refine xy_r (xw_aload_n dM_comparison_122 rfl) ?_
                refine xy_r (xw_iload_n dM_comparison_123 rfl) ?_
                refine xy_r (xw_aload_n dM_comparison_124 rfl) ?_
                refine xy_r (xw_aload_n dM_comparison_125 rfl) ?_
                rcases xg_o hF with ⟨r531, er531, hF⟩ | ⟨r531, er531, hF⟩
                · have hm532 : m0 ≤ r531.2.2.2.1.2.2.2.2.2.2.1 ∧ n0 ≤ r531.2.2.2.1.2.2.2.2.2.2.2 := xy_le hm455 (show r454.2.2.1.2.2.2.2.2.2.1 ≤ r531.2.2.2.1.2.2.2.2.2.2.1 ∧ r454.2.2.1.2.2.2.2.2.2.2 ≤ r531.2.2.2.1.2.2.2.2.2.2.2 from ((hp.2.1 (h := h) hb (s := (r454.1, (r454.2.1.1, (r454.2.1.2.1 + 2), r454.2.1.2.2), r454.2.2)) er531)).1)
                  refine xy_V1 (nl := 2) (sm := r454.2.2.1.2.2.2.2.2.2.1) (sn := r454.2.2.1.2.2.2.2.2.2.2) (tm := r531.2.2.2.1.2.2.2.2.2.2.1) (tn := r531.2.2.2.1.2.2.2.2.2.2.2) (hp.2.1 hb (s := (r454.1, (r454.2.1.1, (r454.2.1.2.1 + 2), r454.2.1.2.2), r454.2.2)) er531) rfl rfl hm455 (fun _ => rfl) (fun _ => rfl) (fun _ => rfl) (fun _ => dM_comparison_126) (fun _ R => kM_261 R) (fun _ => rfl) ⟨by omega, by omega⟩ rfl rfl rfl (fun _ => rfl) (Nat.le_of_ble_eq_true rfl) ?_
                  obtain ⟨r534, er534, hF⟩ := xg_b hF
                  have hm535 : m0 ≤ r534.2.2.2.1.2.2.2.2.2.2.1 ∧ n0 ≤ r534.2.2.2.1.2.2.2.2.2.2.2 := xy_le hm532 (show r531.2.2.2.1.2.2.2.2.2.2.1 ≤ r534.2.2.2.1.2.2.2.2.2.2.1 ∧ r531.2.2.2.1.2.2.2.2.2.2.2 ≤ r534.2.2.2.1.2.2.2.2.2.2.2 from (CM_binary (w := w) (h := h) hb (s := r531.2) er534).1)
                  refine xy_V1 (nl := 5) (sm := r531.2.2.2.1.2.2.2.2.2.2.1) (sn := r531.2.2.2.1.2.2.2.2.2.2.2) (tm := r534.2.2.2.1.2.2.2.2.2.2.1) (tn := r534.2.2.2.1.2.2.2.2.2.2.2) (CM_binary hb (s := r531.2) er534) rfl rfl hm532 (fun _ => rfl) (fun _ => rfl) (fun _ => rfl) (fun _ => dM_comparison_129) (fun _ R => kM_267 R) (fun _ => rfl) ⟨by omega, by omega⟩ rfl rfl rfl (fun _ => rfl) (Nat.le_of_ble_eq_true rfl) ?_
                  refine xy_r (xw_astore_n dM_comparison_132 (Nat.le_of_ble_eq_true rfl)) ?_
                  refine xy_r (xw_Ln (L' := [some (.ref 2000), some (.ref (xn r534.1)), some (.int r457), some (.int 2)]) rfl) ?_
                  refine xy_r (xw_goto 5 dM_comparison_133 (by decide)) ?_
                  refine xy_r (xw_drop (L' := [some (.ref 2000), some (.ref (xn r534.1)), none, none]) ⟨rfl, ⟨rfl, trivial⟩⟩) ?_
                  exact ih (s := r534.2) hm535 hF
                · subst hF
                  exact xy_Vt (nl := 2) (sm := r454.2.2.1.2.2.2.2.2.2.1) (sn := r454.2.2.1.2.2.2.2.2.2.2) (tm := r531.2.2.2.1.2.2.2.2.2.2.1) (tn := r531.2.2.2.1.2.2.2.2.2.2.2) (hp.2.1 hb (s := (r454.1, (r454.2.1.1, (r454.2.1.2.1 + 2), r454.2.1.2.2), r454.2.2)) er531) rfl rfl hm455 (fun _ => rfl) (fun _ => rfl) (fun _ => rfl) (fun _ => dM_comparison_126) (fun _ R => kM_261 R) (fun _ => rfl) ⟨by omega, by omega⟩ rfl rfl rfl (fun _ => rfl) (Nat.le_of_ble_eq_true rfl) ⟨rfl, rfl⟩
            · replace hF := xg_t c518 hF
              refine xy_r (xw_iconst (1) dM_comparison_78 (by decide)) ?_
              refine xy_r (xw_goto 97 dM_comparison_79 (by decide)) ?_
              refine xy_r (xw_istore_n dM_comparison_97 (Nat.le_of_ble_eq_true rfl)) ?_
              refine xy_r (xw_Ln (L' := [some (.ref 2000), some (.ref (xn l1)), some (.int r457), some (.int 1)]) rfl) ?_
              refine xy_r (xw_aload_n dM_comparison_98 rfl) ?_
              refine xy_r (xw_dup_r dM_comparison_99) ?_
              refine xy_r (xw_get dM_comparison_100 fM_221 rfl rfl) ?_
              refine xy_r (xw_iload_n dM_comparison_103 rfl) ?_
              refine xy_r (xw_iconst (1) dM_comparison_104 (by decide)) ?_
              refine xy_r (fun k9 => xw_icmp_lt 117 dM_comparison_105 (by decide) (fun q => absurd q (show ¬ ((1 : Int32) < (1 : Int32)) by decide)) (fun _ => k9)) ?_
              refine xy_r (xw_iload_n dM_comparison_108 rfl) ?_
              refine xy_r (xw_iconst (3) dM_comparison_109 (by decide)) ?_
              refine xy_r (fun k9 => xw_icmp_gt 117 dM_comparison_110 (by decide) (fun q => absurd q (show ¬ ((3 : Int32) < (1 : Int32)) by decide)) (fun _ => k9)) ?_
              refine xy_r (xw_iconst (2) dM_comparison_113 (by decide)) ?_
              refine xy_r (xw_goto 118 dM_comparison_114 (by decide)) ?_
              refine xy_r (xw_iadd dM_comparison_118) ?_
              refine xy_r (xg_put dM_comparison_119 fM_221 rfl (by decide) (Nat.le_of_ble_eq_true rfl) (fun _ => rfl) (fun _ => rfl) (mV_o (s' := (r454.1, (r454.2.1.1, (r454.2.1.2.1 + 2), r454.2.1.2.2), r454.2.2)) rfl)) ?_
              refine xy_r (xw_aload_n dM_comparison_122 rfl) ?_
              refine xy_r (xw_iload_n dM_comparison_123 rfl) ?_
              refine xy_r (xw_aload_n dM_comparison_124 rfl) ?_
              refine xy_r (xw_aload_n dM_comparison_125 rfl) ?_
              rcases xg_o hF with ⟨r539, er539, hF⟩ | ⟨r539, er539, hF⟩
              · have hm540 : m0 ≤ r539.2.2.2.1.2.2.2.2.2.2.1 ∧ n0 ≤ r539.2.2.2.1.2.2.2.2.2.2.2 := xy_le hm455 (show r454.2.2.1.2.2.2.2.2.2.1 ≤ r539.2.2.2.1.2.2.2.2.2.2.1 ∧ r454.2.2.1.2.2.2.2.2.2.2 ≤ r539.2.2.2.1.2.2.2.2.2.2.2 from ((hp.2.1 (h := h) hb (s := (r454.1, (r454.2.1.1, (r454.2.1.2.1 + 2), r454.2.1.2.2), r454.2.2)) er539)).1)
                refine xy_V1 (nl := 2) (sm := r454.2.2.1.2.2.2.2.2.2.1) (sn := r454.2.2.1.2.2.2.2.2.2.2) (tm := r539.2.2.2.1.2.2.2.2.2.2.1) (tn := r539.2.2.2.1.2.2.2.2.2.2.2) (hp.2.1 hb (s := (r454.1, (r454.2.1.1, (r454.2.1.2.1 + 2), r454.2.1.2.2), r454.2.2)) er539) rfl rfl hm455 (fun _ => rfl) (fun _ => rfl) (fun _ => rfl) (fun _ => dM_comparison_126) (fun _ R => kM_261 R) (fun _ => rfl) ⟨by omega, by omega⟩ rfl rfl rfl (fun _ => rfl) (Nat.le_of_ble_eq_true rfl) ?_
                obtain ⟨r542, er542, hF⟩ := xg_b hF
                have hm543 : m0 ≤ r542.2.2.2.1.2.2.2.2.2.2.1 ∧ n0 ≤ r542.2.2.2.1.2.2.2.2.2.2.2 := xy_le hm540 (show r539.2.2.2.1.2.2.2.2.2.2.1 ≤ r542.2.2.2.1.2.2.2.2.2.2.1 ∧ r539.2.2.2.1.2.2.2.2.2.2.2 ≤ r542.2.2.2.1.2.2.2.2.2.2.2 from (CM_binary (w := w) (h := h) hb (s := r539.2) er542).1)
                refine xy_V1 (nl := 5) (sm := r539.2.2.2.1.2.2.2.2.2.2.1) (sn := r539.2.2.2.1.2.2.2.2.2.2.2) (tm := r542.2.2.2.1.2.2.2.2.2.2.1) (tn := r542.2.2.2.1.2.2.2.2.2.2.2) (CM_binary hb (s := r539.2) er542) rfl rfl hm540 (fun _ => rfl) (fun _ => rfl) (fun _ => rfl) (fun _ => dM_comparison_129) (fun _ R => kM_267 R) (fun _ => rfl) ⟨by omega, by omega⟩ rfl rfl rfl (fun _ => rfl) (Nat.le_of_ble_eq_true rfl) ?_
                refine xy_r (xw_astore_n dM_comparison_132 (Nat.le_of_ble_eq_true rfl)) ?_
                refine xy_r (xw_Ln (L' := [some (.ref 2000), some (.ref (xn r542.1)), some (.int r457), some (.int 1)]) rfl) ?_
                refine xy_r (xw_goto 5 dM_comparison_133 (by decide)) ?_
                refine xy_r (xw_drop (L' := [some (.ref 2000), some (.ref (xn r542.1)), none, none]) ⟨rfl, ⟨rfl, trivial⟩⟩) ?_
                exact ih (s := r542.2) hm543 hF
              · subst hF
                exact xy_Vt (nl := 2) (sm := r454.2.2.1.2.2.2.2.2.2.1) (sn := r454.2.2.1.2.2.2.2.2.2.2) (tm := r539.2.2.2.1.2.2.2.2.2.2.1) (tn := r539.2.2.2.1.2.2.2.2.2.2.2) (hp.2.1 hb (s := (r454.1, (r454.2.1.1, (r454.2.1.2.1 + 2), r454.2.1.2.2), r454.2.2)) er539) rfl rfl hm455 (fun _ => rfl) (fun _ => rfl) (fun _ => rfl) (fun _ => dM_comparison_126) (fun _ R => kM_261 R) (fun _ => rfl) ⟨by omega, by omega⟩ rfl rfl rfl (fun _ => rfl) (Nat.le_of_ble_eq_true rfl) ⟨rfl, rfl⟩
          · replace hF := xg_t c516 hF
            refine xy_r (xw_aload_n dM_comparison_50 rfl) ?_
            refine xy_r (xw_iconst (1) dM_comparison_51 (by decide)) ?_
            obtain ⟨r545, er545, hF⟩ := xg_b hF
            refine xy_q (fun hq => xg_V1 (k1 := _) (n1 := _) (CM_look er545) rfl rfl rfl dM_comparison_52 (kM_264 _) (xZP (Nat.le_of_ble_eq_true rfl) (Nat.le_of_ble_eq_true rfl)) rfl rfl rfl rfl (Nat.le_of_ble_eq_true rfl) (Nat.le_refl _) (Nat.le_refl _) (Nat.sub_le_sub_right hq.1 _) (Nat.sub_le_sub_right hq.2 _)) ?_
            refine xy_r (xw_bipush (61) dM_comparison_55 (by decide)) ?_
            refine xy_brn (xw_icmp_ne 64 dM_comparison_57 (by decide)) (fun c546 => ?_) (fun c546 => ?_)
            · replace hF := xg_f c546 hF
              refine xy_r (xw_iconst (5) dM_comparison_64 (by decide)) ?_
              refine xy_r (xw_goto 97 dM_comparison_65 (by decide)) ?_
              refine xy_r (xw_istore_n dM_comparison_97 (Nat.le_of_ble_eq_true rfl)) ?_
              refine xy_r (xw_Ln (L' := [some (.ref 2000), some (.ref (xn l1)), some (.int r457), some (.int 5)]) rfl) ?_
              refine xy_r (xw_aload_n dM_comparison_98 rfl) ?_
              refine xy_r (xw_dup_r dM_comparison_99) ?_
              refine xy_r (xw_get dM_comparison_100 fM_221 rfl rfl) ?_
              refine xy_r (xw_iload_n dM_comparison_103 rfl) ?_
              refine xy_r (xw_iconst (1) dM_comparison_104 (by decide)) ?_
              refine xy_r (fun k9 => xw_icmp_lt 117 dM_comparison_105 (by decide) (fun q => absurd q (show ¬ ((5 : Int32) < (1 : Int32)) by decide)) (fun _ => k9)) ?_
              refine xy_r (xw_iload_n dM_comparison_108 rfl) ?_
              refine xy_r (xw_iconst (3) dM_comparison_109 (by decide)) ?_
              refine xy_r (fun k9 => xw_icmp_gt 117 dM_comparison_110 (by decide) (fun _ => k9) (fun q => absurd (show (3 : Int32) < (5 : Int32) by decide) q)) ?_
              refine xy_r (xw_iconst (1) dM_comparison_117 (by decide)) ?_
              refine xy_r (xw_iadd dM_comparison_118) ?_
              refine xy_r (xg_put dM_comparison_119 fM_221 rfl (by decide) (Nat.le_of_ble_eq_true rfl) (fun _ => rfl) (fun _ => rfl) (mV_o (s' := (r454.1, (r454.2.1.1, (r454.2.1.2.1 + 1), r454.2.1.2.2), r454.2.2)) rfl)) ?_
              refine xy_r (xw_aload_n dM_comparison_122 rfl) ?_
              refine xy_r (xw_iload_n dM_comparison_123 rfl) ?_
              refine xy_r (xw_aload_n dM_comparison_124 rfl) ?_
              refine xy_r (xw_aload_n dM_comparison_125 rfl) ?_
              rcases xg_o hF with ⟨r549, er549, hF⟩ | ⟨r549, er549, hF⟩
              · have hm550 : m0 ≤ r549.2.2.2.1.2.2.2.2.2.2.1 ∧ n0 ≤ r549.2.2.2.1.2.2.2.2.2.2.2 := xy_le hm455 (show r454.2.2.1.2.2.2.2.2.2.1 ≤ r549.2.2.2.1.2.2.2.2.2.2.1 ∧ r454.2.2.1.2.2.2.2.2.2.2 ≤ r549.2.2.2.1.2.2.2.2.2.2.2 from ((hp.2.1 (h := h) hb (s := (r454.1, (r454.2.1.1, (r454.2.1.2.1 + 1), r454.2.1.2.2), r454.2.2)) er549)).1)
                refine xy_V1 (nl := 2) (sm := r454.2.2.1.2.2.2.2.2.2.1) (sn := r454.2.2.1.2.2.2.2.2.2.2) (tm := r549.2.2.2.1.2.2.2.2.2.2.1) (tn := r549.2.2.2.1.2.2.2.2.2.2.2) (hp.2.1 hb (s := (r454.1, (r454.2.1.1, (r454.2.1.2.1 + 1), r454.2.1.2.2), r454.2.2)) er549) rfl rfl hm455 (fun _ => rfl) (fun _ => rfl) (fun _ => rfl) (fun _ => dM_comparison_126) (fun _ R => kM_261 R) (fun _ => rfl) ⟨by omega, by omega⟩ rfl rfl rfl (fun _ => rfl) (Nat.le_of_ble_eq_true rfl) ?_
                obtain ⟨r552, er552, hF⟩ := xg_b hF
                have hm553 : m0 ≤ r552.2.2.2.1.2.2.2.2.2.2.1 ∧ n0 ≤ r552.2.2.2.1.2.2.2.2.2.2.2 := xy_le hm550 (show r549.2.2.2.1.2.2.2.2.2.2.1 ≤ r552.2.2.2.1.2.2.2.2.2.2.1 ∧ r549.2.2.2.1.2.2.2.2.2.2.2 ≤ r552.2.2.2.1.2.2.2.2.2.2.2 from (CM_binary (w := w) (h := h) hb (s := r549.2) er552).1)
                refine xy_V1 (nl := 5) (sm := r549.2.2.2.1.2.2.2.2.2.2.1) (sn := r549.2.2.2.1.2.2.2.2.2.2.2) (tm := r552.2.2.2.1.2.2.2.2.2.2.1) (tn := r552.2.2.2.1.2.2.2.2.2.2.2) (CM_binary hb (s := r549.2) er552) rfl rfl hm550 (fun _ => rfl) (fun _ => rfl) (fun _ => rfl) (fun _ => dM_comparison_129) (fun _ R => kM_267 R) (fun _ => rfl) ⟨by omega, by omega⟩ rfl rfl rfl (fun _ => rfl) (Nat.le_of_ble_eq_true rfl) ?_
                refine xy_r (xw_astore_n dM_comparison_132 (Nat.le_of_ble_eq_true rfl)) ?_
                refine xy_r (xw_Ln (L' := [some (.ref 2000), some (.ref (xn r552.1)), some (.int r457), some (.int 5)]) rfl) ?_
                refine xy_r (xw_goto 5 dM_comparison_133 (by decide)) ?_
                refine xy_r (xw_drop (L' := [some (.ref 2000), some (.ref (xn r552.1)), none, none]) ⟨rfl, ⟨rfl, trivial⟩⟩) ?_
                exact ih (s := r552.2) hm553 hF
              · subst hF
                exact xy_Vt (nl := 2) (sm := r454.2.2.1.2.2.2.2.2.2.1) (sn := r454.2.2.1.2.2.2.2.2.2.2) (tm := r549.2.2.2.1.2.2.2.2.2.2.1) (tn := r549.2.2.2.1.2.2.2.2.2.2.2) (hp.2.1 hb (s := (r454.1, (r454.2.1.1, (r454.2.1.2.1 + 1), r454.2.1.2.2), r454.2.2)) er549) rfl rfl hm455 (fun _ => rfl) (fun _ => rfl) (fun _ => rfl) (fun _ => dM_comparison_126) (fun _ R => kM_261 R) (fun _ => rfl) ⟨by omega, by omega⟩ rfl rfl rfl (fun _ => rfl) (Nat.le_of_ble_eq_true rfl) ⟨rfl, rfl⟩
            · replace hF := xg_t c546 hF
              refine xy_r (xw_iconst (3) dM_comparison_60 (by decide)) ?_
              refine xy_r (xw_goto 97 dM_comparison_61 (by decide)) ?_
              refine xy_r (xw_istore_n dM_comparison_97 (Nat.le_of_ble_eq_true rfl)) ?_
              refine xy_r (xw_Ln (L' := [some (.ref 2000), some (.ref (xn l1)), some (.int r457), some (.int 3)]) rfl) ?_
              refine xy_r (xw_aload_n dM_comparison_98 rfl) ?_
              refine xy_r (xw_dup_r dM_comparison_99) ?_
              refine xy_r (xw_get dM_comparison_100 fM_221 rfl rfl) ?_
              refine xy_r (xw_iload_n dM_comparison_103 rfl) ?_
              refine xy_r (xw_iconst (1) dM_comparison_104 (by decide)) ?_
              refine xy_r (fun k9 => xw_icmp_lt 117 dM_comparison_105 (by decide) (fun q => absurd q (show ¬ ((3 : Int32) < (1 : Int32)) by decide)) (fun _ => k9)) ?_
              refine xy_r (xw_iload_n dM_comparison_108 rfl) ?_
              refine xy_r (xw_iconst (3) dM_comparison_109 (by decide)) ?_
              refine xy_r (fun k9 => xw_icmp_gt 117 dM_comparison_110 (by decide) (fun q => absurd q (show ¬ ((3 : Int32) < (3 : Int32)) by decide)) (fun _ => k9)) ?_
              refine xy_r (xw_iconst (2) dM_comparison_113 (by decide)) ?_
              refine xy_r (xw_goto 118 dM_comparison_114 (by decide)) ?_
              refine xy_r (xw_iadd dM_comparison_118) ?_
              refine xy_r (xg_put dM_comparison_119 fM_221 rfl (by decide) (Nat.le_of_ble_eq_true rfl) (fun _ => rfl) (fun _ => rfl) (mV_o (s' := (r454.1, (r454.2.1.1, (r454.2.1.2.1 + 2), r454.2.1.2.2), r454.2.2)) rfl)) ?_
              refine xy_r (xw_aload_n dM_comparison_122 rfl) ?_
              refine xy_r (xw_iload_n dM_comparison_123 rfl) ?_
              refine xy_r (xw_aload_n dM_comparison_124 rfl) ?_
              refine xy_r (xw_aload_n dM_comparison_125 rfl) ?_
              rcases xg_o hF with ⟨r557, er557, hF⟩ | ⟨r557, er557, hF⟩
              · have hm558 : m0 ≤ r557.2.2.2.1.2.2.2.2.2.2.1 ∧ n0 ≤ r557.2.2.2.1.2.2.2.2.2.2.2 := xy_le hm455 (show r454.2.2.1.2.2.2.2.2.2.1 ≤ r557.2.2.2.1.2.2.2.2.2.2.1 ∧ r454.2.2.1.2.2.2.2.2.2.2 ≤ r557.2.2.2.1.2.2.2.2.2.2.2 from ((hp.2.1 (h := h) hb (s := (r454.1, (r454.2.1.1, (r454.2.1.2.1 + 2), r454.2.1.2.2), r454.2.2)) er557)).1)
                refine xy_V1 (nl := 2) (sm := r454.2.2.1.2.2.2.2.2.2.1) (sn := r454.2.2.1.2.2.2.2.2.2.2) (tm := r557.2.2.2.1.2.2.2.2.2.2.1) (tn := r557.2.2.2.1.2.2.2.2.2.2.2) (hp.2.1 hb (s := (r454.1, (r454.2.1.1, (r454.2.1.2.1 + 2), r454.2.1.2.2), r454.2.2)) er557) rfl rfl hm455 (fun _ => rfl) (fun _ => rfl) (fun _ => rfl) (fun _ => dM_comparison_126) (fun _ R => kM_261 R) (fun _ => rfl) ⟨by omega, by omega⟩ rfl rfl rfl (fun _ => rfl) (Nat.le_of_ble_eq_true rfl) ?_
                obtain ⟨r560, er560, hF⟩ := xg_b hF
                have hm561 : m0 ≤ r560.2.2.2.1.2.2.2.2.2.2.1 ∧ n0 ≤ r560.2.2.2.1.2.2.2.2.2.2.2 := xy_le hm558 (show r557.2.2.2.1.2.2.2.2.2.2.1 ≤ r560.2.2.2.1.2.2.2.2.2.2.1 ∧ r557.2.2.2.1.2.2.2.2.2.2.2 ≤ r560.2.2.2.1.2.2.2.2.2.2.2 from (CM_binary (w := w) (h := h) hb (s := r557.2) er560).1)
                refine xy_V1 (nl := 5) (sm := r557.2.2.2.1.2.2.2.2.2.2.1) (sn := r557.2.2.2.1.2.2.2.2.2.2.2) (tm := r560.2.2.2.1.2.2.2.2.2.2.1) (tn := r560.2.2.2.1.2.2.2.2.2.2.2) (CM_binary hb (s := r557.2) er560) rfl rfl hm558 (fun _ => rfl) (fun _ => rfl) (fun _ => rfl) (fun _ => dM_comparison_129) (fun _ R => kM_267 R) (fun _ => rfl) ⟨by omega, by omega⟩ rfl rfl rfl (fun _ => rfl) (Nat.le_of_ble_eq_true rfl) ?_
                refine xy_r (xw_astore_n dM_comparison_132 (Nat.le_of_ble_eq_true rfl)) ?_
                refine xy_r (xw_Ln (L' := [some (.ref 2000), some (.ref (xn r560.1)), some (.int r457), some (.int 3)]) rfl) ?_
                refine xy_r (xw_goto 5 dM_comparison_133 (by decide)) ?_
                refine xy_r (xw_drop (L' := [some (.ref 2000), some (.ref (xn r560.1)), none, none]) ⟨rfl, ⟨rfl, trivial⟩⟩) ?_
                exact ih (s := r560.2) hm561 hF
              · subst hF
                exact xy_Vt (nl := 2) (sm := r454.2.2.1.2.2.2.2.2.2.1) (sn := r454.2.2.1.2.2.2.2.2.2.2) (tm := r557.2.2.2.1.2.2.2.2.2.2.1) (tn := r557.2.2.2.1.2.2.2.2.2.2.2) (hp.2.1 hb (s := (r454.1, (r454.2.1.1, (r454.2.1.2.1 + 2), r454.2.1.2.2), r454.2.2)) er557) rfl rfl hm455 (fun _ => rfl) (fun _ => rfl) (fun _ => rfl) (fun _ => dM_comparison_126) (fun _ R => kM_261 R) (fun _ => rfl) ⟨by omega, by omega⟩ rfl rfl rfl (fun _ => rfl) (Nat.le_of_ble_eq_true rfl) ⟨rfl, rfl⟩
        · replace hF := xg_t c515 hF
          refine xy_r (xw_iconst (0) dM_comparison_40 (by decide)) ?_
          refine xy_r (xw_goto 97 dM_comparison_41 (by decide)) ?_
          refine xy_r (xw_istore_n dM_comparison_97 (Nat.le_of_ble_eq_true rfl)) ?_
          refine xy_r (xw_Ln (L' := [some (.ref 2000), some (.ref (xn l1)), some (.int r457), some (.int 0)]) rfl) ?_
          refine xy_r (xw_aload_n dM_comparison_98 rfl) ?_
          refine xy_r (xw_dup_r dM_comparison_99) ?_
          refine xy_r (xw_get dM_comparison_100 fM_221 rfl rfl) ?_
          refine xy_r (xw_iload_n dM_comparison_103 rfl) ?_
          refine xy_r (xw_iconst (1) dM_comparison_104 (by decide)) ?_
          refine xy_r (fun k9 => xw_icmp_lt 117 dM_comparison_105 (by decide) (fun _ => k9) (fun q => absurd (show (0 : Int32) < (1 : Int32) by decide) q)) ?_
          refine xy_r (xw_iconst (1) dM_comparison_117 (by decide)) ?_
          refine xy_r (xw_iadd dM_comparison_118) ?_
          refine xy_r (xg_put dM_comparison_119 fM_221 rfl (by decide) (Nat.le_of_ble_eq_true rfl) (fun _ => rfl) (fun _ => rfl) (mV_o (s' := (r454.1, (r454.2.1.1, (r454.2.1.2.1 + 1), r454.2.1.2.2), r454.2.2)) rfl)) ?_
          refine xy_r (xw_aload_n dM_comparison_122 rfl) ?_
          refine xy_r (xw_iload_n dM_comparison_123 rfl) ?_
          refine xy_r (xw_aload_n dM_comparison_124 rfl) ?_
          refine xy_r (xw_aload_n dM_comparison_125 rfl) ?_
          rcases xg_o hF with ⟨r564, er564, hF⟩ | ⟨r564, er564, hF⟩
          · have hm565 : m0 ≤ r564.2.2.2.1.2.2.2.2.2.2.1 ∧ n0 ≤ r564.2.2.2.1.2.2.2.2.2.2.2 := xy_le hm455 (show r454.2.2.1.2.2.2.2.2.2.1 ≤ r564.2.2.2.1.2.2.2.2.2.2.1 ∧ r454.2.2.1.2.2.2.2.2.2.2 ≤ r564.2.2.2.1.2.2.2.2.2.2.2 from ((hp.2.1 (h := h) hb (s := (r454.1, (r454.2.1.1, (r454.2.1.2.1 + 1), r454.2.1.2.2), r454.2.2)) er564)).1)
            refine xy_V1 (nl := 2) (sm := r454.2.2.1.2.2.2.2.2.2.1) (sn := r454.2.2.1.2.2.2.2.2.2.2) (tm := r564.2.2.2.1.2.2.2.2.2.2.1) (tn := r564.2.2.2.1.2.2.2.2.2.2.2) (hp.2.1 hb (s := (r454.1, (r454.2.1.1, (r454.2.1.2.1 + 1), r454.2.1.2.2), r454.2.2)) er564) rfl rfl hm455 (fun _ => rfl) (fun _ => rfl) (fun _ => rfl) (fun _ => dM_comparison_126) (fun _ R => kM_261 R) (fun _ => rfl) ⟨by omega, by omega⟩ rfl rfl rfl (fun _ => rfl) (Nat.le_of_ble_eq_true rfl) ?_
            obtain ⟨r567, er567, hF⟩ := xg_b hF
            have hm568 : m0 ≤ r567.2.2.2.1.2.2.2.2.2.2.1 ∧ n0 ≤ r567.2.2.2.1.2.2.2.2.2.2.2 := xy_le hm565 (show r564.2.2.2.1.2.2.2.2.2.2.1 ≤ r567.2.2.2.1.2.2.2.2.2.2.1 ∧ r564.2.2.2.1.2.2.2.2.2.2.2 ≤ r567.2.2.2.1.2.2.2.2.2.2.2 from (CM_binary (w := w) (h := h) hb (s := r564.2) er567).1)
            refine xy_V1 (nl := 5) (sm := r564.2.2.2.1.2.2.2.2.2.2.1) (sn := r564.2.2.2.1.2.2.2.2.2.2.2) (tm := r567.2.2.2.1.2.2.2.2.2.2.1) (tn := r567.2.2.2.1.2.2.2.2.2.2.2) (CM_binary hb (s := r564.2) er567) rfl rfl hm565 (fun _ => rfl) (fun _ => rfl) (fun _ => rfl) (fun _ => dM_comparison_129) (fun _ R => kM_267 R) (fun _ => rfl) ⟨by omega, by omega⟩ rfl rfl rfl (fun _ => rfl) (Nat.le_of_ble_eq_true rfl) ?_
            refine xy_r (xw_astore_n dM_comparison_132 (Nat.le_of_ble_eq_true rfl)) ?_
            refine xy_r (xw_Ln (L' := [some (.ref 2000), some (.ref (xn r567.1)), some (.int r457), some (.int 0)]) rfl) ?_
            refine xy_r (xw_goto 5 dM_comparison_133 (by decide)) ?_
            refine xy_r (xw_drop (L' := [some (.ref 2000), some (.ref (xn r567.1)), none, none]) ⟨rfl, ⟨rfl, trivial⟩⟩) ?_
            exact ih (s := r567.2) hm568 hF
          · subst hF
            exact xy_Vt (nl := 2) (sm := r454.2.2.1.2.2.2.2.2.2.1) (sn := r454.2.2.1.2.2.2.2.2.2.2) (tm := r564.2.2.2.1.2.2.2.2.2.2.1) (tn := r564.2.2.2.1.2.2.2.2.2.2.2) (hp.2.1 hb (s := (r454.1, (r454.2.1.1, (r454.2.1.2.1 + 1), r454.2.1.2.2), r454.2.2)) er564) rfl rfl hm455 (fun _ => rfl) (fun _ => rfl) (fun _ => rfl) (fun _ => dM_comparison_126) (fun _ R => kM_261 R) (fun _ => rfl) ⟨by omega, by omega⟩ rfl rfl rfl (fun _ => rfl) (Nat.le_of_ble_eq_true rfl) ⟨rfl, rfl⟩
      · replace hF := xg_f c514 hF
        refine xy_r (xw_iload_n dM_comparison_26 rfl) ?_
        refine xy_r (xw_bipush (62) dM_comparison_27 (by decide)) ?_
        refine xy_br (xw_icmp_eq 34 dM_comparison_29 (by decide)) (fun c570 => ?_) (fun c570 => ?_)
        · replace hF := xg_t c570 hF
          refine xy_r (xw_iload_n dM_comparison_34 rfl) ?_
          refine xy_r (xw_bipush (61) dM_comparison_35 (by decide)) ?_
          refine xy_brn (xw_icmp_ne 44 dM_comparison_37 (by decide)) (fun c571 => ?_) (fun c571 => ?_)
          · replace hF := xg_f c571 hF
            refine xy_r (xw_iload_n dM_comparison_44 rfl) ?_
            refine xy_r (xw_bipush (62) dM_comparison_45 (by decide)) ?_
            refine xy_brn (xw_icmp_ne 68 dM_comparison_47 (by decide)) (fun c572 => ?_) (fun c572 => ?_)
            · replace hF := xg_f c572 hF
              refine xy_r (xw_aload_n dM_comparison_68 rfl) ?_
              refine xy_r (xw_iconst (1) dM_comparison_69 (by decide)) ?_
              obtain ⟨r573, er573, hF⟩ := xg_b hF
              refine xy_q (fun hq => xg_V1 (k1 := _) (n1 := _) (CM_look er573) rfl rfl rfl dM_comparison_70 (kM_264 _) (xZP (Nat.le_of_ble_eq_true rfl) (Nat.le_of_ble_eq_true rfl)) rfl rfl rfl rfl (Nat.le_of_ble_eq_true rfl) (Nat.le_refl _) (Nat.le_refl _) (Nat.sub_le_sub_right hq.1 _) (Nat.sub_le_sub_right hq.2 _)) ?_
              refine xy_r (xw_bipush (62) dM_comparison_73 (by decide)) ?_
              refine xy_brn (xw_icmp_ne 82 dM_comparison_75 (by decide)) (fun c574 => ?_) (fun c574 => ?_)
              · replace hF := xg_f c574 hF
                refine xy_r (xw_aload_n dM_comparison_82 rfl) ?_
                refine xy_r (xw_iconst (1) dM_comparison_83 (by decide)) ?_
                obtain ⟨r575, er575, hF⟩ := xg_b hF
                refine xy_q (fun hq => xg_V1 (k1 := _) (n1 := _) (CM_look er575) rfl rfl rfl dM_comparison_84 (kM_264 _) (xZP (Nat.le_of_ble_eq_true rfl) (Nat.le_of_ble_eq_true rfl)) rfl rfl rfl rfl (Nat.le_of_ble_eq_true rfl) (Nat.le_refl _) (Nat.le_refl _) (Nat.sub_le_sub_right hq.1 _) (Nat.sub_le_sub_right hq.2 _)) ?_
                refine xy_r (xw_bipush (61) dM_comparison_87 (by decide)) ?_
                refine xy_brn (xw_icmp_ne 96 dM_comparison_89 (by decide)) (fun c576 => ?_) (fun c576 => ?_)
                · replace hF := xg_f c576 hF
                  refine xy_r (xw_iconst (4) dM_comparison_96 (by decide)) ?_
                  refine xy_r (xw_istore_n dM_comparison_97 (Nat.le_of_ble_eq_true rfl)) ?_
                  refine xy_r (xw_Ln (L' := [some (.ref 2000), some (.ref (xn l1)), some (.int r457), some (.int 4)]) rfl) ?_
                  refine xy_r (xw_aload_n dM_comparison_98 rfl) ?_
                  refine xy_r (xw_dup_r dM_comparison_99) ?_
                  refine xy_r (xw_get dM_comparison_100 fM_221 rfl rfl) ?_
                  refine xy_r (xw_iload_n dM_comparison_103 rfl) ?_
                  refine xy_r (xw_iconst (1) dM_comparison_104 (by decide)) ?_
                  refine xy_r (fun k9 => xw_icmp_lt 117 dM_comparison_105 (by decide) (fun q => absurd q (show ¬ ((4 : Int32) < (1 : Int32)) by decide)) (fun _ => k9)) ?_
                  refine xy_r (xw_iload_n dM_comparison_108 rfl) ?_
                  refine xy_r (xw_iconst (3) dM_comparison_109 (by decide)) ?_
                  refine xy_r (fun k9 => xw_icmp_gt 117 dM_comparison_110 (by decide) (fun _ => k9) (fun q => absurd (show (3 : Int32) < (4 : Int32) by decide) q)) ?_
                  refine xy_r (xw_iconst (1) dM_comparison_117 (by decide)) ?_
                  refine xy_r (xw_iadd dM_comparison_118) ?_
                  refine xy_r (xg_put dM_comparison_119 fM_221 rfl (by decide) (Nat.le_of_ble_eq_true rfl) (fun _ => rfl) (fun _ => rfl) (mV_o (s' := (r454.1, (r454.2.1.1, (r454.2.1.2.1 + 1), r454.2.1.2.2), r454.2.2)) rfl)) ?_
                  refine xy_r (xw_aload_n dM_comparison_122 rfl) ?_
                  refine xy_r (xw_iload_n dM_comparison_123 rfl) ?_
                  refine xy_r (xw_aload_n dM_comparison_124 rfl) ?_
                  refine xy_r (xw_aload_n dM_comparison_125 rfl) ?_
                  rcases xg_o hF with ⟨r579, er579, hF⟩ | ⟨r579, er579, hF⟩
                  · have hm580 : m0 ≤ r579.2.2.2.1.2.2.2.2.2.2.1 ∧ n0 ≤ r579.2.2.2.1.2.2.2.2.2.2.2 := xy_le hm455 (show r454.2.2.1.2.2.2.2.2.2.1 ≤ r579.2.2.2.1.2.2.2.2.2.2.1 ∧ r454.2.2.1.2.2.2.2.2.2.2 ≤ r579.2.2.2.1.2.2.2.2.2.2.2 from ((hp.2.1 (h := h) hb (s := (r454.1, (r454.2.1.1, (r454.2.1.2.1 + 1), r454.2.1.2.2), r454.2.2)) er579)).1)
                    refine xy_V1 (nl := 2) (sm := r454.2.2.1.2.2.2.2.2.2.1) (sn := r454.2.2.1.2.2.2.2.2.2.2) (tm := r579.2.2.2.1.2.2.2.2.2.2.1) (tn := r579.2.2.2.1.2.2.2.2.2.2.2) (hp.2.1 hb (s := (r454.1, (r454.2.1.1, (r454.2.1.2.1 + 1), r454.2.1.2.2), r454.2.2)) er579) rfl rfl hm455 (fun _ => rfl) (fun _ => rfl) (fun _ => rfl) (fun _ => dM_comparison_126) (fun _ R => kM_261 R) (fun _ => rfl) ⟨by omega, by omega⟩ rfl rfl rfl (fun _ => rfl) (Nat.le_of_ble_eq_true rfl) ?_
                    obtain ⟨r582, er582, hF⟩ := xg_b hF
                    have hm583 : m0 ≤ r582.2.2.2.1.2.2.2.2.2.2.1 ∧ n0 ≤ r582.2.2.2.1.2.2.2.2.2.2.2 := xy_le hm580 (show r579.2.2.2.1.2.2.2.2.2.2.1 ≤ r582.2.2.2.1.2.2.2.2.2.2.1 ∧ r579.2.2.2.1.2.2.2.2.2.2.2 ≤ r582.2.2.2.1.2.2.2.2.2.2.2 from (CM_binary (w := w) (h := h) hb (s := r579.2) er582).1)
                    refine xy_V1 (nl := 5) (sm := r579.2.2.2.1.2.2.2.2.2.2.1) (sn := r579.2.2.2.1.2.2.2.2.2.2.2) (tm := r582.2.2.2.1.2.2.2.2.2.2.1) (tn := r582.2.2.2.1.2.2.2.2.2.2.2) (CM_binary hb (s := r579.2) er582) rfl rfl hm580 (fun _ => rfl) (fun _ => rfl) (fun _ => rfl) (fun _ => dM_comparison_129) (fun _ R => kM_267 R) (fun _ => rfl) ⟨by omega, by omega⟩ rfl rfl rfl (fun _ => rfl) (Nat.le_of_ble_eq_true rfl) ?_
                    refine xy_r (xw_astore_n dM_comparison_132 (Nat.le_of_ble_eq_true rfl)) ?_
                    refine xy_r (xw_Ln (L' := [some (.ref 2000), some (.ref (xn r582.1)), some (.int r457), some (.int 4)]) rfl) ?_
                    refine xy_r (xw_goto 5 dM_comparison_133 (by decide)) ?_
                    refine xy_r (xw_drop (L' := [some (.ref 2000), some (.ref (xn r582.1)), none, none]) ⟨rfl, ⟨rfl, trivial⟩⟩) ?_
                    exact ih (s := r582.2) hm583 hF
                  · subst hF
                    exact xy_Vt (nl := 2) (sm := r454.2.2.1.2.2.2.2.2.2.1) (sn := r454.2.2.1.2.2.2.2.2.2.2) (tm := r579.2.2.2.1.2.2.2.2.2.2.1) (tn := r579.2.2.2.1.2.2.2.2.2.2.2) (hp.2.1 hb (s := (r454.1, (r454.2.1.1, (r454.2.1.2.1 + 1), r454.2.1.2.2), r454.2.2)) er579) rfl rfl hm455 (fun _ => rfl) (fun _ => rfl) (fun _ => rfl) (fun _ => dM_comparison_126) (fun _ R => kM_261 R) (fun _ => rfl) ⟨by omega, by omega⟩ rfl rfl rfl (fun _ => rfl) (Nat.le_of_ble_eq_true rfl) ⟨rfl, rfl⟩
                · replace hF := xg_t c576 hF
                  refine xy_r (xw_iconst (2) dM_comparison_92 (by decide)) ?_
                  refine xy_r (xw_goto 97 dM_comparison_93 (by decide)) ?_
                  refine xy_r (xw_istore_n dM_comparison_97 (Nat.le_of_ble_eq_true rfl)) ?_
                  refine xy_r (xw_Ln (L' := [some (.ref 2000), some (.ref (xn l1)), some (.int r457), some (.int 2)]) rfl) ?_
                  refine xy_r (xw_aload_n dM_comparison_98 rfl) ?_
                  refine xy_r (xw_dup_r dM_comparison_99) ?_
                  refine xy_r (xw_get dM_comparison_100 fM_221 rfl rfl) ?_
                  refine xy_r (xw_iload_n dM_comparison_103 rfl) ?_
                  refine xy_r (xw_iconst (1) dM_comparison_104 (by decide)) ?_
                  refine xy_r (fun k9 => xw_icmp_lt 117 dM_comparison_105 (by decide) (fun q => absurd q (show ¬ ((2 : Int32) < (1 : Int32)) by decide)) (fun _ => k9)) ?_
                  refine xy_r (xw_iload_n dM_comparison_108 rfl) ?_
                  refine xy_r (xw_iconst (3) dM_comparison_109 (by decide)) ?_
                  refine xy_r (fun k9 => xw_icmp_gt 117 dM_comparison_110 (by decide) (fun q => absurd q (show ¬ ((3 : Int32) < (2 : Int32)) by decide)) (fun _ => k9)) ?_
                  refine xy_r (xw_iconst (2) dM_comparison_113 (by decide)) ?_
                  refine xy_r (xw_goto 118 dM_comparison_114 (by decide)) ?_
                  refine xy_r (xw_iadd dM_comparison_118) ?_
                  refine xy_r (xg_put dM_comparison_119 fM_221 rfl (by decide) (Nat.le_of_ble_eq_true rfl) (fun _ => rfl) (fun _ => rfl) (mV_o (s' := (r454.1, (r454.2.1.1, (r454.2.1.2.1 + 2), r454.2.1.2.2), r454.2.2)) rfl)) ?_
                  refine xy_r (xw_aload_n dM_comparison_122 rfl) ?_
                  refine xy_r (xw_iload_n dM_comparison_123 rfl) ?_
                  refine xy_r (xw_aload_n dM_comparison_124 rfl) ?_
                  refine xy_r (xw_aload_n dM_comparison_125 rfl) ?_
                  rcases xg_o hF with ⟨r587, er587, hF⟩ | ⟨r587, er587, hF⟩
                  · have hm588 : m0 ≤ r587.2.2.2.1.2.2.2.2.2.2.1 ∧ n0 ≤ r587.2.2.2.1.2.2.2.2.2.2.2 := xy_le hm455 (show r454.2.2.1.2.2.2.2.2.2.1 ≤ r587.2.2.2.1.2.2.2.2.2.2.1 ∧ r454.2.2.1.2.2.2.2.2.2.2 ≤ r587.2.2.2.1.2.2.2.2.2.2.2 from ((hp.2.1 (h := h) hb (s := (r454.1, (r454.2.1.1, (r454.2.1.2.1 + 2), r454.2.1.2.2), r454.2.2)) er587)).1)
                    refine xy_V1 (nl := 2) (sm := r454.2.2.1.2.2.2.2.2.2.1) (sn := r454.2.2.1.2.2.2.2.2.2.2) (tm := r587.2.2.2.1.2.2.2.2.2.2.1) (tn := r587.2.2.2.1.2.2.2.2.2.2.2) (hp.2.1 hb (s := (r454.1, (r454.2.1.1, (r454.2.1.2.1 + 2), r454.2.1.2.2), r454.2.2)) er587) rfl rfl hm455 (fun _ => rfl) (fun _ => rfl) (fun _ => rfl) (fun _ => dM_comparison_126) (fun _ R => kM_261 R) (fun _ => rfl) ⟨by omega, by omega⟩ rfl rfl rfl (fun _ => rfl) (Nat.le_of_ble_eq_true rfl) ?_
                    obtain ⟨r590, er590, hF⟩ := xg_b hF
                    have hm591 : m0 ≤ r590.2.2.2.1.2.2.2.2.2.2.1 ∧ n0 ≤ r590.2.2.2.1.2.2.2.2.2.2.2 := xy_le hm588 (show r587.2.2.2.1.2.2.2.2.2.2.1 ≤ r590.2.2.2.1.2.2.2.2.2.2.1 ∧ r587.2.2.2.1.2.2.2.2.2.2.2 ≤ r590.2.2.2.1.2.2.2.2.2.2.2 from (CM_binary (w := w) (h := h) hb (s := r587.2) er590).1)
                    refine xy_V1 (nl := 5) (sm := r587.2.2.2.1.2.2.2.2.2.2.1) (sn := r587.2.2.2.1.2.2.2.2.2.2.2) (tm := r590.2.2.2.1.2.2.2.2.2.2.1) (tn := r590.2.2.2.1.2.2.2.2.2.2.2) (CM_binary hb (s := r587.2) er590) rfl rfl hm588 (fun _ => rfl) (fun _ => rfl) (fun _ => rfl) (fun _ => dM_comparison_129) (fun _ R => kM_267 R) (fun _ => rfl) ⟨by omega, by omega⟩ rfl rfl rfl (fun _ => rfl) (Nat.le_of_ble_eq_true rfl) ?_
                    refine xy_r (xw_astore_n dM_comparison_132 (Nat.le_of_ble_eq_true rfl)) ?_
                    refine xy_r (xw_Ln (L' := [some (.ref 2000), some (.ref (xn r590.1)), some (.int r457), some (.int 2)]) rfl) ?_
                    refine xy_r (xw_goto 5 dM_comparison_133 (by decide)) ?_
                    refine xy_r (xw_drop (L' := [some (.ref 2000), some (.ref (xn r590.1)), none, none]) ⟨rfl, ⟨rfl, trivial⟩⟩) ?_
                    exact ih (s := r590.2) hm591 hF
                  · subst hF
                    exact xy_Vt (nl := 2) (sm := r454.2.2.1.2.2.2.2.2.2.1) (sn := r454.2.2.1.2.2.2.2.2.2.2) (tm := r587.2.2.2.1.2.2.2.2.2.2.1) (tn := r587.2.2.2.1.2.2.2.2.2.2.2) (hp.2.1 hb (s := (r454.1, (r454.2.1.1, (r454.2.1.2.1 + 2), r454.2.1.2.2), r454.2.2)) er587) rfl rfl hm455 (fun _ => rfl) (fun _ => rfl) (fun _ => rfl) (fun _ => dM_comparison_126) (fun _ R => kM_261 R) (fun _ => rfl) ⟨by omega, by omega⟩ rfl rfl rfl (fun _ => rfl) (Nat.le_of_ble_eq_true rfl) ⟨rfl, rfl⟩
              · replace hF := xg_t c574 hF
                refine xy_r (xw_iconst (1) dM_comparison_78 (by decide)) ?_
                refine xy_r (xw_goto 97 dM_comparison_79 (by decide)) ?_
                refine xy_r (xw_istore_n dM_comparison_97 (Nat.le_of_ble_eq_true rfl)) ?_
                refine xy_r (xw_Ln (L' := [some (.ref 2000), some (.ref (xn l1)), some (.int r457), some (.int 1)]) rfl) ?_
                refine xy_r (xw_aload_n dM_comparison_98 rfl) ?_
                refine xy_r (xw_dup_r dM_comparison_99) ?_
                refine xy_r (xw_get dM_comparison_100 fM_221 rfl rfl) ?_
                refine xy_r (xw_iload_n dM_comparison_103 rfl) ?_
                refine xy_r (xw_iconst (1) dM_comparison_104 (by decide)) ?_
                refine xy_r (fun k9 => xw_icmp_lt 117 dM_comparison_105 (by decide) (fun q => absurd q (show ¬ ((1 : Int32) < (1 : Int32)) by decide)) (fun _ => k9)) ?_
                refine xy_r (xw_iload_n dM_comparison_108 rfl) ?_
                refine xy_r (xw_iconst (3) dM_comparison_109 (by decide)) ?_
                refine xy_r (fun k9 => xw_icmp_gt 117 dM_comparison_110 (by decide) (fun q => absurd q (show ¬ ((3 : Int32) < (1 : Int32)) by decide)) (fun _ => k9)) ?_
                refine xy_r (xw_iconst (2) dM_comparison_113 (by decide)) ?_
                refine xy_r (xw_goto 118 dM_comparison_114 (by decide)) ?_
                refine xy_r (xw_iadd dM_comparison_118) ?_
                refine xy_r (xg_put dM_comparison_119 fM_221 rfl (by decide) (Nat.le_of_ble_eq_true rfl) (fun _ => rfl) (fun _ => rfl) (mV_o (s' := (r454.1, (r454.2.1.1, (r454.2.1.2.1 + 2), r454.2.1.2.2), r454.2.2)) rfl)) ?_
                refine xy_r (xw_aload_n dM_comparison_122 rfl) ?_
                refine xy_r (xw_iload_n dM_comparison_123 rfl) ?_
                refine xy_r (xw_aload_n dM_comparison_124 rfl) ?_
                refine xy_r (xw_aload_n dM_comparison_125 rfl) ?_
                rcases xg_o hF with ⟨r595, er595, hF⟩ | ⟨r595, er595, hF⟩
                · have hm596 : m0 ≤ r595.2.2.2.1.2.2.2.2.2.2.1 ∧ n0 ≤ r595.2.2.2.1.2.2.2.2.2.2.2 := xy_le hm455 (show r454.2.2.1.2.2.2.2.2.2.1 ≤ r595.2.2.2.1.2.2.2.2.2.2.1 ∧ r454.2.2.1.2.2.2.2.2.2.2 ≤ r595.2.2.2.1.2.2.2.2.2.2.2 from ((hp.2.1 (h := h) hb (s := (r454.1, (r454.2.1.1, (r454.2.1.2.1 + 2), r454.2.1.2.2), r454.2.2)) er595)).1)
                  refine xy_V1 (nl := 2) (sm := r454.2.2.1.2.2.2.2.2.2.1) (sn := r454.2.2.1.2.2.2.2.2.2.2) (tm := r595.2.2.2.1.2.2.2.2.2.2.1) (tn := r595.2.2.2.1.2.2.2.2.2.2.2) (hp.2.1 hb (s := (r454.1, (r454.2.1.1, (r454.2.1.2.1 + 2), r454.2.1.2.2), r454.2.2)) er595) rfl rfl hm455 (fun _ => rfl) (fun _ => rfl) (fun _ => rfl) (fun _ => dM_comparison_126) (fun _ R => kM_261 R) (fun _ => rfl) ⟨by omega, by omega⟩ rfl rfl rfl (fun _ => rfl) (Nat.le_of_ble_eq_true rfl) ?_
                  obtain ⟨r598, er598, hF⟩ := xg_b hF
                  have hm599 : m0 ≤ r598.2.2.2.1.2.2.2.2.2.2.1 ∧ n0 ≤ r598.2.2.2.1.2.2.2.2.2.2.2 := xy_le hm596 (show r595.2.2.2.1.2.2.2.2.2.2.1 ≤ r598.2.2.2.1.2.2.2.2.2.2.1 ∧ r595.2.2.2.1.2.2.2.2.2.2.2 ≤ r598.2.2.2.1.2.2.2.2.2.2.2 from (CM_binary (w := w) (h := h) hb (s := r595.2) er598).1)
                  refine xy_V1 (nl := 5) (sm := r595.2.2.2.1.2.2.2.2.2.2.1) (sn := r595.2.2.2.1.2.2.2.2.2.2.2) (tm := r598.2.2.2.1.2.2.2.2.2.2.1) (tn := r598.2.2.2.1.2.2.2.2.2.2.2) (CM_binary hb (s := r595.2) er598) rfl rfl hm596 (fun _ => rfl) (fun _ => rfl) (fun _ => rfl) (fun _ => dM_comparison_129) (fun _ R => kM_267 R) (fun _ => rfl) ⟨by omega, by omega⟩ rfl rfl rfl (fun _ => rfl) (Nat.le_of_ble_eq_true rfl) ?_
                  refine xy_r (xw_astore_n dM_comparison_132 (Nat.le_of_ble_eq_true rfl)) ?_
                  refine xy_r (xw_Ln (L' := [some (.ref 2000), some (.ref (xn r598.1)), some (.int r457), some (.int 1)]) rfl) ?_
                  refine xy_r (xw_goto 5 dM_comparison_133 (by decide)) ?_
                  refine xy_r (xw_drop (L' := [some (.ref 2000), some (.ref (xn r598.1)), none, none]) ⟨rfl, ⟨rfl, trivial⟩⟩) ?_
                  exact ih (s := r598.2) hm599 hF
                · subst hF
                  exact xy_Vt (nl := 2) (sm := r454.2.2.1.2.2.2.2.2.2.1) (sn := r454.2.2.1.2.2.2.2.2.2.2) (tm := r595.2.2.2.1.2.2.2.2.2.2.1) (tn := r595.2.2.2.1.2.2.2.2.2.2.2) (hp.2.1 hb (s := (r454.1, (r454.2.1.1, (r454.2.1.2.1 + 2), r454.2.1.2.2), r454.2.2)) er595) rfl rfl hm455 (fun _ => rfl) (fun _ => rfl) (fun _ => rfl) (fun _ => dM_comparison_126) (fun _ R => kM_261 R) (fun _ => rfl) ⟨by omega, by omega⟩ rfl rfl rfl (fun _ => rfl) (Nat.le_of_ble_eq_true rfl) ⟨rfl, rfl⟩
            · replace hF := xg_t c572 hF
              refine xy_r (xw_aload_n dM_comparison_50 rfl) ?_
              refine xy_r (xw_iconst (1) dM_comparison_51 (by decide)) ?_
              obtain ⟨r601, er601, hF⟩ := xg_b hF
              refine xy_q (fun hq => xg_V1 (k1 := _) (n1 := _) (CM_look er601) rfl rfl rfl dM_comparison_52 (kM_264 _) (xZP (Nat.le_of_ble_eq_true rfl) (Nat.le_of_ble_eq_true rfl)) rfl rfl rfl rfl (Nat.le_of_ble_eq_true rfl) (Nat.le_refl _) (Nat.le_refl _) (Nat.sub_le_sub_right hq.1 _) (Nat.sub_le_sub_right hq.2 _)) ?_
              refine xy_r (xw_bipush (61) dM_comparison_55 (by decide)) ?_
              refine xy_brn (xw_icmp_ne 64 dM_comparison_57 (by decide)) (fun c602 => ?_) (fun c602 => ?_)
              · replace hF := xg_f c602 hF
                refine xy_r (xw_iconst (5) dM_comparison_64 (by decide)) ?_
                refine xy_r (xw_goto 97 dM_comparison_65 (by decide)) ?_
                refine xy_r (xw_istore_n dM_comparison_97 (Nat.le_of_ble_eq_true rfl)) ?_
                refine xy_r (xw_Ln (L' := [some (.ref 2000), some (.ref (xn l1)), some (.int r457), some (.int 5)]) rfl) ?_
                refine xy_r (xw_aload_n dM_comparison_98 rfl) ?_
                refine xy_r (xw_dup_r dM_comparison_99) ?_
                refine xy_r (xw_get dM_comparison_100 fM_221 rfl rfl) ?_
                refine xy_r (xw_iload_n dM_comparison_103 rfl) ?_
                refine xy_r (xw_iconst (1) dM_comparison_104 (by decide)) ?_
                refine xy_r (fun k9 => xw_icmp_lt 117 dM_comparison_105 (by decide) (fun q => absurd q (show ¬ ((5 : Int32) < (1 : Int32)) by decide)) (fun _ => k9)) ?_
                refine xy_r (xw_iload_n dM_comparison_108 rfl) ?_
                refine xy_r (xw_iconst (3) dM_comparison_109 (by decide)) ?_
                refine xy_r (fun k9 => xw_icmp_gt 117 dM_comparison_110 (by decide) (fun _ => k9) (fun q => absurd (show (3 : Int32) < (5 : Int32) by decide) q)) ?_
                refine xy_r (xw_iconst (1) dM_comparison_117 (by decide)) ?_
                refine xy_r (xw_iadd dM_comparison_118) ?_
                refine xy_r (xg_put dM_comparison_119 fM_221 rfl (by decide) (Nat.le_of_ble_eq_true rfl) (fun _ => rfl) (fun _ => rfl) (mV_o (s' := (r454.1, (r454.2.1.1, (r454.2.1.2.1 + 1), r454.2.1.2.2), r454.2.2)) rfl)) ?_
                refine xy_r (xw_aload_n dM_comparison_122 rfl) ?_
                refine xy_r (xw_iload_n dM_comparison_123 rfl) ?_
                refine xy_r (xw_aload_n dM_comparison_124 rfl) ?_
                refine xy_r (xw_aload_n dM_comparison_125 rfl) ?_
                rcases xg_o hF with ⟨r605, er605, hF⟩ | ⟨r605, er605, hF⟩
                · have hm606 : m0 ≤ r605.2.2.2.1.2.2.2.2.2.2.1 ∧ n0 ≤ r605.2.2.2.1.2.2.2.2.2.2.2 := xy_le hm455 (show r454.2.2.1.2.2.2.2.2.2.1 ≤ r605.2.2.2.1.2.2.2.2.2.2.1 ∧ r454.2.2.1.2.2.2.2.2.2.2 ≤ r605.2.2.2.1.2.2.2.2.2.2.2 from ((hp.2.1 (h := h) hb (s := (r454.1, (r454.2.1.1, (r454.2.1.2.1 + 1), r454.2.1.2.2), r454.2.2)) er605)).1)
                  refine xy_V1 (nl := 2) (sm := r454.2.2.1.2.2.2.2.2.2.1) (sn := r454.2.2.1.2.2.2.2.2.2.2) (tm := r605.2.2.2.1.2.2.2.2.2.2.1) (tn := r605.2.2.2.1.2.2.2.2.2.2.2) (hp.2.1 hb (s := (r454.1, (r454.2.1.1, (r454.2.1.2.1 + 1), r454.2.1.2.2), r454.2.2)) er605) rfl rfl hm455 (fun _ => rfl) (fun _ => rfl) (fun _ => rfl) (fun _ => dM_comparison_126) (fun _ R => kM_261 R) (fun _ => rfl) ⟨by omega, by omega⟩ rfl rfl rfl (fun _ => rfl) (Nat.le_of_ble_eq_true rfl) ?_
                  obtain ⟨r608, er608, hF⟩ := xg_b hF
                  have hm609 : m0 ≤ r608.2.2.2.1.2.2.2.2.2.2.1 ∧ n0 ≤ r608.2.2.2.1.2.2.2.2.2.2.2 := xy_le hm606 (show r605.2.2.2.1.2.2.2.2.2.2.1 ≤ r608.2.2.2.1.2.2.2.2.2.2.1 ∧ r605.2.2.2.1.2.2.2.2.2.2.2 ≤ r608.2.2.2.1.2.2.2.2.2.2.2 from (CM_binary (w := w) (h := h) hb (s := r605.2) er608).1)
                  refine xy_V1 (nl := 5) (sm := r605.2.2.2.1.2.2.2.2.2.2.1) (sn := r605.2.2.2.1.2.2.2.2.2.2.2) (tm := r608.2.2.2.1.2.2.2.2.2.2.1) (tn := r608.2.2.2.1.2.2.2.2.2.2.2) (CM_binary hb (s := r605.2) er608) rfl rfl hm606 (fun _ => rfl) (fun _ => rfl) (fun _ => rfl) (fun _ => dM_comparison_129) (fun _ R => kM_267 R) (fun _ => rfl) ⟨by omega, by omega⟩ rfl rfl rfl (fun _ => rfl) (Nat.le_of_ble_eq_true rfl) ?_
                  refine xy_r (xw_astore_n dM_comparison_132 (Nat.le_of_ble_eq_true rfl)) ?_
                  refine xy_r (xw_Ln (L' := [some (.ref 2000), some (.ref (xn r608.1)), some (.int r457), some (.int 5)]) rfl) ?_
                  refine xy_r (xw_goto 5 dM_comparison_133 (by decide)) ?_
                  refine xy_r (xw_drop (L' := [some (.ref 2000), some (.ref (xn r608.1)), none, none]) ⟨rfl, ⟨rfl, trivial⟩⟩) ?_
                  exact ih (s := r608.2) hm609 hF
                · subst hF
                  exact xy_Vt (nl := 2) (sm := r454.2.2.1.2.2.2.2.2.2.1) (sn := r454.2.2.1.2.2.2.2.2.2.2) (tm := r605.2.2.2.1.2.2.2.2.2.2.1) (tn := r605.2.2.2.1.2.2.2.2.2.2.2) (hp.2.1 hb (s := (r454.1, (r454.2.1.1, (r454.2.1.2.1 + 1), r454.2.1.2.2), r454.2.2)) er605) rfl rfl hm455 (fun _ => rfl) (fun _ => rfl) (fun _ => rfl) (fun _ => dM_comparison_126) (fun _ R => kM_261 R) (fun _ => rfl) ⟨by omega, by omega⟩ rfl rfl rfl (fun _ => rfl) (Nat.le_of_ble_eq_true rfl) ⟨rfl, rfl⟩
              · replace hF := xg_t c602 hF
                refine xy_r (xw_iconst (3) dM_comparison_60 (by decide)) ?_
                refine xy_r (xw_goto 97 dM_comparison_61 (by decide)) ?_
                refine xy_r (xw_istore_n dM_comparison_97 (Nat.le_of_ble_eq_true rfl)) ?_
                refine xy_r (xw_Ln (L' := [some (.ref 2000), some (.ref (xn l1)), some (.int r457), some (.int 3)]) rfl) ?_
                refine xy_r (xw_aload_n dM_comparison_98 rfl) ?_
                refine xy_r (xw_dup_r dM_comparison_99) ?_
                refine xy_r (xw_get dM_comparison_100 fM_221 rfl rfl) ?_
                refine xy_r (xw_iload_n dM_comparison_103 rfl) ?_
                refine xy_r (xw_iconst (1) dM_comparison_104 (by decide)) ?_
                refine xy_r (fun k9 => xw_icmp_lt 117 dM_comparison_105 (by decide) (fun q => absurd q (show ¬ ((3 : Int32) < (1 : Int32)) by decide)) (fun _ => k9)) ?_
                refine xy_r (xw_iload_n dM_comparison_108 rfl) ?_
                refine xy_r (xw_iconst (3) dM_comparison_109 (by decide)) ?_
                refine xy_r (fun k9 => xw_icmp_gt 117 dM_comparison_110 (by decide) (fun q => absurd q (show ¬ ((3 : Int32) < (3 : Int32)) by decide)) (fun _ => k9)) ?_
                refine xy_r (xw_iconst (2) dM_comparison_113 (by decide)) ?_
                refine xy_r (xw_goto 118 dM_comparison_114 (by decide)) ?_
                refine xy_r (xw_iadd dM_comparison_118) ?_
                refine xy_r (xg_put dM_comparison_119 fM_221 rfl (by decide) (Nat.le_of_ble_eq_true rfl) (fun _ => rfl) (fun _ => rfl) (mV_o (s' := (r454.1, (r454.2.1.1, (r454.2.1.2.1 + 2), r454.2.1.2.2), r454.2.2)) rfl)) ?_
                refine xy_r (xw_aload_n dM_comparison_122 rfl) ?_
                refine xy_r (xw_iload_n dM_comparison_123 rfl) ?_
                refine xy_r (xw_aload_n dM_comparison_124 rfl) ?_
                refine xy_r (xw_aload_n dM_comparison_125 rfl) ?_
                rcases xg_o hF with ⟨r613, er613, hF⟩ | ⟨r613, er613, hF⟩
                · have hm614 : m0 ≤ r613.2.2.2.1.2.2.2.2.2.2.1 ∧ n0 ≤ r613.2.2.2.1.2.2.2.2.2.2.2 := xy_le hm455 (show r454.2.2.1.2.2.2.2.2.2.1 ≤ r613.2.2.2.1.2.2.2.2.2.2.1 ∧ r454.2.2.1.2.2.2.2.2.2.2 ≤ r613.2.2.2.1.2.2.2.2.2.2.2 from ((hp.2.1 (h := h) hb (s := (r454.1, (r454.2.1.1, (r454.2.1.2.1 + 2), r454.2.1.2.2), r454.2.2)) er613)).1)
                  refine xy_V1 (nl := 2) (sm := r454.2.2.1.2.2.2.2.2.2.1) (sn := r454.2.2.1.2.2.2.2.2.2.2) (tm := r613.2.2.2.1.2.2.2.2.2.2.1) (tn := r613.2.2.2.1.2.2.2.2.2.2.2) (hp.2.1 hb (s := (r454.1, (r454.2.1.1, (r454.2.1.2.1 + 2), r454.2.1.2.2), r454.2.2)) er613) rfl rfl hm455 (fun _ => rfl) (fun _ => rfl) (fun _ => rfl) (fun _ => dM_comparison_126) (fun _ R => kM_261 R) (fun _ => rfl) ⟨by omega, by omega⟩ rfl rfl rfl (fun _ => rfl) (Nat.le_of_ble_eq_true rfl) ?_
                  obtain ⟨r616, er616, hF⟩ := xg_b hF
                  have hm617 : m0 ≤ r616.2.2.2.1.2.2.2.2.2.2.1 ∧ n0 ≤ r616.2.2.2.1.2.2.2.2.2.2.2 := xy_le hm614 (show r613.2.2.2.1.2.2.2.2.2.2.1 ≤ r616.2.2.2.1.2.2.2.2.2.2.1 ∧ r613.2.2.2.1.2.2.2.2.2.2.2 ≤ r616.2.2.2.1.2.2.2.2.2.2.2 from (CM_binary (w := w) (h := h) hb (s := r613.2) er616).1)
                  refine xy_V1 (nl := 5) (sm := r613.2.2.2.1.2.2.2.2.2.2.1) (sn := r613.2.2.2.1.2.2.2.2.2.2.2) (tm := r616.2.2.2.1.2.2.2.2.2.2.1) (tn := r616.2.2.2.1.2.2.2.2.2.2.2) (CM_binary hb (s := r613.2) er616) rfl rfl hm614 (fun _ => rfl) (fun _ => rfl) (fun _ => rfl) (fun _ => dM_comparison_129) (fun _ R => kM_267 R) (fun _ => rfl) ⟨by omega, by omega⟩ rfl rfl rfl (fun _ => rfl) (Nat.le_of_ble_eq_true rfl) ?_
                  refine xy_r (xw_astore_n dM_comparison_132 (Nat.le_of_ble_eq_true rfl)) ?_
                  refine xy_r (xw_Ln (L' := [some (.ref 2000), some (.ref (xn r616.1)), some (.int r457), some (.int 3)]) rfl) ?_
                  refine xy_r (xw_goto 5 dM_comparison_133 (by decide)) ?_
                  refine xy_r (xw_drop (L' := [some (.ref 2000), some (.ref (xn r616.1)), none, none]) ⟨rfl, ⟨rfl, trivial⟩⟩) ?_
                  exact ih (s := r616.2) hm617 hF
                · subst hF
                  exact xy_Vt (nl := 2) (sm := r454.2.2.1.2.2.2.2.2.2.1) (sn := r454.2.2.1.2.2.2.2.2.2.2) (tm := r613.2.2.2.1.2.2.2.2.2.2.1) (tn := r613.2.2.2.1.2.2.2.2.2.2.2) (hp.2.1 hb (s := (r454.1, (r454.2.1.1, (r454.2.1.2.1 + 2), r454.2.1.2.2), r454.2.2)) er613) rfl rfl hm455 (fun _ => rfl) (fun _ => rfl) (fun _ => rfl) (fun _ => dM_comparison_126) (fun _ R => kM_261 R) (fun _ => rfl) ⟨by omega, by omega⟩ rfl rfl rfl (fun _ => rfl) (Nat.le_of_ble_eq_true rfl) ⟨rfl, rfl⟩
          · replace hF := xg_t c571 hF
            refine xy_r (xw_iconst (0) dM_comparison_40 (by decide)) ?_
            refine xy_r (xw_goto 97 dM_comparison_41 (by decide)) ?_
            refine xy_r (xw_istore_n dM_comparison_97 (Nat.le_of_ble_eq_true rfl)) ?_
            refine xy_r (xw_Ln (L' := [some (.ref 2000), some (.ref (xn l1)), some (.int r457), some (.int 0)]) rfl) ?_
            refine xy_r (xw_aload_n dM_comparison_98 rfl) ?_
            refine xy_r (xw_dup_r dM_comparison_99) ?_
            refine xy_r (xw_get dM_comparison_100 fM_221 rfl rfl) ?_
            refine xy_r (xw_iload_n dM_comparison_103 rfl) ?_
            refine xy_r (xw_iconst (1) dM_comparison_104 (by decide)) ?_
            refine xy_r (fun k9 => xw_icmp_lt 117 dM_comparison_105 (by decide) (fun _ => k9) (fun q => absurd (show (0 : Int32) < (1 : Int32) by decide) q)) ?_
            refine xy_r (xw_iconst (1) dM_comparison_117 (by decide)) ?_
            refine xy_r (xw_iadd dM_comparison_118) ?_
            refine xy_r (xg_put dM_comparison_119 fM_221 rfl (by decide) (Nat.le_of_ble_eq_true rfl) (fun _ => rfl) (fun _ => rfl) (mV_o (s' := (r454.1, (r454.2.1.1, (r454.2.1.2.1 + 1), r454.2.1.2.2), r454.2.2)) rfl)) ?_
            refine xy_r (xw_aload_n dM_comparison_122 rfl) ?_
            refine xy_r (xw_iload_n dM_comparison_123 rfl) ?_
            refine xy_r (xw_aload_n dM_comparison_124 rfl) ?_
            refine xy_r (xw_aload_n dM_comparison_125 rfl) ?_
            rcases xg_o hF with ⟨r620, er620, hF⟩ | ⟨r620, er620, hF⟩
            · have hm621 : m0 ≤ r620.2.2.2.1.2.2.2.2.2.2.1 ∧ n0 ≤ r620.2.2.2.1.2.2.2.2.2.2.2 := xy_le hm455 (show r454.2.2.1.2.2.2.2.2.2.1 ≤ r620.2.2.2.1.2.2.2.2.2.2.1 ∧ r454.2.2.1.2.2.2.2.2.2.2 ≤ r620.2.2.2.1.2.2.2.2.2.2.2 from ((hp.2.1 (h := h) hb (s := (r454.1, (r454.2.1.1, (r454.2.1.2.1 + 1), r454.2.1.2.2), r454.2.2)) er620)).1)
              refine xy_V1 (nl := 2) (sm := r454.2.2.1.2.2.2.2.2.2.1) (sn := r454.2.2.1.2.2.2.2.2.2.2) (tm := r620.2.2.2.1.2.2.2.2.2.2.1) (tn := r620.2.2.2.1.2.2.2.2.2.2.2) (hp.2.1 hb (s := (r454.1, (r454.2.1.1, (r454.2.1.2.1 + 1), r454.2.1.2.2), r454.2.2)) er620) rfl rfl hm455 (fun _ => rfl) (fun _ => rfl) (fun _ => rfl) (fun _ => dM_comparison_126) (fun _ R => kM_261 R) (fun _ => rfl) ⟨by omega, by omega⟩ rfl rfl rfl (fun _ => rfl) (Nat.le_of_ble_eq_true rfl) ?_
              obtain ⟨r623, er623, hF⟩ := xg_b hF
              have hm624 : m0 ≤ r623.2.2.2.1.2.2.2.2.2.2.1 ∧ n0 ≤ r623.2.2.2.1.2.2.2.2.2.2.2 := xy_le hm621 (show r620.2.2.2.1.2.2.2.2.2.2.1 ≤ r623.2.2.2.1.2.2.2.2.2.2.1 ∧ r620.2.2.2.1.2.2.2.2.2.2.2 ≤ r623.2.2.2.1.2.2.2.2.2.2.2 from (CM_binary (w := w) (h := h) hb (s := r620.2) er623).1)
              refine xy_V1 (nl := 5) (sm := r620.2.2.2.1.2.2.2.2.2.2.1) (sn := r620.2.2.2.1.2.2.2.2.2.2.2) (tm := r623.2.2.2.1.2.2.2.2.2.2.1) (tn := r623.2.2.2.1.2.2.2.2.2.2.2) (CM_binary hb (s := r620.2) er623) rfl rfl hm621 (fun _ => rfl) (fun _ => rfl) (fun _ => rfl) (fun _ => dM_comparison_129) (fun _ R => kM_267 R) (fun _ => rfl) ⟨by omega, by omega⟩ rfl rfl rfl (fun _ => rfl) (Nat.le_of_ble_eq_true rfl) ?_
              refine xy_r (xw_astore_n dM_comparison_132 (Nat.le_of_ble_eq_true rfl)) ?_
              refine xy_r (xw_Ln (L' := [some (.ref 2000), some (.ref (xn r623.1)), some (.int r457), some (.int 0)]) rfl) ?_
              refine xy_r (xw_goto 5 dM_comparison_133 (by decide)) ?_
              refine xy_r (xw_drop (L' := [some (.ref 2000), some (.ref (xn r623.1)), none, none]) ⟨rfl, ⟨rfl, trivial⟩⟩) ?_
              exact ih (s := r623.2) hm624 hF
            · subst hF
              exact xy_Vt (nl := 2) (sm := r454.2.2.1.2.2.2.2.2.2.1) (sn := r454.2.2.1.2.2.2.2.2.2.2) (tm := r620.2.2.2.1.2.2.2.2.2.2.1) (tn := r620.2.2.2.1.2.2.2.2.2.2.2) (hp.2.1 hb (s := (r454.1, (r454.2.1.1, (r454.2.1.2.1 + 1), r454.2.1.2.2), r454.2.2)) er620) rfl rfl hm455 (fun _ => rfl) (fun _ => rfl) (fun _ => rfl) (fun _ => dM_comparison_126) (fun _ R => kM_261 R) (fun _ => rfl) ⟨by omega, by omega⟩ rfl rfl rfl (fun _ => rfl) (Nat.le_of_ble_eq_true rfl) ⟨rfl, rfl⟩
        · replace hF := xg_f c570 hF
          refine xy_r (xw_aload_n dM_comparison_32 rfl) ?_
          obtain rfl := Option.some.inj hF
          exact xy_end (xw_areturn dM_comparison_33 rfl (Or.inl ⟨_, rfl⟩) (Nat.le_refl _) (Nat.le_refl _) ⟨rfl, rfl⟩)
set_option maxRecDepth 20000 in
theorem CM_comparison {w : xw_G} {p : xTP} {d : Nat} (hp : xKP w p d) {h : xw_H} (hb : xMb h)  {s : xMs} {out : (xo Nat xMs)} (hF : FM_comparison p  s = some out) : (s.2.2.1.2.2.2.2.2.2.1 ≤ (xo_s out).2.2.1.2.2.2.2.2.2.1 ∧ s.2.2.1.2.2.2.2.2.2.2 ≤ (xo_s out).2.2.1.2.2.2.2.2.2.2) ∧ xw_C w (mM_comparison { frames := (d + 1 + 20), cells := (xo_s out).2.2.1.2.2.2.2.2.2.1 - s.2.2.1.2.2.2.2.2.2.1, slots := (xo_s out).2.2.1.2.2.2.2.2.2.2 - s.2.2.1.2.2.2.2.2.2.2, locals := (60 * (d + 1) + 600) }) (xo_P (fun x => some (.ref (xn x))) (fun s => mV s h) out) [.ref 2000] (mV s h) := by
  unfold FM_comparison at hF
  refine xy_enter (L := [some (.ref 2000), none, none, none]) (fun _ => rfl) (fun _ => rfl) (fun _ => (show plainName "FormulaShaperModel" = true by decide +kernel)) (fun _ => (Nat.le_of_ble_eq_true rfl)) (fun _ => rfl) ?_
  have hm : s.2.2.1.2.2.2.2.2.2.1 ≤ s.2.2.1.2.2.2.2.2.2.1 ∧ s.2.2.1.2.2.2.2.2.2.2 ≤ s.2.2.1.2.2.2.2.2.2.2 := ⟨Nat.le_refl _, Nat.le_refl _⟩
  refine xy_r (xw_aload_n dM_comparison_0 rfl) ?_
  rcases xg_o hF with ⟨r451, er451, hF⟩ | ⟨r451, er451, hF⟩
  · have hm452 : s.2.2.1.2.2.2.2.2.2.1 ≤ r451.2.2.2.1.2.2.2.2.2.2.1 ∧ s.2.2.1.2.2.2.2.2.2.2 ≤ r451.2.2.2.1.2.2.2.2.2.2.2 := xy_le hm (show s.2.2.1.2.2.2.2.2.2.1 ≤ r451.2.2.2.1.2.2.2.2.2.2.1 ∧ s.2.2.1.2.2.2.2.2.2.2 ≤ r451.2.2.2.1.2.2.2.2.2.2.2 from ((hp.2.1 (h := h) hb (s := s) er451)).1)
    refine xy_V1 (nl := 2) (sm := s.2.2.1.2.2.2.2.2.2.1) (sn := s.2.2.1.2.2.2.2.2.2.2) (tm := r451.2.2.2.1.2.2.2.2.2.2.1) (tn := r451.2.2.2.1.2.2.2.2.2.2.2) (hp.2.1 hb (s := s) er451) rfl rfl hm (fun _ => rfl) (fun _ => rfl) (fun _ => rfl) (fun _ => dM_comparison_1) (fun _ R => kM_261 R) (fun _ => rfl) ⟨by omega, by omega⟩ rfl rfl rfl (fun _ => rfl) (Nat.le_of_ble_eq_true rfl) ?_
    refine xy_r (xw_astore_n dM_comparison_4 (Nat.le_of_ble_eq_true rfl)) ?_
    refine xy_r (xw_Ln (L' := [some (.ref 2000), some (.ref (xn r451.1)), none, none]) rfl) ?_
    exact CM_comparison_5 (hp := hp) hb xFuel (s := r451.2) hm452 hF
  · subst hF
    exact xy_Vt (nl := 2) (sm := s.2.2.1.2.2.2.2.2.2.1) (sn := s.2.2.1.2.2.2.2.2.2.2) (tm := r451.2.2.2.1.2.2.2.2.2.2.1) (tn := r451.2.2.2.1.2.2.2.2.2.2.2) (hp.2.1 hb (s := s) er451) rfl rfl hm (fun _ => rfl) (fun _ => rfl) (fun _ => rfl) (fun _ => dM_comparison_1) (fun _ R => kM_261 R) (fun _ => rfl) ⟨by omega, by omega⟩ rfl rfl rfl (fun _ => rfl) (Nat.le_of_ble_eq_true rfl) ⟨rfl, rfl⟩
def FM_joined_5 (p : xTP) : Nat → Nat → xMs → Option (xo Nat xMs)
  | 0, _, _ => none
  | fu + 1, l1, s => (FM_next 38 s).bind fun r629 => if r629.1 = true then (xo_b (p.2.2.1 (r629.2.1, (r629.2.2.1.1, (r629.2.2.1.2.1 + 1), r629.2.2.1.2.2), r629.2.2.2)) fun r633 => (FM_binary 6 l1 r633.1 r633.2).bind fun r636 => FM_joined_5 p fu r636.1 r636.2) else (some (.inl (l1, r629.2)))
/-- FormulaShaperModel.joined -/
def FM_joined (p : xTP)  (s : xMs) : Option (xo Nat xMs) := xo_b (p.2.2.1 s) fun r626 => FM_joined_5 p xFuel r626.1 r626.2
set_option maxRecDepth 20000 in
theorem CM_joined_5 {w : xw_G} {p : xTP} {d : Nat} (hp : xKP w p d) {h : xw_H} (hb : xMb h)  : ∀ (fu : Nat) {l1 : Nat} {s : xMs} {out : (xo Nat xMs)} {h0 : xw_H} {m0 n0 : Nat} (hm : m0 ≤ s.2.2.1.2.2.2.2.2.2.1 ∧ n0 ≤ s.2.2.1.2.2.2.2.2.2.2), FM_joined_5 p fu l1 s = some out → xw_Y w mM_joined (d + 1 + 20) (60 * (d + 1) + 600) (xo_P (fun x => some (.ref (xn x))) (fun s => mV s h) out) h0 m0 n0 s.2.2.1.2.2.2.2.2.2.1 s.2.2.1.2.2.2.2.2.2.2 (xo_s out).2.2.1.2.2.2.2.2.2.1 (xo_s out).2.2.1.2.2.2.2.2.2.2 5 [some (.ref 2000), some (.ref (xn l1))] [] (mV s h) := by
  intro fu
  induction fu with
  | zero =>
    intro l1 s out h0 m0 n0 hm hF
    rw [FM_joined_5] at hF
    cases hF
  | succ fu ih =>
    intro l1 s out h0 m0 n0 hm hF
    rw [FM_joined_5] at hF
    refine xy_r (xw_aload_n dM_joined_5 rfl) ?_
    refine xy_r (xw_bipush (38) dM_joined_6 (by decide)) ?_
    obtain ⟨r629, er629, hF⟩ := xg_b hF
    have hm630 : m0 ≤ r629.2.2.2.1.2.2.2.2.2.2.1 ∧ n0 ≤ r629.2.2.2.1.2.2.2.2.2.2.2 := xy_le hm (show s.2.2.1.2.2.2.2.2.2.1 ≤ r629.2.2.2.1.2.2.2.2.2.2.1 ∧ s.2.2.1.2.2.2.2.2.2.2 ≤ r629.2.2.2.1.2.2.2.2.2.2.2 from (CM_next (w := w) (h := h) hb (s := s) er629).1)
    refine xy_V1 (nl := 2) (sm := s.2.2.1.2.2.2.2.2.2.1) (sn := s.2.2.1.2.2.2.2.2.2.2) (tm := r629.2.2.2.1.2.2.2.2.2.2.1) (tn := r629.2.2.2.1.2.2.2.2.2.2.2) (CM_next hb (s := s) er629) rfl rfl hm (fun _ => rfl) (fun _ => rfl) (fun _ => rfl) (fun _ => dM_joined_8) (fun _ R => kM_236 R) (fun _ => rfl) ⟨by omega, by omega⟩ rfl rfl rfl (fun _ => rfl) (Nat.le_of_ble_eq_true rfl) ?_
    refine xy_brn (xw_if_eqB 39 dM_joined_11 (by decide)) (fun c632 => ?_) (fun c632 => ?_)
    · replace hF := xg_f c632 hF
      refine xy_r (xw_aload_n dM_joined_39 rfl) ?_
      obtain rfl := Option.some.inj hF
      exact xy_end (xw_areturn dM_joined_40 rfl (Or.inl ⟨_, rfl⟩) (Nat.le_refl _) (Nat.le_refl _) ⟨rfl, rfl⟩)
    · replace hF := xg_t c632 hF
      refine xy_r (xw_aload_n dM_joined_14 rfl) ?_
      refine xy_r (xw_dup_r dM_joined_15) ?_
      refine xy_r (xw_get dM_joined_16 fM_221 rfl rfl) ?_
      refine xy_r (xw_iconst (1) dM_joined_19 (by decide)) ?_
      refine xy_r (xw_iadd dM_joined_20) ?_
      refine xy_r (xg_put dM_joined_21 fM_221 rfl (by decide) (Nat.le_of_ble_eq_true rfl) (fun _ => rfl) (fun _ => rfl) (mV_o (s' := (r629.2.1, (r629.2.2.1.1, (r629.2.2.1.2.1 + 1), r629.2.2.1.2.2), r629.2.2.2)) rfl)) ?_
      refine xy_r (xw_aload_n dM_joined_24 rfl) ?_
      refine xy_r (xw_bipush (6) dM_joined_25 (by decide)) ?_
      refine xy_r (xw_aload_n dM_joined_27 rfl) ?_
      refine xy_r (xw_aload_n dM_joined_28 rfl) ?_
      rcases xg_o hF with ⟨r633, er633, hF⟩ | ⟨r633, er633, hF⟩
      · have hm634 : m0 ≤ r633.2.2.2.1.2.2.2.2.2.2.1 ∧ n0 ≤ r633.2.2.2.1.2.2.2.2.2.2.2 := xy_le hm630 (show r629.2.2.2.1.2.2.2.2.2.2.1 ≤ r633.2.2.2.1.2.2.2.2.2.2.1 ∧ r629.2.2.2.1.2.2.2.2.2.2.2 ≤ r633.2.2.2.1.2.2.2.2.2.2.2 from ((hp.2.2.1 (h := h) hb (s := (r629.2.1, (r629.2.2.1.1, (r629.2.2.1.2.1 + 1), r629.2.2.1.2.2), r629.2.2.2)) er633)).1)
        refine xy_V1 (nl := 3) (sm := r629.2.2.2.1.2.2.2.2.2.2.1) (sn := r629.2.2.2.1.2.2.2.2.2.2.2) (tm := r633.2.2.2.1.2.2.2.2.2.2.1) (tn := r633.2.2.2.1.2.2.2.2.2.2.2) (hp.2.2.1 hb (s := (r629.2.1, (r629.2.2.1.1, (r629.2.2.1.2.1 + 1), r629.2.2.1.2.2), r629.2.2.2)) er633) rfl rfl hm630 (fun _ => rfl) (fun _ => rfl) (fun _ => rfl) (fun _ => dM_joined_29) (fun _ R => kM_271 R) (fun _ => rfl) ⟨by omega, by omega⟩ rfl rfl rfl (fun _ => rfl) (Nat.le_of_ble_eq_true rfl) ?_
        obtain ⟨r636, er636, hF⟩ := xg_b hF
        have hm637 : m0 ≤ r636.2.2.2.1.2.2.2.2.2.2.1 ∧ n0 ≤ r636.2.2.2.1.2.2.2.2.2.2.2 := xy_le hm634 (show r633.2.2.2.1.2.2.2.2.2.2.1 ≤ r636.2.2.2.1.2.2.2.2.2.2.1 ∧ r633.2.2.2.1.2.2.2.2.2.2.2 ≤ r636.2.2.2.1.2.2.2.2.2.2.2 from (CM_binary (w := w) (h := h) hb (s := r633.2) er636).1)
        refine xy_V1 (nl := 5) (sm := r633.2.2.2.1.2.2.2.2.2.2.1) (sn := r633.2.2.2.1.2.2.2.2.2.2.2) (tm := r636.2.2.2.1.2.2.2.2.2.2.1) (tn := r636.2.2.2.1.2.2.2.2.2.2.2) (CM_binary hb (s := r633.2) er636) rfl rfl hm634 (fun _ => rfl) (fun _ => rfl) (fun _ => rfl) (fun _ => dM_joined_32) (fun _ R => kM_267 R) (fun _ => rfl) ⟨by omega, by omega⟩ rfl rfl rfl (fun _ => rfl) (Nat.le_of_ble_eq_true rfl) ?_
        refine xy_r (xw_astore_n dM_joined_35 (Nat.le_of_ble_eq_true rfl)) ?_
        refine xy_r (xw_Ln (L' := [some (.ref 2000), some (.ref (xn r636.1))]) rfl) ?_
        refine xy_r (xw_goto 5 dM_joined_36 (by decide)) ?_
        exact ih (s := r636.2) hm637 hF
      · subst hF
        exact xy_Vt (nl := 3) (sm := r629.2.2.2.1.2.2.2.2.2.2.1) (sn := r629.2.2.2.1.2.2.2.2.2.2.2) (tm := r633.2.2.2.1.2.2.2.2.2.2.1) (tn := r633.2.2.2.1.2.2.2.2.2.2.2) (hp.2.2.1 hb (s := (r629.2.1, (r629.2.2.1.1, (r629.2.2.1.2.1 + 1), r629.2.2.1.2.2), r629.2.2.2)) er633) rfl rfl hm630 (fun _ => rfl) (fun _ => rfl) (fun _ => rfl) (fun _ => dM_joined_29) (fun _ R => kM_271 R) (fun _ => rfl) ⟨by omega, by omega⟩ rfl rfl rfl (fun _ => rfl) (Nat.le_of_ble_eq_true rfl) ⟨rfl, rfl⟩
set_option maxRecDepth 20000 in
theorem CM_joined {w : xw_G} {p : xTP} {d : Nat} (hp : xKP w p d) {h : xw_H} (hb : xMb h)  {s : xMs} {out : (xo Nat xMs)} (hF : FM_joined p  s = some out) : (s.2.2.1.2.2.2.2.2.2.1 ≤ (xo_s out).2.2.1.2.2.2.2.2.2.1 ∧ s.2.2.1.2.2.2.2.2.2.2 ≤ (xo_s out).2.2.1.2.2.2.2.2.2.2) ∧ xw_C w (mM_joined { frames := (d + 1 + 20), cells := (xo_s out).2.2.1.2.2.2.2.2.2.1 - s.2.2.1.2.2.2.2.2.2.1, slots := (xo_s out).2.2.1.2.2.2.2.2.2.2 - s.2.2.1.2.2.2.2.2.2.2, locals := (60 * (d + 1) + 600) }) (xo_P (fun x => some (.ref (xn x))) (fun s => mV s h) out) [.ref 2000] (mV s h) := by
  unfold FM_joined at hF
  refine xy_enter (L := [some (.ref 2000), none]) (fun _ => rfl) (fun _ => rfl) (fun _ => (show plainName "FormulaShaperModel" = true by decide +kernel)) (fun _ => (Nat.le_of_ble_eq_true rfl)) (fun _ => rfl) ?_
  have hm : s.2.2.1.2.2.2.2.2.2.1 ≤ s.2.2.1.2.2.2.2.2.2.1 ∧ s.2.2.1.2.2.2.2.2.2.2 ≤ s.2.2.1.2.2.2.2.2.2.2 := ⟨Nat.le_refl _, Nat.le_refl _⟩
  refine xy_r (xw_aload_n dM_joined_0 rfl) ?_
  rcases xg_o hF with ⟨r626, er626, hF⟩ | ⟨r626, er626, hF⟩
  · have hm627 : s.2.2.1.2.2.2.2.2.2.1 ≤ r626.2.2.2.1.2.2.2.2.2.2.1 ∧ s.2.2.1.2.2.2.2.2.2.2 ≤ r626.2.2.2.1.2.2.2.2.2.2.2 := xy_le hm (show s.2.2.1.2.2.2.2.2.2.1 ≤ r626.2.2.2.1.2.2.2.2.2.2.1 ∧ s.2.2.1.2.2.2.2.2.2.2 ≤ r626.2.2.2.1.2.2.2.2.2.2.2 from ((hp.2.2.1 (h := h) hb (s := s) er626)).1)
    refine xy_V1 (nl := 3) (sm := s.2.2.1.2.2.2.2.2.2.1) (sn := s.2.2.1.2.2.2.2.2.2.2) (tm := r626.2.2.2.1.2.2.2.2.2.2.1) (tn := r626.2.2.2.1.2.2.2.2.2.2.2) (hp.2.2.1 hb (s := s) er626) rfl rfl hm (fun _ => rfl) (fun _ => rfl) (fun _ => rfl) (fun _ => dM_joined_1) (fun _ R => kM_271 R) (fun _ => rfl) ⟨by omega, by omega⟩ rfl rfl rfl (fun _ => rfl) (Nat.le_of_ble_eq_true rfl) ?_
    refine xy_r (xw_astore_n dM_joined_4 (Nat.le_of_ble_eq_true rfl)) ?_
    refine xy_r (xw_Ln (L' := [some (.ref 2000), some (.ref (xn r626.1))]) rfl) ?_
    exact CM_joined_5 (hp := hp) hb xFuel (s := r626.2) hm627 hF
  · subst hF
    exact xy_Vt (nl := 3) (sm := s.2.2.1.2.2.2.2.2.2.1) (sn := s.2.2.1.2.2.2.2.2.2.2) (tm := r626.2.2.2.1.2.2.2.2.2.2.1) (tn := r626.2.2.2.1.2.2.2.2.2.2.2) (hp.2.2.1 hb (s := s) er626) rfl rfl hm (fun _ => rfl) (fun _ => rfl) (fun _ => rfl) (fun _ => dM_joined_1) (fun _ R => kM_271 R) (fun _ => rfl) ⟨by omega, by omega⟩ rfl rfl rfl (fun _ => rfl) (Nat.le_of_ble_eq_true rfl) ⟨rfl, rfl⟩
def FM_sum_5 (p : xTP) : Nat → Nat → xMs → Option (xo Nat xMs)
  | 0, _, _ => none
  | fu + 1, l1, s => (FM_next 43 s).bind fun r642 => if r642.1 = true then ((FM_peek r642.2).bind fun r646 => if r646 = 43 then (xo_b (p.2.2.2.1 (r642.2.1, (r642.2.2.1.1, (r642.2.2.1.2.1 + 1), r642.2.2.1.2.2), r642.2.2.2)) fun r654 => (FM_binary 7 l1 r654.1 r654.2).bind fun r657 => FM_sum_5 p fu r657.1 r657.2) else (xo_b (p.2.2.2.1 (r642.2.1, (r642.2.2.1.1, (r642.2.2.1.2.1 + 1), r642.2.2.1.2.2), r642.2.2.2)) fun r648 => (FM_binary 8 l1 r648.1 r648.2).bind fun r651 => FM_sum_5 p fu r651.1 r651.2)) else ((FM_peek r642.2).bind fun r660 => if r660 = 45 then ((FM_peek r642.2).bind fun r662 => if r662 = 43 then (xo_b (p.2.2.2.1 (r642.2.1, (r642.2.2.1.1, (r642.2.2.1.2.1 + 1), r642.2.2.1.2.2), r642.2.2.2)) fun r670 => (FM_binary 7 l1 r670.1 r670.2).bind fun r673 => FM_sum_5 p fu r673.1 r673.2) else (xo_b (p.2.2.2.1 (r642.2.1, (r642.2.2.1.1, (r642.2.2.1.2.1 + 1), r642.2.2.1.2.2), r642.2.2.2)) fun r664 => (FM_binary 8 l1 r664.1 r664.2).bind fun r667 => FM_sum_5 p fu r667.1 r667.2)) else (some (.inl (l1, r642.2))))
/-- FormulaShaperModel.sum -/
def FM_sum (p : xTP)  (s : xMs) : Option (xo Nat xMs) := xo_b (p.2.2.2.1 s) fun r639 => FM_sum_5 p xFuel r639.1 r639.2
set_option maxRecDepth 20000 in
theorem CM_sum_5 {w : xw_G} {p : xTP} {d : Nat} (hp : xKP w p d) {h : xw_H} (hb : xMb h)  : ∀ (fu : Nat) {l1 : Nat} {s : xMs} {out : (xo Nat xMs)} {h0 : xw_H} {m0 n0 : Nat} (hm : m0 ≤ s.2.2.1.2.2.2.2.2.2.1 ∧ n0 ≤ s.2.2.1.2.2.2.2.2.2.2), FM_sum_5 p fu l1 s = some out → xw_Y w mM_sum (d + 1 + 20) (60 * (d + 1) + 600) (xo_P (fun x => some (.ref (xn x))) (fun s => mV s h) out) h0 m0 n0 s.2.2.1.2.2.2.2.2.2.1 s.2.2.1.2.2.2.2.2.2.2 (xo_s out).2.2.1.2.2.2.2.2.2.1 (xo_s out).2.2.1.2.2.2.2.2.2.2 5 [some (.ref 2000), some (.ref (xn l1)), none] [] (mV s h) := by
  intro fu
  induction fu with
  | zero =>
    intro l1 s out h0 m0 n0 hm hF
    rw [FM_sum_5] at hF
    cases hF
  | succ fu ih =>
    intro l1 s out h0 m0 n0 hm hF
    rw [FM_sum_5] at hF
    refine xy_r (xw_aload_n dM_sum_5 rfl) ?_
    refine xy_r (xw_bipush (43) dM_sum_6 (by decide)) ?_
    obtain ⟨r642, er642, hF⟩ := xg_b hF
    have hm643 : m0 ≤ r642.2.2.2.1.2.2.2.2.2.2.1 ∧ n0 ≤ r642.2.2.2.1.2.2.2.2.2.2.2 := xy_le hm (show s.2.2.1.2.2.2.2.2.2.1 ≤ r642.2.2.2.1.2.2.2.2.2.2.1 ∧ s.2.2.1.2.2.2.2.2.2.2 ≤ r642.2.2.2.1.2.2.2.2.2.2.2 from (CM_next (w := w) (h := h) hb (s := s) er642).1)
    refine xy_V1 (nl := 2) (sm := s.2.2.1.2.2.2.2.2.2.1) (sn := s.2.2.1.2.2.2.2.2.2.2) (tm := r642.2.2.2.1.2.2.2.2.2.2.1) (tn := r642.2.2.2.1.2.2.2.2.2.2.2) (CM_next hb (s := s) er642) rfl rfl hm (fun _ => rfl) (fun _ => rfl) (fun _ => rfl) (fun _ => dM_sum_8) (fun _ R => kM_236 R) (fun _ => rfl) ⟨by omega, by omega⟩ rfl rfl rfl (fun _ => rfl) (Nat.le_of_ble_eq_true rfl) ?_
    refine xy_br (xw_if_neB 23 dM_sum_11 (by decide)) (fun c645 => ?_) (fun c645 => ?_)
    · replace hF := xg_t c645 hF
      refine xy_r (xw_aload_n dM_sum_23 rfl) ?_
      obtain ⟨r646, er646, hF⟩ := xg_b hF
      refine xy_q (fun hq => xg_V1 (k1 := _) (n1 := _) (CM_peek er646) rfl rfl rfl dM_sum_24 (kM_230 _) (xZP (Nat.le_of_ble_eq_true rfl) (Nat.le_of_ble_eq_true rfl)) rfl rfl rfl rfl (Nat.le_of_ble_eq_true rfl) (Nat.le_refl _) (Nat.le_refl _) (Nat.sub_le_sub_right hq.1 _) (Nat.sub_le_sub_right hq.2 _)) ?_
      refine xy_r (xw_bipush (43) dM_sum_27 (by decide)) ?_
      refine xy_brn (xw_icmp_ne 37 dM_sum_29 (by decide)) (fun c647 => ?_) (fun c647 => ?_)
      · replace hF := xg_f c647 hF
        refine xy_r (xw_bipush (8) dM_sum_37 (by decide)) ?_
        refine xy_r (xw_istore_n dM_sum_39 (Nat.le_of_ble_eq_true rfl)) ?_
        refine xy_r (xw_Ln (L' := [some (.ref 2000), some (.ref (xn l1)), some (.int 8)]) rfl) ?_
        refine xy_r (xw_aload_n dM_sum_40 rfl) ?_
        refine xy_r (xw_dup_r dM_sum_41) ?_
        refine xy_r (xw_get dM_sum_42 fM_221 rfl rfl) ?_
        refine xy_r (xw_iconst (1) dM_sum_45 (by decide)) ?_
        refine xy_r (xw_iadd dM_sum_46) ?_
        refine xy_r (xg_put dM_sum_47 fM_221 rfl (by decide) (Nat.le_of_ble_eq_true rfl) (fun _ => rfl) (fun _ => rfl) (mV_o (s' := (r642.2.1, (r642.2.2.1.1, (r642.2.2.1.2.1 + 1), r642.2.2.1.2.2), r642.2.2.2)) rfl)) ?_
        refine xy_r (xw_aload_n dM_sum_50 rfl) ?_
        refine xy_r (xw_iload_n dM_sum_51 rfl) ?_
        refine xy_r (xw_aload_n dM_sum_52 rfl) ?_
        refine xy_r (xw_aload_n dM_sum_53 rfl) ?_
        rcases xg_o hF with ⟨r648, er648, hF⟩ | ⟨r648, er648, hF⟩
        · have hm649 : m0 ≤ r648.2.2.2.1.2.2.2.2.2.2.1 ∧ n0 ≤ r648.2.2.2.1.2.2.2.2.2.2.2 := xy_le hm643 (show r642.2.2.2.1.2.2.2.2.2.2.1 ≤ r648.2.2.2.1.2.2.2.2.2.2.1 ∧ r642.2.2.2.1.2.2.2.2.2.2.2 ≤ r648.2.2.2.1.2.2.2.2.2.2.2 from ((hp.2.2.2.1 (h := h) hb (s := (r642.2.1, (r642.2.2.1.1, (r642.2.2.1.2.1 + 1), r642.2.2.1.2.2), r642.2.2.2)) er648)).1)
          refine xy_V1 (nl := 3) (sm := r642.2.2.2.1.2.2.2.2.2.2.1) (sn := r642.2.2.2.1.2.2.2.2.2.2.2) (tm := r648.2.2.2.1.2.2.2.2.2.2.1) (tn := r648.2.2.2.1.2.2.2.2.2.2.2) (hp.2.2.2.1 hb (s := (r642.2.1, (r642.2.2.1.1, (r642.2.2.1.2.1 + 1), r642.2.2.1.2.2), r642.2.2.2)) er648) rfl rfl hm643 (fun _ => rfl) (fun _ => rfl) (fun _ => rfl) (fun _ => dM_sum_54) (fun _ R => kM_274 R) (fun _ => rfl) ⟨by omega, by omega⟩ rfl rfl rfl (fun _ => rfl) (Nat.le_of_ble_eq_true rfl) ?_
          obtain ⟨r651, er651, hF⟩ := xg_b hF
          have hm652 : m0 ≤ r651.2.2.2.1.2.2.2.2.2.2.1 ∧ n0 ≤ r651.2.2.2.1.2.2.2.2.2.2.2 := xy_le hm649 (show r648.2.2.2.1.2.2.2.2.2.2.1 ≤ r651.2.2.2.1.2.2.2.2.2.2.1 ∧ r648.2.2.2.1.2.2.2.2.2.2.2 ≤ r651.2.2.2.1.2.2.2.2.2.2.2 from (CM_binary (w := w) (h := h) hb (s := r648.2) er651).1)
          refine xy_V1 (nl := 5) (sm := r648.2.2.2.1.2.2.2.2.2.2.1) (sn := r648.2.2.2.1.2.2.2.2.2.2.2) (tm := r651.2.2.2.1.2.2.2.2.2.2.1) (tn := r651.2.2.2.1.2.2.2.2.2.2.2) (CM_binary hb (s := r648.2) er651) rfl rfl hm649 (fun _ => rfl) (fun _ => rfl) (fun _ => rfl) (fun _ => dM_sum_57) (fun _ R => kM_267 R) (fun _ => rfl) ⟨by omega, by omega⟩ rfl rfl rfl (fun _ => rfl) (Nat.le_of_ble_eq_true rfl) ?_
          refine xy_r (xw_astore_n dM_sum_60 (Nat.le_of_ble_eq_true rfl)) ?_
          refine xy_r (xw_Ln (L' := [some (.ref 2000), some (.ref (xn r651.1)), some (.int 8)]) rfl) ?_
          refine xy_r (xw_goto 5 dM_sum_61 (by decide)) ?_
          refine xy_r (xw_drop (L' := [some (.ref 2000), some (.ref (xn r651.1)), none]) ⟨rfl, ⟨rfl, trivial⟩⟩) ?_
          exact ih (s := r651.2) hm652 hF
        · subst hF
          exact xy_Vt (nl := 3) (sm := r642.2.2.2.1.2.2.2.2.2.2.1) (sn := r642.2.2.2.1.2.2.2.2.2.2.2) (tm := r648.2.2.2.1.2.2.2.2.2.2.1) (tn := r648.2.2.2.1.2.2.2.2.2.2.2) (hp.2.2.2.1 hb (s := (r642.2.1, (r642.2.2.1.1, (r642.2.2.1.2.1 + 1), r642.2.2.1.2.2), r642.2.2.2)) er648) rfl rfl hm643 (fun _ => rfl) (fun _ => rfl) (fun _ => rfl) (fun _ => dM_sum_54) (fun _ R => kM_274 R) (fun _ => rfl) ⟨by omega, by omega⟩ rfl rfl rfl (fun _ => rfl) (Nat.le_of_ble_eq_true rfl) ⟨rfl, rfl⟩
      · replace hF := xg_t c647 hF
        refine xy_r (xw_bipush (7) dM_sum_32 (by decide)) ?_
        refine xy_r (xw_goto 39 dM_sum_34 (by decide)) ?_
        refine xy_r (xw_istore_n dM_sum_39 (Nat.le_of_ble_eq_true rfl)) ?_
        refine xy_r (xw_Ln (L' := [some (.ref 2000), some (.ref (xn l1)), some (.int 7)]) rfl) ?_
        refine xy_r (xw_aload_n dM_sum_40 rfl) ?_
        refine xy_r (xw_dup_r dM_sum_41) ?_
        refine xy_r (xw_get dM_sum_42 fM_221 rfl rfl) ?_
        refine xy_r (xw_iconst (1) dM_sum_45 (by decide)) ?_
        refine xy_r (xw_iadd dM_sum_46) ?_
        refine xy_r (xg_put dM_sum_47 fM_221 rfl (by decide) (Nat.le_of_ble_eq_true rfl) (fun _ => rfl) (fun _ => rfl) (mV_o (s' := (r642.2.1, (r642.2.2.1.1, (r642.2.2.1.2.1 + 1), r642.2.2.1.2.2), r642.2.2.2)) rfl)) ?_
        refine xy_r (xw_aload_n dM_sum_50 rfl) ?_
        refine xy_r (xw_iload_n dM_sum_51 rfl) ?_
        refine xy_r (xw_aload_n dM_sum_52 rfl) ?_
        refine xy_r (xw_aload_n dM_sum_53 rfl) ?_
        rcases xg_o hF with ⟨r654, er654, hF⟩ | ⟨r654, er654, hF⟩
        · have hm655 : m0 ≤ r654.2.2.2.1.2.2.2.2.2.2.1 ∧ n0 ≤ r654.2.2.2.1.2.2.2.2.2.2.2 := xy_le hm643 (show r642.2.2.2.1.2.2.2.2.2.2.1 ≤ r654.2.2.2.1.2.2.2.2.2.2.1 ∧ r642.2.2.2.1.2.2.2.2.2.2.2 ≤ r654.2.2.2.1.2.2.2.2.2.2.2 from ((hp.2.2.2.1 (h := h) hb (s := (r642.2.1, (r642.2.2.1.1, (r642.2.2.1.2.1 + 1), r642.2.2.1.2.2), r642.2.2.2)) er654)).1)
          refine xy_V1 (nl := 3) (sm := r642.2.2.2.1.2.2.2.2.2.2.1) (sn := r642.2.2.2.1.2.2.2.2.2.2.2) (tm := r654.2.2.2.1.2.2.2.2.2.2.1) (tn := r654.2.2.2.1.2.2.2.2.2.2.2) (hp.2.2.2.1 hb (s := (r642.2.1, (r642.2.2.1.1, (r642.2.2.1.2.1 + 1), r642.2.2.1.2.2), r642.2.2.2)) er654) rfl rfl hm643 (fun _ => rfl) (fun _ => rfl) (fun _ => rfl) (fun _ => dM_sum_54) (fun _ R => kM_274 R) (fun _ => rfl) ⟨by omega, by omega⟩ rfl rfl rfl (fun _ => rfl) (Nat.le_of_ble_eq_true rfl) ?_
          obtain ⟨r657, er657, hF⟩ := xg_b hF
          have hm658 : m0 ≤ r657.2.2.2.1.2.2.2.2.2.2.1 ∧ n0 ≤ r657.2.2.2.1.2.2.2.2.2.2.2 := xy_le hm655 (show r654.2.2.2.1.2.2.2.2.2.2.1 ≤ r657.2.2.2.1.2.2.2.2.2.2.1 ∧ r654.2.2.2.1.2.2.2.2.2.2.2 ≤ r657.2.2.2.1.2.2.2.2.2.2.2 from (CM_binary (w := w) (h := h) hb (s := r654.2) er657).1)
          refine xy_V1 (nl := 5) (sm := r654.2.2.2.1.2.2.2.2.2.2.1) (sn := r654.2.2.2.1.2.2.2.2.2.2.2) (tm := r657.2.2.2.1.2.2.2.2.2.2.1) (tn := r657.2.2.2.1.2.2.2.2.2.2.2) (CM_binary hb (s := r654.2) er657) rfl rfl hm655 (fun _ => rfl) (fun _ => rfl) (fun _ => rfl) (fun _ => dM_sum_57) (fun _ R => kM_267 R) (fun _ => rfl) ⟨by omega, by omega⟩ rfl rfl rfl (fun _ => rfl) (Nat.le_of_ble_eq_true rfl) ?_
          refine xy_r (xw_astore_n dM_sum_60 (Nat.le_of_ble_eq_true rfl)) ?_
          refine xy_r (xw_Ln (L' := [some (.ref 2000), some (.ref (xn r657.1)), some (.int 7)]) rfl) ?_
          refine xy_r (xw_goto 5 dM_sum_61 (by decide)) ?_
          refine xy_r (xw_drop (L' := [some (.ref 2000), some (.ref (xn r657.1)), none]) ⟨rfl, ⟨rfl, trivial⟩⟩) ?_
          exact ih (s := r657.2) hm658 hF
        · subst hF
          exact xy_Vt (nl := 3) (sm := r642.2.2.2.1.2.2.2.2.2.2.1) (sn := r642.2.2.2.1.2.2.2.2.2.2.2) (tm := r654.2.2.2.1.2.2.2.2.2.2.1) (tn := r654.2.2.2.1.2.2.2.2.2.2.2) (hp.2.2.2.1 hb (s := (r642.2.1, (r642.2.2.1.1, (r642.2.2.1.2.1 + 1), r642.2.2.1.2.2), r642.2.2.2)) er654) rfl rfl hm643 (fun _ => rfl) (fun _ => rfl) (fun _ => rfl) (fun _ => dM_sum_54) (fun _ R => kM_274 R) (fun _ => rfl) ⟨by omega, by omega⟩ rfl rfl rfl (fun _ => rfl) (Nat.le_of_ble_eq_true rfl) ⟨rfl, rfl⟩
    · replace hF := xg_f c645 hF
      refine xy_r (xw_aload_n dM_sum_14 rfl) ?_
      obtain ⟨r660, er660, hF⟩ := xg_b hF
      refine xy_q (fun hq => xg_V1 (k1 := _) (n1 := _) (CM_peek er660) rfl rfl rfl dM_sum_15 (kM_230 _) (xZP (Nat.le_of_ble_eq_true rfl) (Nat.le_of_ble_eq_true rfl)) rfl rfl rfl rfl (Nat.le_of_ble_eq_true rfl) (Nat.le_refl _) (Nat.le_refl _) (Nat.sub_le_sub_right hq.1 _) (Nat.sub_le_sub_right hq.2 _)) ?_
      refine xy_r (xw_bipush (45) dM_sum_18 (by decide)) ?_
      refine xy_brn (xw_icmp_ne 64 dM_sum_20 (by decide)) (fun c661 => ?_) (fun c661 => ?_)
      · replace hF := xg_f c661 hF
        refine xy_r (xw_aload_n dM_sum_64 rfl) ?_
        obtain rfl := Option.some.inj hF
        exact xy_end (xw_areturn dM_sum_65 rfl (Or.inl ⟨_, rfl⟩) (Nat.le_refl _) (Nat.le_refl _) ⟨rfl, rfl⟩)
      · replace hF := xg_t c661 hF
        refine xy_r (xw_aload_n dM_sum_23 rfl) ?_
        obtain ⟨r662, er662, hF⟩ := xg_b hF
        refine xy_q (fun hq => xg_V1 (k1 := _) (n1 := _) (CM_peek er662) rfl rfl rfl dM_sum_24 (kM_230 _) (xZP (Nat.le_of_ble_eq_true rfl) (Nat.le_of_ble_eq_true rfl)) rfl rfl rfl rfl (Nat.le_of_ble_eq_true rfl) (Nat.le_refl _) (Nat.le_refl _) (Nat.sub_le_sub_right hq.1 _) (Nat.sub_le_sub_right hq.2 _)) ?_
        refine xy_r (xw_bipush (43) dM_sum_27 (by decide)) ?_
        refine xy_brn (xw_icmp_ne 37 dM_sum_29 (by decide)) (fun c663 => ?_) (fun c663 => ?_)
        · replace hF := xg_f c663 hF
          refine xy_r (xw_bipush (8) dM_sum_37 (by decide)) ?_
          refine xy_r (xw_istore_n dM_sum_39 (Nat.le_of_ble_eq_true rfl)) ?_
          refine xy_r (xw_Ln (L' := [some (.ref 2000), some (.ref (xn l1)), some (.int 8)]) rfl) ?_
          refine xy_r (xw_aload_n dM_sum_40 rfl) ?_
          refine xy_r (xw_dup_r dM_sum_41) ?_
          refine xy_r (xw_get dM_sum_42 fM_221 rfl rfl) ?_
          refine xy_r (xw_iconst (1) dM_sum_45 (by decide)) ?_
          refine xy_r (xw_iadd dM_sum_46) ?_
          refine xy_r (xg_put dM_sum_47 fM_221 rfl (by decide) (Nat.le_of_ble_eq_true rfl) (fun _ => rfl) (fun _ => rfl) (mV_o (s' := (r642.2.1, (r642.2.2.1.1, (r642.2.2.1.2.1 + 1), r642.2.2.1.2.2), r642.2.2.2)) rfl)) ?_
          refine xy_r (xw_aload_n dM_sum_50 rfl) ?_
          refine xy_r (xw_iload_n dM_sum_51 rfl) ?_
          refine xy_r (xw_aload_n dM_sum_52 rfl) ?_
          refine xy_r (xw_aload_n dM_sum_53 rfl) ?_
          rcases xg_o hF with ⟨r664, er664, hF⟩ | ⟨r664, er664, hF⟩
          · have hm665 : m0 ≤ r664.2.2.2.1.2.2.2.2.2.2.1 ∧ n0 ≤ r664.2.2.2.1.2.2.2.2.2.2.2 := xy_le hm643 (show r642.2.2.2.1.2.2.2.2.2.2.1 ≤ r664.2.2.2.1.2.2.2.2.2.2.1 ∧ r642.2.2.2.1.2.2.2.2.2.2.2 ≤ r664.2.2.2.1.2.2.2.2.2.2.2 from ((hp.2.2.2.1 (h := h) hb (s := (r642.2.1, (r642.2.2.1.1, (r642.2.2.1.2.1 + 1), r642.2.2.1.2.2), r642.2.2.2)) er664)).1)
            refine xy_V1 (nl := 3) (sm := r642.2.2.2.1.2.2.2.2.2.2.1) (sn := r642.2.2.2.1.2.2.2.2.2.2.2) (tm := r664.2.2.2.1.2.2.2.2.2.2.1) (tn := r664.2.2.2.1.2.2.2.2.2.2.2) (hp.2.2.2.1 hb (s := (r642.2.1, (r642.2.2.1.1, (r642.2.2.1.2.1 + 1), r642.2.2.1.2.2), r642.2.2.2)) er664) rfl rfl hm643 (fun _ => rfl) (fun _ => rfl) (fun _ => rfl) (fun _ => dM_sum_54) (fun _ R => kM_274 R) (fun _ => rfl) ⟨by omega, by omega⟩ rfl rfl rfl (fun _ => rfl) (Nat.le_of_ble_eq_true rfl) ?_
            obtain ⟨r667, er667, hF⟩ := xg_b hF
            have hm668 : m0 ≤ r667.2.2.2.1.2.2.2.2.2.2.1 ∧ n0 ≤ r667.2.2.2.1.2.2.2.2.2.2.2 := xy_le hm665 (show r664.2.2.2.1.2.2.2.2.2.2.1 ≤ r667.2.2.2.1.2.2.2.2.2.2.1 ∧ r664.2.2.2.1.2.2.2.2.2.2.2 ≤ r667.2.2.2.1.2.2.2.2.2.2.2 from (CM_binary (w := w) (h := h) hb (s := r664.2) er667).1)
            refine xy_V1 (nl := 5) (sm := r664.2.2.2.1.2.2.2.2.2.2.1) (sn := r664.2.2.2.1.2.2.2.2.2.2.2) (tm := r667.2.2.2.1.2.2.2.2.2.2.1) (tn := r667.2.2.2.1.2.2.2.2.2.2.2) (CM_binary hb (s := r664.2) er667) rfl rfl hm665 (fun _ => rfl) (fun _ => rfl) (fun _ => rfl) (fun _ => dM_sum_57) (fun _ R => kM_267 R) (fun _ => rfl) ⟨by omega, by omega⟩ rfl rfl rfl (fun _ => rfl) (Nat.le_of_ble_eq_true rfl) ?_
            refine xy_r (xw_astore_n dM_sum_60 (Nat.le_of_ble_eq_true rfl)) ?_
            refine xy_r (xw_Ln (L' := [some (.ref 2000), some (.ref (xn r667.1)), some (.int 8)]) rfl) ?_
            refine xy_r (xw_goto 5 dM_sum_61 (by decide)) ?_
            refine xy_r (xw_drop (L' := [some (.ref 2000), some (.ref (xn r667.1)), none]) ⟨rfl, ⟨rfl, trivial⟩⟩) ?_
            exact ih (s := r667.2) hm668 hF
          · subst hF
            exact xy_Vt (nl := 3) (sm := r642.2.2.2.1.2.2.2.2.2.2.1) (sn := r642.2.2.2.1.2.2.2.2.2.2.2) (tm := r664.2.2.2.1.2.2.2.2.2.2.1) (tn := r664.2.2.2.1.2.2.2.2.2.2.2) (hp.2.2.2.1 hb (s := (r642.2.1, (r642.2.2.1.1, (r642.2.2.1.2.1 + 1), r642.2.2.1.2.2), r642.2.2.2)) er664) rfl rfl hm643 (fun _ => rfl) (fun _ => rfl) (fun _ => rfl) (fun _ => dM_sum_54) (fun _ R => kM_274 R) (fun _ => rfl) ⟨by omega, by omega⟩ rfl rfl rfl (fun _ => rfl) (Nat.le_of_ble_eq_true rfl) ⟨rfl, rfl⟩
        · replace hF := xg_t c663 hF
          refine xy_r (xw_bipush (7) dM_sum_32 (by decide)) ?_
          refine xy_r (xw_goto 39 dM_sum_34 (by decide)) ?_
          refine xy_r (xw_istore_n dM_sum_39 (Nat.le_of_ble_eq_true rfl)) ?_
          refine xy_r (xw_Ln (L' := [some (.ref 2000), some (.ref (xn l1)), some (.int 7)]) rfl) ?_
          refine xy_r (xw_aload_n dM_sum_40 rfl) ?_
          refine xy_r (xw_dup_r dM_sum_41) ?_
          refine xy_r (xw_get dM_sum_42 fM_221 rfl rfl) ?_
          refine xy_r (xw_iconst (1) dM_sum_45 (by decide)) ?_
          refine xy_r (xw_iadd dM_sum_46) ?_
          refine xy_r (xg_put dM_sum_47 fM_221 rfl (by decide) (Nat.le_of_ble_eq_true rfl) (fun _ => rfl) (fun _ => rfl) (mV_o (s' := (r642.2.1, (r642.2.2.1.1, (r642.2.2.1.2.1 + 1), r642.2.2.1.2.2), r642.2.2.2)) rfl)) ?_
          refine xy_r (xw_aload_n dM_sum_50 rfl) ?_
          refine xy_r (xw_iload_n dM_sum_51 rfl) ?_
          refine xy_r (xw_aload_n dM_sum_52 rfl) ?_
          refine xy_r (xw_aload_n dM_sum_53 rfl) ?_
          rcases xg_o hF with ⟨r670, er670, hF⟩ | ⟨r670, er670, hF⟩
          · have hm671 : m0 ≤ r670.2.2.2.1.2.2.2.2.2.2.1 ∧ n0 ≤ r670.2.2.2.1.2.2.2.2.2.2.2 := xy_le hm643 (show r642.2.2.2.1.2.2.2.2.2.2.1 ≤ r670.2.2.2.1.2.2.2.2.2.2.1 ∧ r642.2.2.2.1.2.2.2.2.2.2.2 ≤ r670.2.2.2.1.2.2.2.2.2.2.2 from ((hp.2.2.2.1 (h := h) hb (s := (r642.2.1, (r642.2.2.1.1, (r642.2.2.1.2.1 + 1), r642.2.2.1.2.2), r642.2.2.2)) er670)).1)
            refine xy_V1 (nl := 3) (sm := r642.2.2.2.1.2.2.2.2.2.2.1) (sn := r642.2.2.2.1.2.2.2.2.2.2.2) (tm := r670.2.2.2.1.2.2.2.2.2.2.1) (tn := r670.2.2.2.1.2.2.2.2.2.2.2) (hp.2.2.2.1 hb (s := (r642.2.1, (r642.2.2.1.1, (r642.2.2.1.2.1 + 1), r642.2.2.1.2.2), r642.2.2.2)) er670) rfl rfl hm643 (fun _ => rfl) (fun _ => rfl) (fun _ => rfl) (fun _ => dM_sum_54) (fun _ R => kM_274 R) (fun _ => rfl) ⟨by omega, by omega⟩ rfl rfl rfl (fun _ => rfl) (Nat.le_of_ble_eq_true rfl) ?_
            obtain ⟨r673, er673, hF⟩ := xg_b hF
            have hm674 : m0 ≤ r673.2.2.2.1.2.2.2.2.2.2.1 ∧ n0 ≤ r673.2.2.2.1.2.2.2.2.2.2.2 := xy_le hm671 (show r670.2.2.2.1.2.2.2.2.2.2.1 ≤ r673.2.2.2.1.2.2.2.2.2.2.1 ∧ r670.2.2.2.1.2.2.2.2.2.2.2 ≤ r673.2.2.2.1.2.2.2.2.2.2.2 from (CM_binary (w := w) (h := h) hb (s := r670.2) er673).1)
            refine xy_V1 (nl := 5) (sm := r670.2.2.2.1.2.2.2.2.2.2.1) (sn := r670.2.2.2.1.2.2.2.2.2.2.2) (tm := r673.2.2.2.1.2.2.2.2.2.2.1) (tn := r673.2.2.2.1.2.2.2.2.2.2.2) (CM_binary hb (s := r670.2) er673) rfl rfl hm671 (fun _ => rfl) (fun _ => rfl) (fun _ => rfl) (fun _ => dM_sum_57) (fun _ R => kM_267 R) (fun _ => rfl) ⟨by omega, by omega⟩ rfl rfl rfl (fun _ => rfl) (Nat.le_of_ble_eq_true rfl) ?_
            refine xy_r (xw_astore_n dM_sum_60 (Nat.le_of_ble_eq_true rfl)) ?_
            refine xy_r (xw_Ln (L' := [some (.ref 2000), some (.ref (xn r673.1)), some (.int 7)]) rfl) ?_
            refine xy_r (xw_goto 5 dM_sum_61 (by decide)) ?_
            refine xy_r (xw_drop (L' := [some (.ref 2000), some (.ref (xn r673.1)), none]) ⟨rfl, ⟨rfl, trivial⟩⟩) ?_
            exact ih (s := r673.2) hm674 hF
          · subst hF
            exact xy_Vt (nl := 3) (sm := r642.2.2.2.1.2.2.2.2.2.2.1) (sn := r642.2.2.2.1.2.2.2.2.2.2.2) (tm := r670.2.2.2.1.2.2.2.2.2.2.1) (tn := r670.2.2.2.1.2.2.2.2.2.2.2) (hp.2.2.2.1 hb (s := (r642.2.1, (r642.2.2.1.1, (r642.2.2.1.2.1 + 1), r642.2.2.1.2.2), r642.2.2.2)) er670) rfl rfl hm643 (fun _ => rfl) (fun _ => rfl) (fun _ => rfl) (fun _ => dM_sum_54) (fun _ R => kM_274 R) (fun _ => rfl) ⟨by omega, by omega⟩ rfl rfl rfl (fun _ => rfl) (Nat.le_of_ble_eq_true rfl) ⟨rfl, rfl⟩
set_option maxRecDepth 20000 in
theorem CM_sum {w : xw_G} {p : xTP} {d : Nat} (hp : xKP w p d) {h : xw_H} (hb : xMb h)  {s : xMs} {out : (xo Nat xMs)} (hF : FM_sum p  s = some out) : (s.2.2.1.2.2.2.2.2.2.1 ≤ (xo_s out).2.2.1.2.2.2.2.2.2.1 ∧ s.2.2.1.2.2.2.2.2.2.2 ≤ (xo_s out).2.2.1.2.2.2.2.2.2.2) ∧ xw_C w (mM_sum { frames := (d + 1 + 20), cells := (xo_s out).2.2.1.2.2.2.2.2.2.1 - s.2.2.1.2.2.2.2.2.2.1, slots := (xo_s out).2.2.1.2.2.2.2.2.2.2 - s.2.2.1.2.2.2.2.2.2.2, locals := (60 * (d + 1) + 600) }) (xo_P (fun x => some (.ref (xn x))) (fun s => mV s h) out) [.ref 2000] (mV s h) := by
  unfold FM_sum at hF
  refine xy_enter (L := [some (.ref 2000), none, none]) (fun _ => rfl) (fun _ => rfl) (fun _ => (show plainName "FormulaShaperModel" = true by decide +kernel)) (fun _ => (Nat.le_of_ble_eq_true rfl)) (fun _ => rfl) ?_
  have hm : s.2.2.1.2.2.2.2.2.2.1 ≤ s.2.2.1.2.2.2.2.2.2.1 ∧ s.2.2.1.2.2.2.2.2.2.2 ≤ s.2.2.1.2.2.2.2.2.2.2 := ⟨Nat.le_refl _, Nat.le_refl _⟩
  refine xy_r (xw_aload_n dM_sum_0 rfl) ?_
  rcases xg_o hF with ⟨r639, er639, hF⟩ | ⟨r639, er639, hF⟩
  · have hm640 : s.2.2.1.2.2.2.2.2.2.1 ≤ r639.2.2.2.1.2.2.2.2.2.2.1 ∧ s.2.2.1.2.2.2.2.2.2.2 ≤ r639.2.2.2.1.2.2.2.2.2.2.2 := xy_le hm (show s.2.2.1.2.2.2.2.2.2.1 ≤ r639.2.2.2.1.2.2.2.2.2.2.1 ∧ s.2.2.1.2.2.2.2.2.2.2 ≤ r639.2.2.2.1.2.2.2.2.2.2.2 from ((hp.2.2.2.1 (h := h) hb (s := s) er639)).1)
    refine xy_V1 (nl := 3) (sm := s.2.2.1.2.2.2.2.2.2.1) (sn := s.2.2.1.2.2.2.2.2.2.2) (tm := r639.2.2.2.1.2.2.2.2.2.2.1) (tn := r639.2.2.2.1.2.2.2.2.2.2.2) (hp.2.2.2.1 hb (s := s) er639) rfl rfl hm (fun _ => rfl) (fun _ => rfl) (fun _ => rfl) (fun _ => dM_sum_1) (fun _ R => kM_274 R) (fun _ => rfl) ⟨by omega, by omega⟩ rfl rfl rfl (fun _ => rfl) (Nat.le_of_ble_eq_true rfl) ?_
    refine xy_r (xw_astore_n dM_sum_4 (Nat.le_of_ble_eq_true rfl)) ?_
    refine xy_r (xw_Ln (L' := [some (.ref 2000), some (.ref (xn r639.1)), none]) rfl) ?_
    exact CM_sum_5 (hp := hp) hb xFuel (s := r639.2) hm640 hF
  · subst hF
    exact xy_Vt (nl := 3) (sm := s.2.2.1.2.2.2.2.2.2.1) (sn := s.2.2.1.2.2.2.2.2.2.2) (tm := r639.2.2.2.1.2.2.2.2.2.2.1) (tn := r639.2.2.2.1.2.2.2.2.2.2.2) (hp.2.2.2.1 hb (s := s) er639) rfl rfl hm (fun _ => rfl) (fun _ => rfl) (fun _ => rfl) (fun _ => dM_sum_1) (fun _ R => kM_274 R) (fun _ => rfl) ⟨by omega, by omega⟩ rfl rfl rfl (fun _ => rfl) (Nat.le_of_ble_eq_true rfl) ⟨rfl, rfl⟩
def FM_product_5 (p : xTP) : Nat → Nat → xMs → Option (xo Nat xMs)
  | 0, _, _ => none
  | fu + 1, l1, s => (FM_next 42 s).bind fun r679 => if r679.1 = true then ((FM_peek r679.2).bind fun r683 => if r683 = 42 then (xo_b (p.2.2.2.2.1 (r679.2.1, (r679.2.2.1.1, (r679.2.2.1.2.1 + 1), r679.2.2.1.2.2), r679.2.2.2)) fun r691 => (FM_binary 9 l1 r691.1 r691.2).bind fun r694 => FM_product_5 p fu r694.1 r694.2) else (xo_b (p.2.2.2.2.1 (r679.2.1, (r679.2.2.1.1, (r679.2.2.1.2.1 + 1), r679.2.2.1.2.2), r679.2.2.2)) fun r685 => (FM_binary 10 l1 r685.1 r685.2).bind fun r688 => FM_product_5 p fu r688.1 r688.2)) else ((FM_peek r679.2).bind fun r697 => if r697 = 47 then ((FM_peek r679.2).bind fun r699 => if r699 = 42 then (xo_b (p.2.2.2.2.1 (r679.2.1, (r679.2.2.1.1, (r679.2.2.1.2.1 + 1), r679.2.2.1.2.2), r679.2.2.2)) fun r707 => (FM_binary 9 l1 r707.1 r707.2).bind fun r710 => FM_product_5 p fu r710.1 r710.2) else (xo_b (p.2.2.2.2.1 (r679.2.1, (r679.2.2.1.1, (r679.2.2.1.2.1 + 1), r679.2.2.1.2.2), r679.2.2.2)) fun r701 => (FM_binary 10 l1 r701.1 r701.2).bind fun r704 => FM_product_5 p fu r704.1 r704.2)) else (some (.inl (l1, r679.2))))
/-- FormulaShaperModel.product -/
def FM_product (p : xTP)  (s : xMs) : Option (xo Nat xMs) := xo_b (p.2.2.2.2.1 s) fun r676 => FM_product_5 p xFuel r676.1 r676.2
set_option maxRecDepth 20000 in
theorem CM_product_5 {w : xw_G} {p : xTP} {d : Nat} (hp : xKP w p d) {h : xw_H} (hb : xMb h)  : ∀ (fu : Nat) {l1 : Nat} {s : xMs} {out : (xo Nat xMs)} {h0 : xw_H} {m0 n0 : Nat} (hm : m0 ≤ s.2.2.1.2.2.2.2.2.2.1 ∧ n0 ≤ s.2.2.1.2.2.2.2.2.2.2), FM_product_5 p fu l1 s = some out → xw_Y w mM_product (d + 1 + 20) (60 * (d + 1) + 600) (xo_P (fun x => some (.ref (xn x))) (fun s => mV s h) out) h0 m0 n0 s.2.2.1.2.2.2.2.2.2.1 s.2.2.1.2.2.2.2.2.2.2 (xo_s out).2.2.1.2.2.2.2.2.2.1 (xo_s out).2.2.1.2.2.2.2.2.2.2 5 [some (.ref 2000), some (.ref (xn l1)), none] [] (mV s h) := by
  intro fu
  induction fu with
  | zero =>
    intro l1 s out h0 m0 n0 hm hF
    rw [FM_product_5] at hF
    cases hF
  | succ fu ih =>
    intro l1 s out h0 m0 n0 hm hF
    rw [FM_product_5] at hF
    refine xy_r (xw_aload_n dM_product_5 rfl) ?_
    refine xy_r (xw_bipush (42) dM_product_6 (by decide)) ?_
    obtain ⟨r679, er679, hF⟩ := xg_b hF
    have hm680 : m0 ≤ r679.2.2.2.1.2.2.2.2.2.2.1 ∧ n0 ≤ r679.2.2.2.1.2.2.2.2.2.2.2 := xy_le hm (show s.2.2.1.2.2.2.2.2.2.1 ≤ r679.2.2.2.1.2.2.2.2.2.2.1 ∧ s.2.2.1.2.2.2.2.2.2.2 ≤ r679.2.2.2.1.2.2.2.2.2.2.2 from (CM_next (w := w) (h := h) hb (s := s) er679).1)
    refine xy_V1 (nl := 2) (sm := s.2.2.1.2.2.2.2.2.2.1) (sn := s.2.2.1.2.2.2.2.2.2.2) (tm := r679.2.2.2.1.2.2.2.2.2.2.1) (tn := r679.2.2.2.1.2.2.2.2.2.2.2) (CM_next hb (s := s) er679) rfl rfl hm (fun _ => rfl) (fun _ => rfl) (fun _ => rfl) (fun _ => dM_product_8) (fun _ R => kM_236 R) (fun _ => rfl) ⟨by omega, by omega⟩ rfl rfl rfl (fun _ => rfl) (Nat.le_of_ble_eq_true rfl) ?_
    refine xy_br (xw_if_neB 23 dM_product_11 (by decide)) (fun c682 => ?_) (fun c682 => ?_)
    · replace hF := xg_t c682 hF
      refine xy_r (xw_aload_n dM_product_23 rfl) ?_
      obtain ⟨r683, er683, hF⟩ := xg_b hF
      refine xy_q (fun hq => xg_V1 (k1 := _) (n1 := _) (CM_peek er683) rfl rfl rfl dM_product_24 (kM_230 _) (xZP (Nat.le_of_ble_eq_true rfl) (Nat.le_of_ble_eq_true rfl)) rfl rfl rfl rfl (Nat.le_of_ble_eq_true rfl) (Nat.le_refl _) (Nat.le_refl _) (Nat.sub_le_sub_right hq.1 _) (Nat.sub_le_sub_right hq.2 _)) ?_
      refine xy_r (xw_bipush (42) dM_product_27 (by decide)) ?_
      refine xy_brn (xw_icmp_ne 37 dM_product_29 (by decide)) (fun c684 => ?_) (fun c684 => ?_)
      · replace hF := xg_f c684 hF
        refine xy_r (xw_bipush (10) dM_product_37 (by decide)) ?_
        refine xy_r (xw_istore_n dM_product_39 (Nat.le_of_ble_eq_true rfl)) ?_
        refine xy_r (xw_Ln (L' := [some (.ref 2000), some (.ref (xn l1)), some (.int 10)]) rfl) ?_
        refine xy_r (xw_aload_n dM_product_40 rfl) ?_
        refine xy_r (xw_dup_r dM_product_41) ?_
        refine xy_r (xw_get dM_product_42 fM_221 rfl rfl) ?_
        refine xy_r (xw_iconst (1) dM_product_45 (by decide)) ?_
        refine xy_r (xw_iadd dM_product_46) ?_
        refine xy_r (xg_put dM_product_47 fM_221 rfl (by decide) (Nat.le_of_ble_eq_true rfl) (fun _ => rfl) (fun _ => rfl) (mV_o (s' := (r679.2.1, (r679.2.2.1.1, (r679.2.2.1.2.1 + 1), r679.2.2.1.2.2), r679.2.2.2)) rfl)) ?_
        refine xy_r (xw_aload_n dM_product_50 rfl) ?_
        refine xy_r (xw_iload_n dM_product_51 rfl) ?_
        refine xy_r (xw_aload_n dM_product_52 rfl) ?_
        refine xy_r (xw_aload_n dM_product_53 rfl) ?_
        rcases xg_o hF with ⟨r685, er685, hF⟩ | ⟨r685, er685, hF⟩
        · have hm686 : m0 ≤ r685.2.2.2.1.2.2.2.2.2.2.1 ∧ n0 ≤ r685.2.2.2.1.2.2.2.2.2.2.2 := xy_le hm680 (show r679.2.2.2.1.2.2.2.2.2.2.1 ≤ r685.2.2.2.1.2.2.2.2.2.2.1 ∧ r679.2.2.2.1.2.2.2.2.2.2.2 ≤ r685.2.2.2.1.2.2.2.2.2.2.2 from ((hp.2.2.2.2.1 (h := h) hb (s := (r679.2.1, (r679.2.2.1.1, (r679.2.2.1.2.1 + 1), r679.2.2.1.2.2), r679.2.2.2)) er685)).1)
          refine xy_V1 (nl := 5) (sm := r679.2.2.2.1.2.2.2.2.2.2.1) (sn := r679.2.2.2.1.2.2.2.2.2.2.2) (tm := r685.2.2.2.1.2.2.2.2.2.2.1) (tn := r685.2.2.2.1.2.2.2.2.2.2.2) (hp.2.2.2.2.1 hb (s := (r679.2.1, (r679.2.2.1.1, (r679.2.2.1.2.1 + 1), r679.2.2.1.2.2), r679.2.2.2)) er685) rfl rfl hm680 (fun _ => rfl) (fun _ => rfl) (fun _ => rfl) (fun _ => dM_product_54) (fun _ R => kM_277 R) (fun _ => rfl) ⟨by omega, by omega⟩ rfl rfl rfl (fun _ => rfl) (Nat.le_of_ble_eq_true rfl) ?_
          obtain ⟨r688, er688, hF⟩ := xg_b hF
          have hm689 : m0 ≤ r688.2.2.2.1.2.2.2.2.2.2.1 ∧ n0 ≤ r688.2.2.2.1.2.2.2.2.2.2.2 := xy_le hm686 (show r685.2.2.2.1.2.2.2.2.2.2.1 ≤ r688.2.2.2.1.2.2.2.2.2.2.1 ∧ r685.2.2.2.1.2.2.2.2.2.2.2 ≤ r688.2.2.2.1.2.2.2.2.2.2.2 from (CM_binary (w := w) (h := h) hb (s := r685.2) er688).1)
          refine xy_V1 (nl := 5) (sm := r685.2.2.2.1.2.2.2.2.2.2.1) (sn := r685.2.2.2.1.2.2.2.2.2.2.2) (tm := r688.2.2.2.1.2.2.2.2.2.2.1) (tn := r688.2.2.2.1.2.2.2.2.2.2.2) (CM_binary hb (s := r685.2) er688) rfl rfl hm686 (fun _ => rfl) (fun _ => rfl) (fun _ => rfl) (fun _ => dM_product_57) (fun _ R => kM_267 R) (fun _ => rfl) ⟨by omega, by omega⟩ rfl rfl rfl (fun _ => rfl) (Nat.le_of_ble_eq_true rfl) ?_
          refine xy_r (xw_astore_n dM_product_60 (Nat.le_of_ble_eq_true rfl)) ?_
          refine xy_r (xw_Ln (L' := [some (.ref 2000), some (.ref (xn r688.1)), some (.int 10)]) rfl) ?_
          refine xy_r (xw_goto 5 dM_product_61 (by decide)) ?_
          refine xy_r (xw_drop (L' := [some (.ref 2000), some (.ref (xn r688.1)), none]) ⟨rfl, ⟨rfl, trivial⟩⟩) ?_
          exact ih (s := r688.2) hm689 hF
        · subst hF
          exact xy_Vt (nl := 5) (sm := r679.2.2.2.1.2.2.2.2.2.2.1) (sn := r679.2.2.2.1.2.2.2.2.2.2.2) (tm := r685.2.2.2.1.2.2.2.2.2.2.1) (tn := r685.2.2.2.1.2.2.2.2.2.2.2) (hp.2.2.2.2.1 hb (s := (r679.2.1, (r679.2.2.1.1, (r679.2.2.1.2.1 + 1), r679.2.2.1.2.2), r679.2.2.2)) er685) rfl rfl hm680 (fun _ => rfl) (fun _ => rfl) (fun _ => rfl) (fun _ => dM_product_54) (fun _ R => kM_277 R) (fun _ => rfl) ⟨by omega, by omega⟩ rfl rfl rfl (fun _ => rfl) (Nat.le_of_ble_eq_true rfl) ⟨rfl, rfl⟩
      · replace hF := xg_t c684 hF
        refine xy_r (xw_bipush (9) dM_product_32 (by decide)) ?_
        refine xy_r (xw_goto 39 dM_product_34 (by decide)) ?_
        refine xy_r (xw_istore_n dM_product_39 (Nat.le_of_ble_eq_true rfl)) ?_
        refine xy_r (xw_Ln (L' := [some (.ref 2000), some (.ref (xn l1)), some (.int 9)]) rfl) ?_
        refine xy_r (xw_aload_n dM_product_40 rfl) ?_
        refine xy_r (xw_dup_r dM_product_41) ?_
        refine xy_r (xw_get dM_product_42 fM_221 rfl rfl) ?_
        refine xy_r (xw_iconst (1) dM_product_45 (by decide)) ?_
        refine xy_r (xw_iadd dM_product_46) ?_
        refine xy_r (xg_put dM_product_47 fM_221 rfl (by decide) (Nat.le_of_ble_eq_true rfl) (fun _ => rfl) (fun _ => rfl) (mV_o (s' := (r679.2.1, (r679.2.2.1.1, (r679.2.2.1.2.1 + 1), r679.2.2.1.2.2), r679.2.2.2)) rfl)) ?_
        refine xy_r (xw_aload_n dM_product_50 rfl) ?_
        refine xy_r (xw_iload_n dM_product_51 rfl) ?_
        refine xy_r (xw_aload_n dM_product_52 rfl) ?_
        refine xy_r (xw_aload_n dM_product_53 rfl) ?_
        rcases xg_o hF with ⟨r691, er691, hF⟩ | ⟨r691, er691, hF⟩
        · have hm692 : m0 ≤ r691.2.2.2.1.2.2.2.2.2.2.1 ∧ n0 ≤ r691.2.2.2.1.2.2.2.2.2.2.2 := xy_le hm680 (show r679.2.2.2.1.2.2.2.2.2.2.1 ≤ r691.2.2.2.1.2.2.2.2.2.2.1 ∧ r679.2.2.2.1.2.2.2.2.2.2.2 ≤ r691.2.2.2.1.2.2.2.2.2.2.2 from ((hp.2.2.2.2.1 (h := h) hb (s := (r679.2.1, (r679.2.2.1.1, (r679.2.2.1.2.1 + 1), r679.2.2.1.2.2), r679.2.2.2)) er691)).1)
          refine xy_V1 (nl := 5) (sm := r679.2.2.2.1.2.2.2.2.2.2.1) (sn := r679.2.2.2.1.2.2.2.2.2.2.2) (tm := r691.2.2.2.1.2.2.2.2.2.2.1) (tn := r691.2.2.2.1.2.2.2.2.2.2.2) (hp.2.2.2.2.1 hb (s := (r679.2.1, (r679.2.2.1.1, (r679.2.2.1.2.1 + 1), r679.2.2.1.2.2), r679.2.2.2)) er691) rfl rfl hm680 (fun _ => rfl) (fun _ => rfl) (fun _ => rfl) (fun _ => dM_product_54) (fun _ R => kM_277 R) (fun _ => rfl) ⟨by omega, by omega⟩ rfl rfl rfl (fun _ => rfl) (Nat.le_of_ble_eq_true rfl) ?_
          obtain ⟨r694, er694, hF⟩ := xg_b hF
          have hm695 : m0 ≤ r694.2.2.2.1.2.2.2.2.2.2.1 ∧ n0 ≤ r694.2.2.2.1.2.2.2.2.2.2.2 := xy_le hm692 (show r691.2.2.2.1.2.2.2.2.2.2.1 ≤ r694.2.2.2.1.2.2.2.2.2.2.1 ∧ r691.2.2.2.1.2.2.2.2.2.2.2 ≤ r694.2.2.2.1.2.2.2.2.2.2.2 from (CM_binary (w := w) (h := h) hb (s := r691.2) er694).1)
          refine xy_V1 (nl := 5) (sm := r691.2.2.2.1.2.2.2.2.2.2.1) (sn := r691.2.2.2.1.2.2.2.2.2.2.2) (tm := r694.2.2.2.1.2.2.2.2.2.2.1) (tn := r694.2.2.2.1.2.2.2.2.2.2.2) (CM_binary hb (s := r691.2) er694) rfl rfl hm692 (fun _ => rfl) (fun _ => rfl) (fun _ => rfl) (fun _ => dM_product_57) (fun _ R => kM_267 R) (fun _ => rfl) ⟨by omega, by omega⟩ rfl rfl rfl (fun _ => rfl) (Nat.le_of_ble_eq_true rfl) ?_
          refine xy_r (xw_astore_n dM_product_60 (Nat.le_of_ble_eq_true rfl)) ?_
          refine xy_r (xw_Ln (L' := [some (.ref 2000), some (.ref (xn r694.1)), some (.int 9)]) rfl) ?_
          refine xy_r (xw_goto 5 dM_product_61 (by decide)) ?_
          refine xy_r (xw_drop (L' := [some (.ref 2000), some (.ref (xn r694.1)), none]) ⟨rfl, ⟨rfl, trivial⟩⟩) ?_
          exact ih (s := r694.2) hm695 hF
        · subst hF
          exact xy_Vt (nl := 5) (sm := r679.2.2.2.1.2.2.2.2.2.2.1) (sn := r679.2.2.2.1.2.2.2.2.2.2.2) (tm := r691.2.2.2.1.2.2.2.2.2.2.1) (tn := r691.2.2.2.1.2.2.2.2.2.2.2) (hp.2.2.2.2.1 hb (s := (r679.2.1, (r679.2.2.1.1, (r679.2.2.1.2.1 + 1), r679.2.2.1.2.2), r679.2.2.2)) er691) rfl rfl hm680 (fun _ => rfl) (fun _ => rfl) (fun _ => rfl) (fun _ => dM_product_54) (fun _ R => kM_277 R) (fun _ => rfl) ⟨by omega, by omega⟩ rfl rfl rfl (fun _ => rfl) (Nat.le_of_ble_eq_true rfl) ⟨rfl, rfl⟩
    · replace hF := xg_f c682 hF
      refine xy_r (xw_aload_n dM_product_14 rfl) ?_
      obtain ⟨r697, er697, hF⟩ := xg_b hF
      refine xy_q (fun hq => xg_V1 (k1 := _) (n1 := _) (CM_peek er697) rfl rfl rfl dM_product_15 (kM_230 _) (xZP (Nat.le_of_ble_eq_true rfl) (Nat.le_of_ble_eq_true rfl)) rfl rfl rfl rfl (Nat.le_of_ble_eq_true rfl) (Nat.le_refl _) (Nat.le_refl _) (Nat.sub_le_sub_right hq.1 _) (Nat.sub_le_sub_right hq.2 _)) ?_
      refine xy_r (xw_bipush (47) dM_product_18 (by decide)) ?_
      refine xy_brn (xw_icmp_ne 64 dM_product_20 (by decide)) (fun c698 => ?_) (fun c698 => ?_)
      · replace hF := xg_f c698 hF
        refine xy_r (xw_aload_n dM_product_64 rfl) ?_
        obtain rfl := Option.some.inj hF
        exact xy_end (xw_areturn dM_product_65 rfl (Or.inl ⟨_, rfl⟩) (Nat.le_refl _) (Nat.le_refl _) ⟨rfl, rfl⟩)
      · replace hF := xg_t c698 hF
        refine xy_r (xw_aload_n dM_product_23 rfl) ?_
        obtain ⟨r699, er699, hF⟩ := xg_b hF
        refine xy_q (fun hq => xg_V1 (k1 := _) (n1 := _) (CM_peek er699) rfl rfl rfl dM_product_24 (kM_230 _) (xZP (Nat.le_of_ble_eq_true rfl) (Nat.le_of_ble_eq_true rfl)) rfl rfl rfl rfl (Nat.le_of_ble_eq_true rfl) (Nat.le_refl _) (Nat.le_refl _) (Nat.sub_le_sub_right hq.1 _) (Nat.sub_le_sub_right hq.2 _)) ?_
        refine xy_r (xw_bipush (42) dM_product_27 (by decide)) ?_
        refine xy_brn (xw_icmp_ne 37 dM_product_29 (by decide)) (fun c700 => ?_) (fun c700 => ?_)
        · replace hF := xg_f c700 hF
          refine xy_r (xw_bipush (10) dM_product_37 (by decide)) ?_
          refine xy_r (xw_istore_n dM_product_39 (Nat.le_of_ble_eq_true rfl)) ?_
          refine xy_r (xw_Ln (L' := [some (.ref 2000), some (.ref (xn l1)), some (.int 10)]) rfl) ?_
          refine xy_r (xw_aload_n dM_product_40 rfl) ?_
          refine xy_r (xw_dup_r dM_product_41) ?_
          refine xy_r (xw_get dM_product_42 fM_221 rfl rfl) ?_
          refine xy_r (xw_iconst (1) dM_product_45 (by decide)) ?_
          refine xy_r (xw_iadd dM_product_46) ?_
          refine xy_r (xg_put dM_product_47 fM_221 rfl (by decide) (Nat.le_of_ble_eq_true rfl) (fun _ => rfl) (fun _ => rfl) (mV_o (s' := (r679.2.1, (r679.2.2.1.1, (r679.2.2.1.2.1 + 1), r679.2.2.1.2.2), r679.2.2.2)) rfl)) ?_
          refine xy_r (xw_aload_n dM_product_50 rfl) ?_
          refine xy_r (xw_iload_n dM_product_51 rfl) ?_
          refine xy_r (xw_aload_n dM_product_52 rfl) ?_
          refine xy_r (xw_aload_n dM_product_53 rfl) ?_
          rcases xg_o hF with ⟨r701, er701, hF⟩ | ⟨r701, er701, hF⟩
          · have hm702 : m0 ≤ r701.2.2.2.1.2.2.2.2.2.2.1 ∧ n0 ≤ r701.2.2.2.1.2.2.2.2.2.2.2 := xy_le hm680 (show r679.2.2.2.1.2.2.2.2.2.2.1 ≤ r701.2.2.2.1.2.2.2.2.2.2.1 ∧ r679.2.2.2.1.2.2.2.2.2.2.2 ≤ r701.2.2.2.1.2.2.2.2.2.2.2 from ((hp.2.2.2.2.1 (h := h) hb (s := (r679.2.1, (r679.2.2.1.1, (r679.2.2.1.2.1 + 1), r679.2.2.1.2.2), r679.2.2.2)) er701)).1)
            refine xy_V1 (nl := 5) (sm := r679.2.2.2.1.2.2.2.2.2.2.1) (sn := r679.2.2.2.1.2.2.2.2.2.2.2) (tm := r701.2.2.2.1.2.2.2.2.2.2.1) (tn := r701.2.2.2.1.2.2.2.2.2.2.2) (hp.2.2.2.2.1 hb (s := (r679.2.1, (r679.2.2.1.1, (r679.2.2.1.2.1 + 1), r679.2.2.1.2.2), r679.2.2.2)) er701) rfl rfl hm680 (fun _ => rfl) (fun _ => rfl) (fun _ => rfl) (fun _ => dM_product_54) (fun _ R => kM_277 R) (fun _ => rfl) ⟨by omega, by omega⟩ rfl rfl rfl (fun _ => rfl) (Nat.le_of_ble_eq_true rfl) ?_
            obtain ⟨r704, er704, hF⟩ := xg_b hF
            have hm705 : m0 ≤ r704.2.2.2.1.2.2.2.2.2.2.1 ∧ n0 ≤ r704.2.2.2.1.2.2.2.2.2.2.2 := xy_le hm702 (show r701.2.2.2.1.2.2.2.2.2.2.1 ≤ r704.2.2.2.1.2.2.2.2.2.2.1 ∧ r701.2.2.2.1.2.2.2.2.2.2.2 ≤ r704.2.2.2.1.2.2.2.2.2.2.2 from (CM_binary (w := w) (h := h) hb (s := r701.2) er704).1)
            refine xy_V1 (nl := 5) (sm := r701.2.2.2.1.2.2.2.2.2.2.1) (sn := r701.2.2.2.1.2.2.2.2.2.2.2) (tm := r704.2.2.2.1.2.2.2.2.2.2.1) (tn := r704.2.2.2.1.2.2.2.2.2.2.2) (CM_binary hb (s := r701.2) er704) rfl rfl hm702 (fun _ => rfl) (fun _ => rfl) (fun _ => rfl) (fun _ => dM_product_57) (fun _ R => kM_267 R) (fun _ => rfl) ⟨by omega, by omega⟩ rfl rfl rfl (fun _ => rfl) (Nat.le_of_ble_eq_true rfl) ?_
            refine xy_r (xw_astore_n dM_product_60 (Nat.le_of_ble_eq_true rfl)) ?_
            refine xy_r (xw_Ln (L' := [some (.ref 2000), some (.ref (xn r704.1)), some (.int 10)]) rfl) ?_
            refine xy_r (xw_goto 5 dM_product_61 (by decide)) ?_
            refine xy_r (xw_drop (L' := [some (.ref 2000), some (.ref (xn r704.1)), none]) ⟨rfl, ⟨rfl, trivial⟩⟩) ?_
            exact ih (s := r704.2) hm705 hF
          · subst hF
            exact xy_Vt (nl := 5) (sm := r679.2.2.2.1.2.2.2.2.2.2.1) (sn := r679.2.2.2.1.2.2.2.2.2.2.2) (tm := r701.2.2.2.1.2.2.2.2.2.2.1) (tn := r701.2.2.2.1.2.2.2.2.2.2.2) (hp.2.2.2.2.1 hb (s := (r679.2.1, (r679.2.2.1.1, (r679.2.2.1.2.1 + 1), r679.2.2.1.2.2), r679.2.2.2)) er701) rfl rfl hm680 (fun _ => rfl) (fun _ => rfl) (fun _ => rfl) (fun _ => dM_product_54) (fun _ R => kM_277 R) (fun _ => rfl) ⟨by omega, by omega⟩ rfl rfl rfl (fun _ => rfl) (Nat.le_of_ble_eq_true rfl) ⟨rfl, rfl⟩
        · replace hF := xg_t c700 hF
          refine xy_r (xw_bipush (9) dM_product_32 (by decide)) ?_
          refine xy_r (xw_goto 39 dM_product_34 (by decide)) ?_
          refine xy_r (xw_istore_n dM_product_39 (Nat.le_of_ble_eq_true rfl)) ?_
          refine xy_r (xw_Ln (L' := [some (.ref 2000), some (.ref (xn l1)), some (.int 9)]) rfl) ?_
          refine xy_r (xw_aload_n dM_product_40 rfl) ?_
          refine xy_r (xw_dup_r dM_product_41) ?_
          refine xy_r (xw_get dM_product_42 fM_221 rfl rfl) ?_
          refine xy_r (xw_iconst (1) dM_product_45 (by decide)) ?_
          refine xy_r (xw_iadd dM_product_46) ?_
          refine xy_r (xg_put dM_product_47 fM_221 rfl (by decide) (Nat.le_of_ble_eq_true rfl) (fun _ => rfl) (fun _ => rfl) (mV_o (s' := (r679.2.1, (r679.2.2.1.1, (r679.2.2.1.2.1 + 1), r679.2.2.1.2.2), r679.2.2.2)) rfl)) ?_
          refine xy_r (xw_aload_n dM_product_50 rfl) ?_
          refine xy_r (xw_iload_n dM_product_51 rfl) ?_
          refine xy_r (xw_aload_n dM_product_52 rfl) ?_
          refine xy_r (xw_aload_n dM_product_53 rfl) ?_
          rcases xg_o hF with ⟨r707, er707, hF⟩ | ⟨r707, er707, hF⟩
          · have hm708 : m0 ≤ r707.2.2.2.1.2.2.2.2.2.2.1 ∧ n0 ≤ r707.2.2.2.1.2.2.2.2.2.2.2 := xy_le hm680 (show r679.2.2.2.1.2.2.2.2.2.2.1 ≤ r707.2.2.2.1.2.2.2.2.2.2.1 ∧ r679.2.2.2.1.2.2.2.2.2.2.2 ≤ r707.2.2.2.1.2.2.2.2.2.2.2 from ((hp.2.2.2.2.1 (h := h) hb (s := (r679.2.1, (r679.2.2.1.1, (r679.2.2.1.2.1 + 1), r679.2.2.1.2.2), r679.2.2.2)) er707)).1)
            refine xy_V1 (nl := 5) (sm := r679.2.2.2.1.2.2.2.2.2.2.1) (sn := r679.2.2.2.1.2.2.2.2.2.2.2) (tm := r707.2.2.2.1.2.2.2.2.2.2.1) (tn := r707.2.2.2.1.2.2.2.2.2.2.2) (hp.2.2.2.2.1 hb (s := (r679.2.1, (r679.2.2.1.1, (r679.2.2.1.2.1 + 1), r679.2.2.1.2.2), r679.2.2.2)) er707) rfl rfl hm680 (fun _ => rfl) (fun _ => rfl) (fun _ => rfl) (fun _ => dM_product_54) (fun _ R => kM_277 R) (fun _ => rfl) ⟨by omega, by omega⟩ rfl rfl rfl (fun _ => rfl) (Nat.le_of_ble_eq_true rfl) ?_
            obtain ⟨r710, er710, hF⟩ := xg_b hF
            have hm711 : m0 ≤ r710.2.2.2.1.2.2.2.2.2.2.1 ∧ n0 ≤ r710.2.2.2.1.2.2.2.2.2.2.2 := xy_le hm708 (show r707.2.2.2.1.2.2.2.2.2.2.1 ≤ r710.2.2.2.1.2.2.2.2.2.2.1 ∧ r707.2.2.2.1.2.2.2.2.2.2.2 ≤ r710.2.2.2.1.2.2.2.2.2.2.2 from (CM_binary (w := w) (h := h) hb (s := r707.2) er710).1)
            refine xy_V1 (nl := 5) (sm := r707.2.2.2.1.2.2.2.2.2.2.1) (sn := r707.2.2.2.1.2.2.2.2.2.2.2) (tm := r710.2.2.2.1.2.2.2.2.2.2.1) (tn := r710.2.2.2.1.2.2.2.2.2.2.2) (CM_binary hb (s := r707.2) er710) rfl rfl hm708 (fun _ => rfl) (fun _ => rfl) (fun _ => rfl) (fun _ => dM_product_57) (fun _ R => kM_267 R) (fun _ => rfl) ⟨by omega, by omega⟩ rfl rfl rfl (fun _ => rfl) (Nat.le_of_ble_eq_true rfl) ?_
            refine xy_r (xw_astore_n dM_product_60 (Nat.le_of_ble_eq_true rfl)) ?_
            refine xy_r (xw_Ln (L' := [some (.ref 2000), some (.ref (xn r710.1)), some (.int 9)]) rfl) ?_
            refine xy_r (xw_goto 5 dM_product_61 (by decide)) ?_
            refine xy_r (xw_drop (L' := [some (.ref 2000), some (.ref (xn r710.1)), none]) ⟨rfl, ⟨rfl, trivial⟩⟩) ?_
            exact ih (s := r710.2) hm711 hF
          · subst hF
            exact xy_Vt (nl := 5) (sm := r679.2.2.2.1.2.2.2.2.2.2.1) (sn := r679.2.2.2.1.2.2.2.2.2.2.2) (tm := r707.2.2.2.1.2.2.2.2.2.2.1) (tn := r707.2.2.2.1.2.2.2.2.2.2.2) (hp.2.2.2.2.1 hb (s := (r679.2.1, (r679.2.2.1.1, (r679.2.2.1.2.1 + 1), r679.2.2.1.2.2), r679.2.2.2)) er707) rfl rfl hm680 (fun _ => rfl) (fun _ => rfl) (fun _ => rfl) (fun _ => dM_product_54) (fun _ R => kM_277 R) (fun _ => rfl) ⟨by omega, by omega⟩ rfl rfl rfl (fun _ => rfl) (Nat.le_of_ble_eq_true rfl) ⟨rfl, rfl⟩
set_option maxRecDepth 20000 in
theorem CM_product {w : xw_G} {p : xTP} {d : Nat} (hp : xKP w p d) {h : xw_H} (hb : xMb h)  {s : xMs} {out : (xo Nat xMs)} (hF : FM_product p  s = some out) : (s.2.2.1.2.2.2.2.2.2.1 ≤ (xo_s out).2.2.1.2.2.2.2.2.2.1 ∧ s.2.2.1.2.2.2.2.2.2.2 ≤ (xo_s out).2.2.1.2.2.2.2.2.2.2) ∧ xw_C w (mM_product { frames := (d + 1 + 20), cells := (xo_s out).2.2.1.2.2.2.2.2.2.1 - s.2.2.1.2.2.2.2.2.2.1, slots := (xo_s out).2.2.1.2.2.2.2.2.2.2 - s.2.2.1.2.2.2.2.2.2.2, locals := (60 * (d + 1) + 600) }) (xo_P (fun x => some (.ref (xn x))) (fun s => mV s h) out) [.ref 2000] (mV s h) := by
  unfold FM_product at hF
  refine xy_enter (L := [some (.ref 2000), none, none]) (fun _ => rfl) (fun _ => rfl) (fun _ => (show plainName "FormulaShaperModel" = true by decide +kernel)) (fun _ => (Nat.le_of_ble_eq_true rfl)) (fun _ => rfl) ?_
  have hm : s.2.2.1.2.2.2.2.2.2.1 ≤ s.2.2.1.2.2.2.2.2.2.1 ∧ s.2.2.1.2.2.2.2.2.2.2 ≤ s.2.2.1.2.2.2.2.2.2.2 := ⟨Nat.le_refl _, Nat.le_refl _⟩
  refine xy_r (xw_aload_n dM_product_0 rfl) ?_
  rcases xg_o hF with ⟨r676, er676, hF⟩ | ⟨r676, er676, hF⟩
  · have hm677 : s.2.2.1.2.2.2.2.2.2.1 ≤ r676.2.2.2.1.2.2.2.2.2.2.1 ∧ s.2.2.1.2.2.2.2.2.2.2 ≤ r676.2.2.2.1.2.2.2.2.2.2.2 := xy_le hm (show s.2.2.1.2.2.2.2.2.2.1 ≤ r676.2.2.2.1.2.2.2.2.2.2.1 ∧ s.2.2.1.2.2.2.2.2.2.2 ≤ r676.2.2.2.1.2.2.2.2.2.2.2 from ((hp.2.2.2.2.1 (h := h) hb (s := s) er676)).1)
    refine xy_V1 (nl := 5) (sm := s.2.2.1.2.2.2.2.2.2.1) (sn := s.2.2.1.2.2.2.2.2.2.2) (tm := r676.2.2.2.1.2.2.2.2.2.2.1) (tn := r676.2.2.2.1.2.2.2.2.2.2.2) (hp.2.2.2.2.1 hb (s := s) er676) rfl rfl hm (fun _ => rfl) (fun _ => rfl) (fun _ => rfl) (fun _ => dM_product_1) (fun _ R => kM_277 R) (fun _ => rfl) ⟨by omega, by omega⟩ rfl rfl rfl (fun _ => rfl) (Nat.le_of_ble_eq_true rfl) ?_
    refine xy_r (xw_astore_n dM_product_4 (Nat.le_of_ble_eq_true rfl)) ?_
    refine xy_r (xw_Ln (L' := [some (.ref 2000), some (.ref (xn r676.1)), none]) rfl) ?_
    exact CM_product_5 (hp := hp) hb xFuel (s := r676.2) hm677 hF
  · subst hF
    exact xy_Vt (nl := 5) (sm := s.2.2.1.2.2.2.2.2.2.1) (sn := s.2.2.1.2.2.2.2.2.2.2) (tm := r676.2.2.2.1.2.2.2.2.2.2.1) (tn := r676.2.2.2.1.2.2.2.2.2.2.2) (hp.2.2.2.2.1 hb (s := s) er676) rfl rfl hm (fun _ => rfl) (fun _ => rfl) (fun _ => rfl) (fun _ => dM_product_1) (fun _ R => kM_277 R) (fun _ => rfl) ⟨by omega, by omega⟩ rfl rfl rfl (fun _ => rfl) (Nat.le_of_ble_eq_true rfl) ⟨rfl, rfl⟩
def FM_factor_77 (p : xTP) : Nat → Option Nat → Option Nat → Nat → xMs → Option (xo Nat xMs)
  | 0, _, _, _, _ => none
  | fu + 1, l1, l2, l3, s => (FM_next 37 s).bind fun r742 => if r742.1 = true then ((FM_node 12 (r742.2.1, (r742.2.2.1.1, (r742.2.2.1.2.1 + 1), r742.2.2.1.2.2), r742.2.2.2)).bind fun r752 => if r752.1 < r752.2.2.2.1.2.2.2.2.1 then ((FN_add r752.1 l3 r752.2).bind fun r756 => FM_factor_77 p fu l1 l2 r752.1 r756) else none) else (xm l1 (some (.inl (l3, r742.2))) (fun i746 => (l2).bind fun i747 => if i747 < r742.2.2.2.1.2.2.2.2.1 then ((FN_add i747 l3 r742.2).bind fun r749 => some (.inl (i746, r749))) else none))
def FM_factor_4 (p : xTP) : Nat → Option Nat → Option Nat → xMs → Option (xo Nat xMs)
  | 0, _, _, _ => none
  | fu + 1, l1, l2, s => (FM_next 43 s).bind fun r713 => if r713.1 = true then ((FM_peek r713.2).bind fun r717 => if r717 = 43 then ((FM_node 10 r713.2).bind fun r728 => xm l1 (FM_factor_4 p fu (some r728.1) (some r728.1) (r728.2.1, (r728.2.2.1.1, (r728.2.2.1.2.1 + 1), r728.2.2.1.2.2), r728.2.2.2)) (fun i731 => (l2).bind fun i732 => if i732 < r728.2.2.2.1.2.2.2.2.1 then ((FN_add i732 r728.1 (r728.2.1, (r728.2.2.1.1, (r728.2.2.1.2.1 + 1), r728.2.2.1.2.2), r728.2.2.2)).bind fun r734 => FM_factor_4 p fu (some i731) (some r728.1) r734) else none)) else ((FM_node 11 r713.2).bind fun r719 => xm l1 (FM_factor_4 p fu (some r719.1) (some r719.1) (r719.2.1, (r719.2.2.1.1, (r719.2.2.1.2.1 + 1), r719.2.2.1.2.2), r719.2.2.2)) (fun i722 => (l2).bind fun i723 => if i723 < r719.2.2.2.1.2.2.2.2.1 then ((FN_add i723 r719.1 (r719.2.1, (r719.2.2.1.1, (r719.2.2.1.2.1 + 1), r719.2.2.1.2.2), r719.2.2.2)).bind fun r725 => FM_factor_4 p fu (some i722) (some r719.1) r725) else none))) else ((FM_peek r713.2).bind fun r737 => if r737 = 45 then ((FM_peek r713.2).bind fun r759 => if r759 = 43 then ((FM_node 10 r713.2).bind fun r770 => xm l1 (FM_factor_4 p fu (some r770.1) (some r770.1) (r770.2.1, (r770.2.2.1.1, (r770.2.2.1.2.1 + 1), r770.2.2.1.2.2), r770.2.2.2)) (fun i773 => (l2).bind fun i774 => if i774 < r770.2.2.2.1.2.2.2.2.1 then ((FN_add i774 r770.1 (r770.2.1, (r770.2.2.1.1, (r770.2.2.1.2.1 + 1), r770.2.2.1.2.2), r770.2.2.2)).bind fun r776 => FM_factor_4 p fu (some i773) (some r770.1) r776) else none)) else ((FM_node 11 r713.2).bind fun r761 => xm l1 (FM_factor_4 p fu (some r761.1) (some r761.1) (r761.2.1, (r761.2.2.1.1, (r761.2.2.1.2.1 + 1), r761.2.2.1.2.2), r761.2.2.2)) (fun i764 => (l2).bind fun i765 => if i765 < r761.2.2.2.1.2.2.2.2.1 then ((FN_add i765 r761.1 (r761.2.1, (r761.2.2.1.1, (r761.2.2.1.2.1 + 1), r761.2.2.1.2.2), r761.2.2.2)).bind fun r767 => FM_factor_4 p fu (some i764) (some r761.1) r767) else none))) else (xo_b (p.2.2.2.2.2.1 r713.2) fun r739 => FM_factor_77 p xFuel l1 l2 r739.1 r739.2))
/-- FormulaShaperModel.factor -/
def FM_factor (p : xTP)  (s : xMs) : Option (xo Nat xMs) := FM_factor_4 p xFuel none none s
set_option maxRecDepth 20000 in
theorem CM_factor_77 {w : xw_G} {p : xTP} {d : Nat} (hp : xKP w p d) {h : xw_H} (hb : xMb h)  : ∀ (fu : Nat) {l1 : Option Nat} {l2 : Option Nat} {l3 : Nat} {s : xMs} {out : (xo Nat xMs)} {h0 : xw_H} {m0 n0 : Nat} (hm : m0 ≤ s.2.2.1.2.2.2.2.2.2.1 ∧ n0 ≤ s.2.2.1.2.2.2.2.2.2.2), FM_factor_77 p fu l1 l2 l3 s = some out → xw_Y w mM_factor (d + 1 + 20) (60 * (d + 1) + 600) (xo_P (fun x => some (.ref (xn x))) (fun s => mV s h) out) h0 m0 n0 s.2.2.1.2.2.2.2.2.2.1 s.2.2.1.2.2.2.2.2.2.2 (xo_s out).2.2.1.2.2.2.2.2.2.1 (xo_s out).2.2.1.2.2.2.2.2.2.2 77 [some (.ref 2000), some (xw_rf l1), some (xw_rf l2), some (.ref (xn l3)), none] [] (mV s h) := by
  intro fu
  induction fu with
  | zero =>
    intro l1 l2 l3 s out h0 m0 n0 hm hF
    rw [FM_factor_77] at hF
    cases hF
  | succ fu ih =>
    intro l1 l2 l3 s out h0 m0 n0 hm hF
    rw [FM_factor_77] at hF
    refine xy_r (xw_aload_n dM_factor_77 rfl) ?_
    refine xy_r (xw_bipush (37) dM_factor_78 (by decide)) ?_
    obtain ⟨r742, er742, hF⟩ := xg_b hF
    have hm743 : m0 ≤ r742.2.2.2.1.2.2.2.2.2.2.1 ∧ n0 ≤ r742.2.2.2.1.2.2.2.2.2.2.2 := xy_le hm (show s.2.2.1.2.2.2.2.2.2.1 ≤ r742.2.2.2.1.2.2.2.2.2.2.1 ∧ s.2.2.1.2.2.2.2.2.2.2 ≤ r742.2.2.2.1.2.2.2.2.2.2.2 from (CM_next (w := w) (h := h) hb (s := s) er742).1)
    refine xy_V1 (nl := 2) (sm := s.2.2.1.2.2.2.2.2.2.1) (sn := s.2.2.1.2.2.2.2.2.2.2) (tm := r742.2.2.2.1.2.2.2.2.2.2.1) (tn := r742.2.2.2.1.2.2.2.2.2.2.2) (CM_next hb (s := s) er742) rfl rfl hm (fun _ => rfl) (fun _ => rfl) (fun _ => rfl) (fun _ => dM_factor_80) (fun _ R => kM_236 R) (fun _ => rfl) ⟨by omega, by omega⟩ rfl rfl rfl (fun _ => rfl) (Nat.le_of_ble_eq_true rfl) ?_
    refine xy_brn (xw_if_eqB 116 dM_factor_83 (by decide)) (fun c745 => ?_) (fun c745 => ?_)
    · replace hF := xg_f c745 hF
      refine xy_r (xg_aload_n dM_factor_116 rfl) ?_
      rcases xg_m hF with ⟨ei746, hF⟩ | ⟨i746, ei746, hF⟩
      · refine xy_r (xw_Ln (L' := [some (.ref 2000), some (.null), some (xw_rf l2), some (.ref (xn l3)), none]) (by first | (rw [ei746]; done) | (rw [ei746]; rfl))) ?_
        refine xy_r (xw_Sn (st' := [.null]) (by first | (rw [ei746]; done) | (rw [ei746]; rfl))) ?_
        refine xy_r (xw_ifnonnull_n dM_factor_117) ?_
        refine xy_r (xw_aload_n dM_factor_120 rfl) ?_
        obtain rfl := Option.some.inj hF
        exact xy_end (xw_areturn dM_factor_121 rfl (Or.inl ⟨_, rfl⟩) (Nat.le_refl _) (Nat.le_refl _) ⟨rfl, rfl⟩)
      · refine xy_r (xw_Ln (L' := [some (.ref 2000), some (.ref (xn i746)), some (xw_rf l2), some (.ref (xn l3)), none]) (by first | (rw [ei746]; done) | (rw [ei746]; rfl))) ?_
        refine xy_r (xw_Sn (st' := [.ref (xn i746)]) (by first | (rw [ei746]; done) | (rw [ei746]; rfl))) ?_
        refine xy_r (xw_ifnonnull_r 122 dM_factor_117 (by decide)) ?_
        refine xy_r (xg_aload_n dM_factor_122 rfl) ?_
        refine xy_r (xw_aload_n dM_factor_123 rfl) ?_
        obtain ⟨i747, ei747, hF⟩ := xg_b hF
        refine xy_r (xw_Ln (L' := [some (.ref 2000), some (.ref (xn i746)), some (.ref (xn i747)), some (.ref (xn l3)), none]) (by first | (rw [ei747]; done) | (rw [ei747]; rfl))) ?_
        refine xy_r (xw_Sn (st' := [.ref (xn l3), .ref (xn i747)]) (by first | (rw [ei747]; done) | (rw [ei747]; rfl))) ?_
        obtain ⟨g748, hF⟩ := xg_g hF
        obtain ⟨r749, er749, hF⟩ := xg_b hF
        have hm750 : m0 ≤ r749.2.2.1.2.2.2.2.2.2.1 ∧ n0 ≤ r749.2.2.1.2.2.2.2.2.2.2 := xy_le hm743 (show r742.2.2.2.1.2.2.2.2.2.2.1 ≤ r749.2.2.1.2.2.2.2.2.2.1 ∧ r742.2.2.2.1.2.2.2.2.2.2.2 ≤ r749.2.2.1.2.2.2.2.2.2.2 from (CN_add (w := w) (h := h) hb (s := r742.2) er749).1)
        refine xy_V0 (nl := 2) (sm := r742.2.2.2.1.2.2.2.2.2.2.1) (sn := r742.2.2.2.1.2.2.2.2.2.2.2) (tm := r749.2.2.1.2.2.2.2.2.2.1) (tn := r749.2.2.1.2.2.2.2.2.2.2) (CN_add hb (s := r742.2) er749) rfl rfl hm743 (fun _ => rfl) (fun _ => rfl) (fun _ => rfl) (fun _ => dM_factor_124) (fun _ R => kM_257 R) (fun _ => rfl) ⟨by omega, by omega⟩ rfl rfl (mV_n g748) (fun _ => rfl) (Nat.le_of_ble_eq_true rfl) ?_
        refine xy_r (xw_aload_n dM_factor_127 rfl) ?_
        obtain rfl := Option.some.inj hF
        exact xy_end (xw_areturn dM_factor_128 rfl (Or.inl ⟨_, rfl⟩) (Nat.le_refl _) (Nat.le_refl _) ⟨rfl, rfl⟩)
    · replace hF := xg_t c745 hF
      refine xy_r (xw_aload_n dM_factor_86 rfl) ?_
      refine xy_r (xw_dup_r dM_factor_87) ?_
      refine xy_r (xw_get dM_factor_88 fM_221 rfl rfl) ?_
      refine xy_r (xw_iconst (1) dM_factor_91 (by decide)) ?_
      refine xy_r (xw_iadd dM_factor_92) ?_
      refine xy_r (xg_put dM_factor_93 fM_221 rfl (by decide) (Nat.le_of_ble_eq_true rfl) (fun _ => rfl) (fun _ => rfl) (mV_o (s' := (r742.2.1, (r742.2.2.1.1, (r742.2.2.1.2.1 + 1), r742.2.2.1.2.2), r742.2.2.2)) rfl)) ?_
      refine xy_r (xw_aload_n dM_factor_96 rfl) ?_
      refine xy_r (xw_bipush (12) dM_factor_97 (by decide)) ?_
      obtain ⟨r752, er752, hF⟩ := xg_b hF
      have hm753 : m0 ≤ r752.2.2.2.1.2.2.2.2.2.2.1 ∧ n0 ≤ r752.2.2.2.1.2.2.2.2.2.2.2 := xy_le hm743 (show r742.2.2.2.1.2.2.2.2.2.2.1 ≤ r752.2.2.2.1.2.2.2.2.2.2.1 ∧ r742.2.2.2.1.2.2.2.2.2.2.2 ≤ r752.2.2.2.1.2.2.2.2.2.2.2 from (CM_node (w := w) (h := h) hb (s := (r742.2.1, (r742.2.2.1.1, (r742.2.2.1.2.1 + 1), r742.2.2.1.2.2), r742.2.2.2)) er752).1)
      refine xy_V1 (nl := 4) (sm := r742.2.2.2.1.2.2.2.2.2.2.1) (sn := r742.2.2.2.1.2.2.2.2.2.2.2) (tm := r752.2.2.2.1.2.2.2.2.2.2.1) (tn := r752.2.2.2.1.2.2.2.2.2.2.2) (CM_node hb (s := (r742.2.1, (r742.2.2.1.1, (r742.2.2.1.2.1 + 1), r742.2.2.1.2.2), r742.2.2.2)) er752) rfl rfl hm743 (fun _ => rfl) (fun _ => rfl) (fun _ => rfl) (fun _ => dM_factor_99) (fun _ R => kM_253 R) (fun _ => rfl) ⟨by omega, by omega⟩ rfl rfl rfl (fun _ => rfl) (Nat.le_of_ble_eq_true rfl) ?_
      refine xy_r (xw_astore dM_factor_102 (Nat.le_of_ble_eq_true rfl)) ?_
      refine xy_r (xw_Ln (L' := [some (.ref 2000), some (xw_rf l1), some (xw_rf l2), some (.ref (xn l3)), some (.ref (xn r752.1))]) rfl) ?_
      refine xy_r (xw_aload dM_factor_104 rfl) ?_
      refine xy_r (xw_aload_n dM_factor_106 rfl) ?_
      obtain ⟨g755, hF⟩ := xg_g hF
      obtain ⟨r756, er756, hF⟩ := xg_b hF
      have hm757 : m0 ≤ r756.2.2.1.2.2.2.2.2.2.1 ∧ n0 ≤ r756.2.2.1.2.2.2.2.2.2.2 := xy_le hm753 (show r752.2.2.2.1.2.2.2.2.2.2.1 ≤ r756.2.2.1.2.2.2.2.2.2.1 ∧ r752.2.2.2.1.2.2.2.2.2.2.2 ≤ r756.2.2.1.2.2.2.2.2.2.2 from (CN_add (w := w) (h := h) hb (s := r752.2) er756).1)
      refine xy_V0 (nl := 2) (sm := r752.2.2.2.1.2.2.2.2.2.2.1) (sn := r752.2.2.2.1.2.2.2.2.2.2.2) (tm := r756.2.2.1.2.2.2.2.2.2.1) (tn := r756.2.2.1.2.2.2.2.2.2.2) (CN_add hb (s := r752.2) er756) rfl rfl hm753 (fun _ => rfl) (fun _ => rfl) (fun _ => rfl) (fun _ => dM_factor_107) (fun _ R => kM_257 R) (fun _ => rfl) ⟨by omega, by omega⟩ rfl rfl (mV_n g755) (fun _ => rfl) (Nat.le_of_ble_eq_true rfl) ?_
      refine xy_r (xw_aload dM_factor_110 rfl) ?_
      refine xy_r (xw_astore_n dM_factor_112 (Nat.le_of_ble_eq_true rfl)) ?_
      refine xy_r (xw_Ln (L' := [some (.ref 2000), some (xw_rf l1), some (xw_rf l2), some (.ref (xn r752.1)), some (.ref (xn r752.1))]) (by generalize l2 = e9; cases e9 <;> rfl)) ?_
      refine xy_r (xw_goto 77 dM_factor_113 (by decide)) ?_
      refine xy_r (xw_drop (L' := [some (.ref 2000), some (xw_rf l1), some (xw_rf l2), some (.ref (xn r752.1)), none]) ⟨rfl, ⟨rfl, ⟨rfl, ⟨rfl, trivial⟩⟩⟩⟩) ?_
      exact ih (s := r756) hm757 hF
set_option maxRecDepth 20000 in
theorem CM_factor_4 {w : xw_G} {p : xTP} {d : Nat} (hp : xKP w p d) {h : xw_H} (hb : xMb h)  : ∀ (fu : Nat) {l1 : Option Nat} {l2 : Option Nat} {s : xMs} {out : (xo Nat xMs)} {h0 : xw_H} {m0 n0 : Nat} (hm : m0 ≤ s.2.2.1.2.2.2.2.2.2.1 ∧ n0 ≤ s.2.2.1.2.2.2.2.2.2.2), FM_factor_4 p fu l1 l2 s = some out → xw_Y w mM_factor (d + 1 + 20) (60 * (d + 1) + 600) (xo_P (fun x => some (.ref (xn x))) (fun s => mV s h) out) h0 m0 n0 s.2.2.1.2.2.2.2.2.2.1 s.2.2.1.2.2.2.2.2.2.2 (xo_s out).2.2.1.2.2.2.2.2.2.1 (xo_s out).2.2.1.2.2.2.2.2.2.2 4 [some (.ref 2000), some (xw_rf l1), some (xw_rf l2), none, none] [] (mV s h) := by
  intro fu
  induction fu with
  | zero =>
    intro l1 l2 s out h0 m0 n0 hm hF
    rw [FM_factor_4] at hF
    cases hF
  | succ fu ih =>
    intro l1 l2 s out h0 m0 n0 hm hF
    rw [FM_factor_4] at hF
    refine xy_r (xw_aload_n dM_factor_4 rfl) ?_
    refine xy_r (xw_bipush (43) dM_factor_5 (by decide)) ?_
    obtain ⟨r713, er713, hF⟩ := xg_b hF
    have hm714 : m0 ≤ r713.2.2.2.1.2.2.2.2.2.2.1 ∧ n0 ≤ r713.2.2.2.1.2.2.2.2.2.2.2 := xy_le hm (show s.2.2.1.2.2.2.2.2.2.1 ≤ r713.2.2.2.1.2.2.2.2.2.2.1 ∧ s.2.2.1.2.2.2.2.2.2.2 ≤ r713.2.2.2.1.2.2.2.2.2.2.2 from (CM_next (w := w) (h := h) hb (s := s) er713).1)
    refine xy_V1 (nl := 2) (sm := s.2.2.1.2.2.2.2.2.2.1) (sn := s.2.2.1.2.2.2.2.2.2.2) (tm := r713.2.2.2.1.2.2.2.2.2.2.1) (tn := r713.2.2.2.1.2.2.2.2.2.2.2) (CM_next hb (s := s) er713) rfl rfl hm (fun _ => rfl) (fun _ => rfl) (fun _ => rfl) (fun _ => dM_factor_7) (fun _ R => kM_236 R) (fun _ => rfl) ⟨by omega, by omega⟩ rfl rfl rfl (fun _ => rfl) (Nat.le_of_ble_eq_true rfl) ?_
    refine xy_br (xw_if_neB 22 dM_factor_10 (by decide)) (fun c716 => ?_) (fun c716 => ?_)
    · replace hF := xg_t c716 hF
      refine xy_r (xw_aload_n dM_factor_22 rfl) ?_
      refine xy_r (xw_aload_n dM_factor_23 rfl) ?_
      obtain ⟨r717, er717, hF⟩ := xg_b hF
      refine xy_q (fun hq => xg_V1 (k1 := _) (n1 := _) (CM_peek er717) rfl rfl rfl dM_factor_24 (kM_230 _) (xZP (Nat.le_of_ble_eq_true rfl) (Nat.le_of_ble_eq_true rfl)) rfl rfl rfl rfl (Nat.le_of_ble_eq_true rfl) (Nat.le_refl _) (Nat.le_refl _) (Nat.sub_le_sub_right hq.1 _) (Nat.sub_le_sub_right hq.2 _)) ?_
      refine xy_r (xw_bipush (43) dM_factor_27 (by decide)) ?_
      refine xy_brn (xw_icmp_ne 37 dM_factor_29 (by decide)) (fun c718 => ?_) (fun c718 => ?_)
      · replace hF := xg_f c718 hF
        refine xy_r (xw_bipush (11) dM_factor_37 (by decide)) ?_
        obtain ⟨r719, er719, hF⟩ := xg_b hF
        have hm720 : m0 ≤ r719.2.2.2.1.2.2.2.2.2.2.1 ∧ n0 ≤ r719.2.2.2.1.2.2.2.2.2.2.2 := xy_le hm714 (show r713.2.2.2.1.2.2.2.2.2.2.1 ≤ r719.2.2.2.1.2.2.2.2.2.2.1 ∧ r713.2.2.2.1.2.2.2.2.2.2.2 ≤ r719.2.2.2.1.2.2.2.2.2.2.2 from (CM_node (w := w) (h := h) hb (s := r713.2) er719).1)
        refine xy_V1 (nl := 4) (sm := r713.2.2.2.1.2.2.2.2.2.2.1) (sn := r713.2.2.2.1.2.2.2.2.2.2.2) (tm := r719.2.2.2.1.2.2.2.2.2.2.1) (tn := r719.2.2.2.1.2.2.2.2.2.2.2) (CM_node hb (s := r713.2) er719) rfl rfl hm714 (fun _ => rfl) (fun _ => rfl) (fun _ => rfl) (fun _ => dM_factor_39) (fun _ R => kM_253 R) (fun _ => rfl) ⟨by omega, by omega⟩ rfl rfl rfl (fun _ => rfl) (Nat.le_of_ble_eq_true rfl) ?_
        refine xy_r (xw_astore_n dM_factor_42 (Nat.le_of_ble_eq_true rfl)) ?_
        refine xy_r (xw_Ln (L' := [some (.ref 2000), some (xw_rf l1), some (xw_rf l2), some (.ref (xn r719.1)), none]) (by generalize l2 = e9; cases e9 <;> rfl)) ?_
        refine xy_r (xw_aload_n dM_factor_43 rfl) ?_
        refine xy_r (xw_dup_r dM_factor_44) ?_
        refine xy_r (xw_get dM_factor_45 fM_221 rfl rfl) ?_
        refine xy_r (xw_iconst (1) dM_factor_48 (by decide)) ?_
        refine xy_r (xw_iadd dM_factor_49) ?_
        refine xy_r (xg_put dM_factor_50 fM_221 rfl (by decide) (Nat.le_of_ble_eq_true rfl) (fun _ => rfl) (fun _ => rfl) (mV_o (s' := (r719.2.1, (r719.2.2.1.1, (r719.2.2.1.2.1 + 1), r719.2.2.1.2.2), r719.2.2.2)) rfl)) ?_
        refine xy_r (xg_aload_n dM_factor_53 rfl) ?_
        rcases xg_m hF with ⟨ei722, hF⟩ | ⟨i722, ei722, hF⟩
        · refine xy_r (xw_Ln (L' := [some (.ref 2000), some (.null), some (xw_rf l2), some (.ref (xn r719.1)), none]) (by first | (rw [ei722]; done) | (rw [ei722]; rfl))) ?_
          refine xy_r (xw_Sn (st' := [.null]) (by first | (rw [ei722]; done) | (rw [ei722]; rfl))) ?_
          refine xy_r (xw_ifnonnull_n dM_factor_54) ?_
          refine xy_r (xw_aload_n dM_factor_57 rfl) ?_
          refine xy_r (xw_astore_n dM_factor_58 (Nat.le_of_ble_eq_true rfl)) ?_
          refine xy_r (xw_Ln (L' := [some (.ref 2000), some (.ref (xn r719.1)), some (xw_rf l2), some (.ref (xn r719.1)), none]) rfl) ?_
          refine xy_r (xw_goto 67 dM_factor_59 (by decide)) ?_
          refine xy_r (xw_aload_n dM_factor_67 rfl) ?_
          refine xy_r (xw_astore_n dM_factor_68 (Nat.le_of_ble_eq_true rfl)) ?_
          refine xy_r (xw_Ln (L' := [some (.ref 2000), some (.ref (xn r719.1)), some (.ref (xn r719.1)), some (.ref (xn r719.1)), none]) rfl) ?_
          refine xy_r (xw_goto 4 dM_factor_69 (by decide)) ?_
          refine xy_r (xw_drop (L' := [some (.ref 2000), some (xw_rf (some r719.1)), some (xw_rf (some r719.1)), none, none]) ⟨rfl, ⟨rfl, ⟨rfl, trivial⟩⟩⟩) ?_
          exact ih (s := (r719.2.1, (r719.2.2.1.1, (r719.2.2.1.2.1 + 1), r719.2.2.1.2.2), r719.2.2.2)) hm720 hF
        · refine xy_r (xw_Ln (L' := [some (.ref 2000), some (.ref (xn i722)), some (xw_rf l2), some (.ref (xn r719.1)), none]) (by first | (rw [ei722]; done) | (rw [ei722]; rfl))) ?_
          refine xy_r (xw_Sn (st' := [.ref (xn i722)]) (by first | (rw [ei722]; done) | (rw [ei722]; rfl))) ?_
          refine xy_r (xw_ifnonnull_r 62 dM_factor_54 (by decide)) ?_
          refine xy_r (xg_aload_n dM_factor_62 rfl) ?_
          refine xy_r (xw_aload_n dM_factor_63 rfl) ?_
          obtain ⟨i723, ei723, hF⟩ := xg_b hF
          refine xy_r (xw_Ln (L' := [some (.ref 2000), some (.ref (xn i722)), some (.ref (xn i723)), some (.ref (xn r719.1)), none]) (by first | (rw [ei723]; done) | (rw [ei723]; rfl))) ?_
          refine xy_r (xw_Sn (st' := [.ref (xn r719.1), .ref (xn i723)]) (by first | (rw [ei723]; done) | (rw [ei723]; rfl))) ?_
          obtain ⟨g724, hF⟩ := xg_g hF
          obtain ⟨r725, er725, hF⟩ := xg_b hF
          have hm726 : m0 ≤ r725.2.2.1.2.2.2.2.2.2.1 ∧ n0 ≤ r725.2.2.1.2.2.2.2.2.2.2 := xy_le hm720 (show r719.2.2.2.1.2.2.2.2.2.2.1 ≤ r725.2.2.1.2.2.2.2.2.2.1 ∧ r719.2.2.2.1.2.2.2.2.2.2.2 ≤ r725.2.2.1.2.2.2.2.2.2.2 from (CN_add (w := w) (h := h) hb (s := (r719.2.1, (r719.2.2.1.1, (r719.2.2.1.2.1 + 1), r719.2.2.1.2.2), r719.2.2.2)) er725).1)
          refine xy_V0 (nl := 2) (sm := r719.2.2.2.1.2.2.2.2.2.2.1) (sn := r719.2.2.2.1.2.2.2.2.2.2.2) (tm := r725.2.2.1.2.2.2.2.2.2.1) (tn := r725.2.2.1.2.2.2.2.2.2.2) (CN_add hb (s := (r719.2.1, (r719.2.2.1.1, (r719.2.2.1.2.1 + 1), r719.2.2.1.2.2), r719.2.2.2)) er725) rfl rfl hm720 (fun _ => rfl) (fun _ => rfl) (fun _ => rfl) (fun _ => dM_factor_64) (fun _ R => kM_257 R) (fun _ => rfl) ⟨by omega, by omega⟩ rfl rfl (mV_n g724) (fun _ => rfl) (Nat.le_of_ble_eq_true rfl) ?_
          refine xy_r (xw_aload_n dM_factor_67 rfl) ?_
          refine xy_r (xw_astore_n dM_factor_68 (Nat.le_of_ble_eq_true rfl)) ?_
          refine xy_r (xw_Ln (L' := [some (.ref 2000), some (.ref (xn i722)), some (.ref (xn r719.1)), some (.ref (xn r719.1)), none]) rfl) ?_
          refine xy_r (xw_goto 4 dM_factor_69 (by decide)) ?_
          refine xy_r (xw_drop (L' := [some (.ref 2000), some (xw_rf (some i722)), some (xw_rf (some r719.1)), none, none]) ⟨rfl, ⟨rfl, ⟨rfl, trivial⟩⟩⟩) ?_
          exact ih (s := r725) hm726 hF
      · replace hF := xg_t c718 hF
        refine xy_r (xw_bipush (10) dM_factor_32 (by decide)) ?_
        refine xy_r (xw_goto 39 dM_factor_34 (by decide)) ?_
        obtain ⟨r728, er728, hF⟩ := xg_b hF
        have hm729 : m0 ≤ r728.2.2.2.1.2.2.2.2.2.2.1 ∧ n0 ≤ r728.2.2.2.1.2.2.2.2.2.2.2 := xy_le hm714 (show r713.2.2.2.1.2.2.2.2.2.2.1 ≤ r728.2.2.2.1.2.2.2.2.2.2.1 ∧ r713.2.2.2.1.2.2.2.2.2.2.2 ≤ r728.2.2.2.1.2.2.2.2.2.2.2 from (CM_node (w := w) (h := h) hb (s := r713.2) er728).1)
        refine xy_V1 (nl := 4) (sm := r713.2.2.2.1.2.2.2.2.2.2.1) (sn := r713.2.2.2.1.2.2.2.2.2.2.2) (tm := r728.2.2.2.1.2.2.2.2.2.2.1) (tn := r728.2.2.2.1.2.2.2.2.2.2.2) (CM_node hb (s := r713.2) er728) rfl rfl hm714 (fun _ => rfl) (fun _ => rfl) (fun _ => rfl) (fun _ => dM_factor_39) (fun _ R => kM_253 R) (fun _ => rfl) ⟨by omega, by omega⟩ rfl rfl rfl (fun _ => rfl) (Nat.le_of_ble_eq_true rfl) ?_
        refine xy_r (xw_astore_n dM_factor_42 (Nat.le_of_ble_eq_true rfl)) ?_
        refine xy_r (xw_Ln (L' := [some (.ref 2000), some (xw_rf l1), some (xw_rf l2), some (.ref (xn r728.1)), none]) (by generalize l2 = e9; cases e9 <;> rfl)) ?_
        refine xy_r (xw_aload_n dM_factor_43 rfl) ?_
        refine xy_r (xw_dup_r dM_factor_44) ?_
        refine xy_r (xw_get dM_factor_45 fM_221 rfl rfl) ?_
        refine xy_r (xw_iconst (1) dM_factor_48 (by decide)) ?_
        refine xy_r (xw_iadd dM_factor_49) ?_
        refine xy_r (xg_put dM_factor_50 fM_221 rfl (by decide) (Nat.le_of_ble_eq_true rfl) (fun _ => rfl) (fun _ => rfl) (mV_o (s' := (r728.2.1, (r728.2.2.1.1, (r728.2.2.1.2.1 + 1), r728.2.2.1.2.2), r728.2.2.2)) rfl)) ?_
        refine xy_r (xg_aload_n dM_factor_53 rfl) ?_
        rcases xg_m hF with ⟨ei731, hF⟩ | ⟨i731, ei731, hF⟩
        · refine xy_r (xw_Ln (L' := [some (.ref 2000), some (.null), some (xw_rf l2), some (.ref (xn r728.1)), none]) (by first | (rw [ei731]; done) | (rw [ei731]; rfl))) ?_
          refine xy_r (xw_Sn (st' := [.null]) (by first | (rw [ei731]; done) | (rw [ei731]; rfl))) ?_
          refine xy_r (xw_ifnonnull_n dM_factor_54) ?_
          refine xy_r (xw_aload_n dM_factor_57 rfl) ?_
          refine xy_r (xw_astore_n dM_factor_58 (Nat.le_of_ble_eq_true rfl)) ?_
          refine xy_r (xw_Ln (L' := [some (.ref 2000), some (.ref (xn r728.1)), some (xw_rf l2), some (.ref (xn r728.1)), none]) rfl) ?_
          refine xy_r (xw_goto 67 dM_factor_59 (by decide)) ?_
          refine xy_r (xw_aload_n dM_factor_67 rfl) ?_
          refine xy_r (xw_astore_n dM_factor_68 (Nat.le_of_ble_eq_true rfl)) ?_
          refine xy_r (xw_Ln (L' := [some (.ref 2000), some (.ref (xn r728.1)), some (.ref (xn r728.1)), some (.ref (xn r728.1)), none]) rfl) ?_
          refine xy_r (xw_goto 4 dM_factor_69 (by decide)) ?_
          refine xy_r (xw_drop (L' := [some (.ref 2000), some (xw_rf (some r728.1)), some (xw_rf (some r728.1)), none, none]) ⟨rfl, ⟨rfl, ⟨rfl, trivial⟩⟩⟩) ?_
          exact ih (s := (r728.2.1, (r728.2.2.1.1, (r728.2.2.1.2.1 + 1), r728.2.2.1.2.2), r728.2.2.2)) hm729 hF
        · refine xy_r (xw_Ln (L' := [some (.ref 2000), some (.ref (xn i731)), some (xw_rf l2), some (.ref (xn r728.1)), none]) (by first | (rw [ei731]; done) | (rw [ei731]; rfl))) ?_
          refine xy_r (xw_Sn (st' := [.ref (xn i731)]) (by first | (rw [ei731]; done) | (rw [ei731]; rfl))) ?_
          refine xy_r (xw_ifnonnull_r 62 dM_factor_54 (by decide)) ?_
          refine xy_r (xg_aload_n dM_factor_62 rfl) ?_
          refine xy_r (xw_aload_n dM_factor_63 rfl) ?_
          obtain ⟨i732, ei732, hF⟩ := xg_b hF
          refine xy_r (xw_Ln (L' := [some (.ref 2000), some (.ref (xn i731)), some (.ref (xn i732)), some (.ref (xn r728.1)), none]) (by first | (rw [ei732]; done) | (rw [ei732]; rfl))) ?_
          refine xy_r (xw_Sn (st' := [.ref (xn r728.1), .ref (xn i732)]) (by first | (rw [ei732]; done) | (rw [ei732]; rfl))) ?_
          obtain ⟨g733, hF⟩ := xg_g hF
          obtain ⟨r734, er734, hF⟩ := xg_b hF
          have hm735 : m0 ≤ r734.2.2.1.2.2.2.2.2.2.1 ∧ n0 ≤ r734.2.2.1.2.2.2.2.2.2.2 := xy_le hm729 (show r728.2.2.2.1.2.2.2.2.2.2.1 ≤ r734.2.2.1.2.2.2.2.2.2.1 ∧ r728.2.2.2.1.2.2.2.2.2.2.2 ≤ r734.2.2.1.2.2.2.2.2.2.2 from (CN_add (w := w) (h := h) hb (s := (r728.2.1, (r728.2.2.1.1, (r728.2.2.1.2.1 + 1), r728.2.2.1.2.2), r728.2.2.2)) er734).1)
          refine xy_V0 (nl := 2) (sm := r728.2.2.2.1.2.2.2.2.2.2.1) (sn := r728.2.2.2.1.2.2.2.2.2.2.2) (tm := r734.2.2.1.2.2.2.2.2.2.1) (tn := r734.2.2.1.2.2.2.2.2.2.2) (CN_add hb (s := (r728.2.1, (r728.2.2.1.1, (r728.2.2.1.2.1 + 1), r728.2.2.1.2.2), r728.2.2.2)) er734) rfl rfl hm729 (fun _ => rfl) (fun _ => rfl) (fun _ => rfl) (fun _ => dM_factor_64) (fun _ R => kM_257 R) (fun _ => rfl) ⟨by omega, by omega⟩ rfl rfl (mV_n g733) (fun _ => rfl) (Nat.le_of_ble_eq_true rfl) ?_
          refine xy_r (xw_aload_n dM_factor_67 rfl) ?_
          refine xy_r (xw_astore_n dM_factor_68 (Nat.le_of_ble_eq_true rfl)) ?_
          refine xy_r (xw_Ln (L' := [some (.ref 2000), some (.ref (xn i731)), some (.ref (xn r728.1)), some (.ref (xn r728.1)), none]) rfl) ?_
          refine xy_r (xw_goto 4 dM_factor_69 (by decide)) ?_
          refine xy_r (xw_drop (L' := [some (.ref 2000), some (xw_rf (some i731)), some (xw_rf (some r728.1)), none, none]) ⟨rfl, ⟨rfl, ⟨rfl, trivial⟩⟩⟩) ?_
          exact ih (s := r734) hm735 hF
    · replace hF := xg_f c716 hF
      refine xy_r (xw_aload_n dM_factor_13 rfl) ?_
      obtain ⟨r737, er737, hF⟩ := xg_b hF
      refine xy_q (fun hq => xg_V1 (k1 := _) (n1 := _) (CM_peek er737) rfl rfl rfl dM_factor_14 (kM_230 _) (xZP (Nat.le_of_ble_eq_true rfl) (Nat.le_of_ble_eq_true rfl)) rfl rfl rfl rfl (Nat.le_of_ble_eq_true rfl) (Nat.le_refl _) (Nat.le_refl _) (Nat.sub_le_sub_right hq.1 _) (Nat.sub_le_sub_right hq.2 _)) ?_
      refine xy_r (xw_bipush (45) dM_factor_17 (by decide)) ?_
      refine xy_brn (xw_icmp_ne 72 dM_factor_19 (by decide)) (fun c738 => ?_) (fun c738 => ?_)
      · replace hF := xg_f c738 hF
        refine xy_r (xw_aload_n dM_factor_72 rfl) ?_
        rcases xg_o hF with ⟨r739, er739, hF⟩ | ⟨r739, er739, hF⟩
        · have hm740 : m0 ≤ r739.2.2.2.1.2.2.2.2.2.2.1 ∧ n0 ≤ r739.2.2.2.1.2.2.2.2.2.2.2 := xy_le hm714 (show r713.2.2.2.1.2.2.2.2.2.2.1 ≤ r739.2.2.2.1.2.2.2.2.2.2.1 ∧ r713.2.2.2.1.2.2.2.2.2.2.2 ≤ r739.2.2.2.1.2.2.2.2.2.2.2 from ((hp.2.2.2.2.2.1 (h := h) hb (s := r713.2) er739)).1)
          refine xy_V1 (nl := 3) (sm := r713.2.2.2.1.2.2.2.2.2.2.1) (sn := r713.2.2.2.1.2.2.2.2.2.2.2) (tm := r739.2.2.2.1.2.2.2.2.2.2.1) (tn := r739.2.2.2.1.2.2.2.2.2.2.2) (hp.2.2.2.2.2.1 hb (s := r713.2) er739) rfl rfl hm714 (fun _ => rfl) (fun _ => rfl) (fun _ => rfl) (fun _ => dM_factor_73) (fun _ R => kM_280 R) (fun _ => rfl) ⟨by omega, by omega⟩ rfl rfl rfl (fun _ => rfl) (Nat.le_of_ble_eq_true rfl) ?_
          refine xy_r (xw_astore_n dM_factor_76 (Nat.le_of_ble_eq_true rfl)) ?_
          refine xy_r (xw_Ln (L' := [some (.ref 2000), some (xw_rf l1), some (xw_rf l2), some (.ref (xn r739.1)), none]) (by generalize l2 = e9; cases e9 <;> rfl)) ?_
          exact CM_factor_77 (hp := hp) hb xFuel (s := r739.2) hm740 hF
        · subst hF
          exact xy_Vt (nl := 3) (sm := r713.2.2.2.1.2.2.2.2.2.2.1) (sn := r713.2.2.2.1.2.2.2.2.2.2.2) (tm := r739.2.2.2.1.2.2.2.2.2.2.1) (tn := r739.2.2.2.1.2.2.2.2.2.2.2) (hp.2.2.2.2.2.1 hb (s := r713.2) er739) rfl rfl hm714 (fun _ => rfl) (fun _ => rfl) (fun _ => rfl) (fun _ => dM_factor_73) (fun _ R => kM_280 R) (fun _ => rfl) ⟨by omega, by omega⟩ rfl rfl rfl (fun _ => rfl) (Nat.le_of_ble_eq_true rfl) ⟨rfl, rfl⟩
      · replace hF := xg_t c738 hF
        refine xy_r (xw_aload_n dM_factor_22 rfl) ?_
        refine xy_r (xw_aload_n dM_factor_23 rfl) ?_
        obtain ⟨r759, er759, hF⟩ := xg_b hF
        refine xy_q (fun hq => xg_V1 (k1 := _) (n1 := _) (CM_peek er759) rfl rfl rfl dM_factor_24 (kM_230 _) (xZP (Nat.le_of_ble_eq_true rfl) (Nat.le_of_ble_eq_true rfl)) rfl rfl rfl rfl (Nat.le_of_ble_eq_true rfl) (Nat.le_refl _) (Nat.le_refl _) (Nat.sub_le_sub_right hq.1 _) (Nat.sub_le_sub_right hq.2 _)) ?_
        refine xy_r (xw_bipush (43) dM_factor_27 (by decide)) ?_
        refine xy_brn (xw_icmp_ne 37 dM_factor_29 (by decide)) (fun c760 => ?_) (fun c760 => ?_)
        · replace hF := xg_f c760 hF
          refine xy_r (xw_bipush (11) dM_factor_37 (by decide)) ?_
          obtain ⟨r761, er761, hF⟩ := xg_b hF
          have hm762 : m0 ≤ r761.2.2.2.1.2.2.2.2.2.2.1 ∧ n0 ≤ r761.2.2.2.1.2.2.2.2.2.2.2 := xy_le hm714 (show r713.2.2.2.1.2.2.2.2.2.2.1 ≤ r761.2.2.2.1.2.2.2.2.2.2.1 ∧ r713.2.2.2.1.2.2.2.2.2.2.2 ≤ r761.2.2.2.1.2.2.2.2.2.2.2 from (CM_node (w := w) (h := h) hb (s := r713.2) er761).1)
          refine xy_V1 (nl := 4) (sm := r713.2.2.2.1.2.2.2.2.2.2.1) (sn := r713.2.2.2.1.2.2.2.2.2.2.2) (tm := r761.2.2.2.1.2.2.2.2.2.2.1) (tn := r761.2.2.2.1.2.2.2.2.2.2.2) (CM_node hb (s := r713.2) er761) rfl rfl hm714 (fun _ => rfl) (fun _ => rfl) (fun _ => rfl) (fun _ => dM_factor_39) (fun _ R => kM_253 R) (fun _ => rfl) ⟨by omega, by omega⟩ rfl rfl rfl (fun _ => rfl) (Nat.le_of_ble_eq_true rfl) ?_
          refine xy_r (xw_astore_n dM_factor_42 (Nat.le_of_ble_eq_true rfl)) ?_
          refine xy_r (xw_Ln (L' := [some (.ref 2000), some (xw_rf l1), some (xw_rf l2), some (.ref (xn r761.1)), none]) (by generalize l2 = e9; cases e9 <;> rfl)) ?_
          refine xy_r (xw_aload_n dM_factor_43 rfl) ?_
          refine xy_r (xw_dup_r dM_factor_44) ?_
          refine xy_r (xw_get dM_factor_45 fM_221 rfl rfl) ?_
          refine xy_r (xw_iconst (1) dM_factor_48 (by decide)) ?_
          refine xy_r (xw_iadd dM_factor_49) ?_
          refine xy_r (xg_put dM_factor_50 fM_221 rfl (by decide) (Nat.le_of_ble_eq_true rfl) (fun _ => rfl) (fun _ => rfl) (mV_o (s' := (r761.2.1, (r761.2.2.1.1, (r761.2.2.1.2.1 + 1), r761.2.2.1.2.2), r761.2.2.2)) rfl)) ?_
          refine xy_r (xg_aload_n dM_factor_53 rfl) ?_
          rcases xg_m hF with ⟨ei764, hF⟩ | ⟨i764, ei764, hF⟩
          · refine xy_r (xw_Ln (L' := [some (.ref 2000), some (.null), some (xw_rf l2), some (.ref (xn r761.1)), none]) (by first | (rw [ei764]; done) | (rw [ei764]; rfl))) ?_
            refine xy_r (xw_Sn (st' := [.null]) (by first | (rw [ei764]; done) | (rw [ei764]; rfl))) ?_
            refine xy_r (xw_ifnonnull_n dM_factor_54) ?_
            refine xy_r (xw_aload_n dM_factor_57 rfl) ?_
            refine xy_r (xw_astore_n dM_factor_58 (Nat.le_of_ble_eq_true rfl)) ?_
            refine xy_r (xw_Ln (L' := [some (.ref 2000), some (.ref (xn r761.1)), some (xw_rf l2), some (.ref (xn r761.1)), none]) rfl) ?_
            refine xy_r (xw_goto 67 dM_factor_59 (by decide)) ?_
            refine xy_r (xw_aload_n dM_factor_67 rfl) ?_
            refine xy_r (xw_astore_n dM_factor_68 (Nat.le_of_ble_eq_true rfl)) ?_
            refine xy_r (xw_Ln (L' := [some (.ref 2000), some (.ref (xn r761.1)), some (.ref (xn r761.1)), some (.ref (xn r761.1)), none]) rfl) ?_
            refine xy_r (xw_goto 4 dM_factor_69 (by decide)) ?_
            refine xy_r (xw_drop (L' := [some (.ref 2000), some (xw_rf (some r761.1)), some (xw_rf (some r761.1)), none, none]) ⟨rfl, ⟨rfl, ⟨rfl, trivial⟩⟩⟩) ?_
            exact ih (s := (r761.2.1, (r761.2.2.1.1, (r761.2.2.1.2.1 + 1), r761.2.2.1.2.2), r761.2.2.2)) hm762 hF
          · refine xy_r (xw_Ln (L' := [some (.ref 2000), some (.ref (xn i764)), some (xw_rf l2), some (.ref (xn r761.1)), none]) (by first | (rw [ei764]; done) | (rw [ei764]; rfl))) ?_
            refine xy_r (xw_Sn (st' := [.ref (xn i764)]) (by first | (rw [ei764]; done) | (rw [ei764]; rfl))) ?_
            refine xy_r (xw_ifnonnull_r 62 dM_factor_54 (by decide)) ?_
            refine xy_r (xg_aload_n dM_factor_62 rfl) ?_
            refine xy_r (xw_aload_n dM_factor_63 rfl) ?_
            obtain ⟨i765, ei765, hF⟩ := xg_b hF
            refine xy_r (xw_Ln (L' := [some (.ref 2000), some (.ref (xn i764)), some (.ref (xn i765)), some (.ref (xn r761.1)), none]) (by first | (rw [ei765]; done) | (rw [ei765]; rfl))) ?_
            refine xy_r (xw_Sn (st' := [.ref (xn r761.1), .ref (xn i765)]) (by first | (rw [ei765]; done) | (rw [ei765]; rfl))) ?_
            obtain ⟨g766, hF⟩ := xg_g hF
            obtain ⟨r767, er767, hF⟩ := xg_b hF
            have hm768 : m0 ≤ r767.2.2.1.2.2.2.2.2.2.1 ∧ n0 ≤ r767.2.2.1.2.2.2.2.2.2.2 := xy_le hm762 (show r761.2.2.2.1.2.2.2.2.2.2.1 ≤ r767.2.2.1.2.2.2.2.2.2.1 ∧ r761.2.2.2.1.2.2.2.2.2.2.2 ≤ r767.2.2.1.2.2.2.2.2.2.2 from (CN_add (w := w) (h := h) hb (s := (r761.2.1, (r761.2.2.1.1, (r761.2.2.1.2.1 + 1), r761.2.2.1.2.2), r761.2.2.2)) er767).1)
            refine xy_V0 (nl := 2) (sm := r761.2.2.2.1.2.2.2.2.2.2.1) (sn := r761.2.2.2.1.2.2.2.2.2.2.2) (tm := r767.2.2.1.2.2.2.2.2.2.1) (tn := r767.2.2.1.2.2.2.2.2.2.2) (CN_add hb (s := (r761.2.1, (r761.2.2.1.1, (r761.2.2.1.2.1 + 1), r761.2.2.1.2.2), r761.2.2.2)) er767) rfl rfl hm762 (fun _ => rfl) (fun _ => rfl) (fun _ => rfl) (fun _ => dM_factor_64) (fun _ R => kM_257 R) (fun _ => rfl) ⟨by omega, by omega⟩ rfl rfl (mV_n g766) (fun _ => rfl) (Nat.le_of_ble_eq_true rfl) ?_
            refine xy_r (xw_aload_n dM_factor_67 rfl) ?_
            refine xy_r (xw_astore_n dM_factor_68 (Nat.le_of_ble_eq_true rfl)) ?_
            refine xy_r (xw_Ln (L' := [some (.ref 2000), some (.ref (xn i764)), some (.ref (xn r761.1)), some (.ref (xn r761.1)), none]) rfl) ?_
            refine xy_r (xw_goto 4 dM_factor_69 (by decide)) ?_
            refine xy_r (xw_drop (L' := [some (.ref 2000), some (xw_rf (some i764)), some (xw_rf (some r761.1)), none, none]) ⟨rfl, ⟨rfl, ⟨rfl, trivial⟩⟩⟩) ?_
            exact ih (s := r767) hm768 hF
        · replace hF := xg_t c760 hF
          refine xy_r (xw_bipush (10) dM_factor_32 (by decide)) ?_
          refine xy_r (xw_goto 39 dM_factor_34 (by decide)) ?_
          obtain ⟨r770, er770, hF⟩ := xg_b hF
          have hm771 : m0 ≤ r770.2.2.2.1.2.2.2.2.2.2.1 ∧ n0 ≤ r770.2.2.2.1.2.2.2.2.2.2.2 := xy_le hm714 (show r713.2.2.2.1.2.2.2.2.2.2.1 ≤ r770.2.2.2.1.2.2.2.2.2.2.1 ∧ r713.2.2.2.1.2.2.2.2.2.2.2 ≤ r770.2.2.2.1.2.2.2.2.2.2.2 from (CM_node (w := w) (h := h) hb (s := r713.2) er770).1)
          refine xy_V1 (nl := 4) (sm := r713.2.2.2.1.2.2.2.2.2.2.1) (sn := r713.2.2.2.1.2.2.2.2.2.2.2) (tm := r770.2.2.2.1.2.2.2.2.2.2.1) (tn := r770.2.2.2.1.2.2.2.2.2.2.2) (CM_node hb (s := r713.2) er770) rfl rfl hm714 (fun _ => rfl) (fun _ => rfl) (fun _ => rfl) (fun _ => dM_factor_39) (fun _ R => kM_253 R) (fun _ => rfl) ⟨by omega, by omega⟩ rfl rfl rfl (fun _ => rfl) (Nat.le_of_ble_eq_true rfl) ?_
          refine xy_r (xw_astore_n dM_factor_42 (Nat.le_of_ble_eq_true rfl)) ?_
          refine xy_r (xw_Ln (L' := [some (.ref 2000), some (xw_rf l1), some (xw_rf l2), some (.ref (xn r770.1)), none]) (by generalize l2 = e9; cases e9 <;> rfl)) ?_
          refine xy_r (xw_aload_n dM_factor_43 rfl) ?_
          refine xy_r (xw_dup_r dM_factor_44) ?_
          refine xy_r (xw_get dM_factor_45 fM_221 rfl rfl) ?_
          refine xy_r (xw_iconst (1) dM_factor_48 (by decide)) ?_
          refine xy_r (xw_iadd dM_factor_49) ?_
          refine xy_r (xg_put dM_factor_50 fM_221 rfl (by decide) (Nat.le_of_ble_eq_true rfl) (fun _ => rfl) (fun _ => rfl) (mV_o (s' := (r770.2.1, (r770.2.2.1.1, (r770.2.2.1.2.1 + 1), r770.2.2.1.2.2), r770.2.2.2)) rfl)) ?_
          refine xy_r (xg_aload_n dM_factor_53 rfl) ?_
          rcases xg_m hF with ⟨ei773, hF⟩ | ⟨i773, ei773, hF⟩
          · refine xy_r (xw_Ln (L' := [some (.ref 2000), some (.null), some (xw_rf l2), some (.ref (xn r770.1)), none]) (by first | (rw [ei773]; done) | (rw [ei773]; rfl))) ?_
            refine xy_r (xw_Sn (st' := [.null]) (by first | (rw [ei773]; done) | (rw [ei773]; rfl))) ?_
            refine xy_r (xw_ifnonnull_n dM_factor_54) ?_
            refine xy_r (xw_aload_n dM_factor_57 rfl) ?_
            refine xy_r (xw_astore_n dM_factor_58 (Nat.le_of_ble_eq_true rfl)) ?_
            refine xy_r (xw_Ln (L' := [some (.ref 2000), some (.ref (xn r770.1)), some (xw_rf l2), some (.ref (xn r770.1)), none]) rfl) ?_
            refine xy_r (xw_goto 67 dM_factor_59 (by decide)) ?_
            refine xy_r (xw_aload_n dM_factor_67 rfl) ?_
            refine xy_r (xw_astore_n dM_factor_68 (Nat.le_of_ble_eq_true rfl)) ?_
            refine xy_r (xw_Ln (L' := [some (.ref 2000), some (.ref (xn r770.1)), some (.ref (xn r770.1)), some (.ref (xn r770.1)), none]) rfl) ?_
            refine xy_r (xw_goto 4 dM_factor_69 (by decide)) ?_
            refine xy_r (xw_drop (L' := [some (.ref 2000), some (xw_rf (some r770.1)), some (xw_rf (some r770.1)), none, none]) ⟨rfl, ⟨rfl, ⟨rfl, trivial⟩⟩⟩) ?_
            exact ih (s := (r770.2.1, (r770.2.2.1.1, (r770.2.2.1.2.1 + 1), r770.2.2.1.2.2), r770.2.2.2)) hm771 hF
          · refine xy_r (xw_Ln (L' := [some (.ref 2000), some (.ref (xn i773)), some (xw_rf l2), some (.ref (xn r770.1)), none]) (by first | (rw [ei773]; done) | (rw [ei773]; rfl))) ?_
            refine xy_r (xw_Sn (st' := [.ref (xn i773)]) (by first | (rw [ei773]; done) | (rw [ei773]; rfl))) ?_
            refine xy_r (xw_ifnonnull_r 62 dM_factor_54 (by decide)) ?_
            refine xy_r (xg_aload_n dM_factor_62 rfl) ?_
            refine xy_r (xw_aload_n dM_factor_63 rfl) ?_
            obtain ⟨i774, ei774, hF⟩ := xg_b hF
            refine xy_r (xw_Ln (L' := [some (.ref 2000), some (.ref (xn i773)), some (.ref (xn i774)), some (.ref (xn r770.1)), none]) (by first | (rw [ei774]; done) | (rw [ei774]; rfl))) ?_
            refine xy_r (xw_Sn (st' := [.ref (xn r770.1), .ref (xn i774)]) (by first | (rw [ei774]; done) | (rw [ei774]; rfl))) ?_
            obtain ⟨g775, hF⟩ := xg_g hF
            obtain ⟨r776, er776, hF⟩ := xg_b hF
            have hm777 : m0 ≤ r776.2.2.1.2.2.2.2.2.2.1 ∧ n0 ≤ r776.2.2.1.2.2.2.2.2.2.2 := xy_le hm771 (show r770.2.2.2.1.2.2.2.2.2.2.1 ≤ r776.2.2.1.2.2.2.2.2.2.1 ∧ r770.2.2.2.1.2.2.2.2.2.2.2 ≤ r776.2.2.1.2.2.2.2.2.2.2 from (CN_add (w := w) (h := h) hb (s := (r770.2.1, (r770.2.2.1.1, (r770.2.2.1.2.1 + 1), r770.2.2.1.2.2), r770.2.2.2)) er776).1)
            refine xy_V0 (nl := 2) (sm := r770.2.2.2.1.2.2.2.2.2.2.1) (sn := r770.2.2.2.1.2.2.2.2.2.2.2) (tm := r776.2.2.1.2.2.2.2.2.2.1) (tn := r776.2.2.1.2.2.2.2.2.2.2) (CN_add hb (s := (r770.2.1, (r770.2.2.1.1, (r770.2.2.1.2.1 + 1), r770.2.2.1.2.2), r770.2.2.2)) er776) rfl rfl hm771 (fun _ => rfl) (fun _ => rfl) (fun _ => rfl) (fun _ => dM_factor_64) (fun _ R => kM_257 R) (fun _ => rfl) ⟨by omega, by omega⟩ rfl rfl (mV_n g775) (fun _ => rfl) (Nat.le_of_ble_eq_true rfl) ?_
            refine xy_r (xw_aload_n dM_factor_67 rfl) ?_
            refine xy_r (xw_astore_n dM_factor_68 (Nat.le_of_ble_eq_true rfl)) ?_
            refine xy_r (xw_Ln (L' := [some (.ref 2000), some (.ref (xn i773)), some (.ref (xn r770.1)), some (.ref (xn r770.1)), none]) rfl) ?_
            refine xy_r (xw_goto 4 dM_factor_69 (by decide)) ?_
            refine xy_r (xw_drop (L' := [some (.ref 2000), some (xw_rf (some i773)), some (xw_rf (some r770.1)), none, none]) ⟨rfl, ⟨rfl, ⟨rfl, trivial⟩⟩⟩) ?_
            exact ih (s := r776) hm777 hF
set_option maxRecDepth 20000 in
theorem CM_factor {w : xw_G} {p : xTP} {d : Nat} (hp : xKP w p d) {h : xw_H} (hb : xMb h)  {s : xMs} {out : (xo Nat xMs)} (hF : FM_factor p  s = some out) : (s.2.2.1.2.2.2.2.2.2.1 ≤ (xo_s out).2.2.1.2.2.2.2.2.2.1 ∧ s.2.2.1.2.2.2.2.2.2.2 ≤ (xo_s out).2.2.1.2.2.2.2.2.2.2) ∧ xw_C w (mM_factor { frames := (d + 1 + 20), cells := (xo_s out).2.2.1.2.2.2.2.2.2.1 - s.2.2.1.2.2.2.2.2.2.1, slots := (xo_s out).2.2.1.2.2.2.2.2.2.2 - s.2.2.1.2.2.2.2.2.2.2, locals := (60 * (d + 1) + 600) }) (xo_P (fun x => some (.ref (xn x))) (fun s => mV s h) out) [.ref 2000] (mV s h) := by
  unfold FM_factor at hF
  refine xy_enter (L := [some (.ref 2000), none, none, none, none]) (fun _ => rfl) (fun _ => rfl) (fun _ => (show plainName "FormulaShaperModel" = true by decide +kernel)) (fun _ => (Nat.le_of_ble_eq_true rfl)) (fun _ => rfl) ?_
  have hm : s.2.2.1.2.2.2.2.2.2.1 ≤ s.2.2.1.2.2.2.2.2.2.1 ∧ s.2.2.1.2.2.2.2.2.2.2 ≤ s.2.2.1.2.2.2.2.2.2.2 := ⟨Nat.le_refl _, Nat.le_refl _⟩
  refine xy_r (xw_null dM_factor_0) ?_
  refine xy_r (xw_astore_nN dM_factor_1 (Nat.le_of_ble_eq_true rfl)) ?_
  refine xy_r (xw_Ln (L' := [some (.ref 2000), some (.null), none, none, none]) rfl) ?_
  refine xy_r (xw_null dM_factor_2) ?_
  refine xy_r (xw_astore_nN dM_factor_3 (Nat.le_of_ble_eq_true rfl)) ?_
  refine xy_r (xw_Ln (L' := [some (.ref 2000), some (.null), some (.null), none, none]) rfl) ?_
  exact CM_factor_4 (hp := hp) hb xFuel (s := s) hm hF
def FM_applied_L (p : xTP) : Nat → (Nat → xMs → Option (xo Nat xMs)) × (Nat → xMs → Option (xo Nat xMs))
  | 0 => (fun _ _ => none, fun _ _ => none)
  | fu + 1 => (fun l1 s => (FM_next 40 s).bind fun r782 => if r782.1 = true then (xo_b (FM_open r782.2) fun r786 => (FM_node 13 r786.2).bind fun r789 => if r789.1 < r789.2.2.2.1.2.2.2.2.1 then ((FN_add r789.1 l1 r789.2).bind fun r793 => (FM_next 41 r793).bind fun r796 => if r796.1 = true then (xo_b (FM_close 41 r796.2) fun r800 => (FM_applied_L p fu).1 r789.1 r800.2) else (xo_b (p.1 r796.2) fun r803 => if r789.1 < r803.2.2.2.1.2.2.2.2.1 then ((FN_add r789.1 r803.1 r803.2).bind fun r807 => (FM_applied_L p fu).2 r789.1 r807) else none)) else none) else (some (.inl (l1, r782.2))), fun l2 s => (FM_next 44 s).bind fun r810 => if r810.1 = true then (xo_b (p.1 (r810.2.1, (r810.2.2.1.1, (r810.2.2.1.2.1 + 1), r810.2.2.1.2.2), r810.2.2.2)) fun r817 => if l2 < r817.2.2.2.1.2.2.2.2.1 then ((FN_add l2 r817.1 r817.2).bind fun r821 => (FM_applied_L p fu).2 l2 r821) else none) else (xo_b (FM_close 41 r810.2) fun r814 => (FM_applied_L p fu).1 l2 r814.2))
def FM_applied_5 (p : xTP) (fu : Nat) (l1 : Nat) (s : xMs) : Option (xo Nat xMs) := (FM_applied_L p fu).1 l1 s
def FM_applied_47 (p : xTP) (fu : Nat) (l2 : Nat) (s : xMs) : Option (xo Nat xMs) := (FM_applied_L p fu).2 l2 s
/-- FormulaShaperModel.applied -/
def FM_applied (p : xTP)  (s : xMs) : Option (xo Nat xMs) := xo_b (p.2.2.2.2.2.2.1 s) fun r779 => FM_applied_5 p xFuel r779.1 r779.2
set_option maxRecDepth 20000 in
theorem CM_applied_L {w : xw_G} {p : xTP} {d : Nat} (hp : xKP w p d) {h : xw_H} (hb : xMb h) : ∀ (fu : Nat), (∀  {l1 : Nat} {s : xMs} {out : (xo Nat xMs)} {h0 : xw_H} {m0 n0 : Nat} (hm : m0 ≤ s.2.2.1.2.2.2.2.2.2.1 ∧ n0 ≤ s.2.2.1.2.2.2.2.2.2.2), FM_applied_5 p fu l1 s = some out → xw_Y w mM_applied (d + 1 + 20) (60 * (d + 1) + 600) (xo_P (fun x => some (.ref (xn x))) (fun s => mV s h) out) h0 m0 n0 s.2.2.1.2.2.2.2.2.2.1 s.2.2.1.2.2.2.2.2.2.2 (xo_s out).2.2.1.2.2.2.2.2.2.1 (xo_s out).2.2.1.2.2.2.2.2.2.2 5 [some (.ref 2000), some (.ref (xn l1)), none] [] (mV s h)) ∧ (∀  {l2 : Nat} {s : xMs} {out : (xo Nat xMs)} {h0 : xw_H} {m0 n0 : Nat} (hm : m0 ≤ s.2.2.1.2.2.2.2.2.2.1 ∧ n0 ≤ s.2.2.1.2.2.2.2.2.2.2), FM_applied_47 p fu l2 s = some out → xw_Y w mM_applied (d + 1 + 20) (60 * (d + 1) + 600) (xo_P (fun x => some (.ref (xn x))) (fun s => mV s h) out) h0 m0 n0 s.2.2.1.2.2.2.2.2.2.1 s.2.2.1.2.2.2.2.2.2.2 (xo_s out).2.2.1.2.2.2.2.2.2.1 (xo_s out).2.2.1.2.2.2.2.2.2.2 47 [some (.ref 2000), none, some (.ref (xn l2))] [] (mV s h)) := by
  intro fu
  induction fu with
  | zero => exact ⟨fun _ q => (Option.some_ne_none _ q.symm).elim, fun _ q => (Option.some_ne_none _ q.symm).elim⟩
  | succ fu ih =>
    refine ⟨?_, ?_⟩
    · intro l1 s out h0 m0 n0 hm hF
      replace hF : ((FM_next 40 s).bind fun r782 => if r782.1 = true then (xo_b (FM_open r782.2) fun r786 => (FM_node 13 r786.2).bind fun r789 => if r789.1 < r789.2.2.2.1.2.2.2.2.1 then ((FN_add r789.1 l1 r789.2).bind fun r793 => (FM_next 41 r793).bind fun r796 => if r796.1 = true then (xo_b (FM_close 41 r796.2) fun r800 => FM_applied_5 p fu r789.1 r800.2) else (xo_b (p.1 r796.2) fun r803 => if r789.1 < r803.2.2.2.1.2.2.2.2.1 then ((FN_add r789.1 r803.1 r803.2).bind fun r807 => FM_applied_47 p fu r789.1 r807) else none)) else none) else (some (.inl (l1, r782.2)))) = some out := hF
      refine xy_r (xw_aload_n dM_applied_5 rfl) ?_
      refine xy_r (xw_bipush (40) dM_applied_6 (by decide)) ?_
      obtain ⟨r782, er782, hF⟩ := xg_b hF
      have hm783 : m0 ≤ r782.2.2.2.1.2.2.2.2.2.2.1 ∧ n0 ≤ r782.2.2.2.1.2.2.2.2.2.2.2 := xy_le hm (show s.2.2.1.2.2.2.2.2.2.1 ≤ r782.2.2.2.1.2.2.2.2.2.2.1 ∧ s.2.2.1.2.2.2.2.2.2.2 ≤ r782.2.2.2.1.2.2.2.2.2.2.2 from (CM_next (w := w) (h := h) hb (s := s) er782).1)
      refine xy_V1 (nl := 2) (sm := s.2.2.1.2.2.2.2.2.2.1) (sn := s.2.2.1.2.2.2.2.2.2.2) (tm := r782.2.2.2.1.2.2.2.2.2.2.1) (tn := r782.2.2.2.1.2.2.2.2.2.2.2) (CM_next hb (s := s) er782) rfl rfl hm (fun _ => rfl) (fun _ => rfl) (fun _ => rfl) (fun _ => dM_applied_8) (fun _ R => kM_236 R) (fun _ => rfl) ⟨by omega, by omega⟩ rfl rfl rfl (fun _ => rfl) (Nat.le_of_ble_eq_true rfl) ?_
      refine xy_brn (xw_if_eqB 88 dM_applied_11 (by decide)) (fun c785 => ?_) (fun c785 => ?_)
      · replace hF := xg_f c785 hF
        refine xy_r (xw_aload_n dM_applied_88 rfl) ?_
        obtain rfl := Option.some.inj hF
        exact xy_end (xw_areturn dM_applied_89 rfl (Or.inl ⟨_, rfl⟩) (Nat.le_refl _) (Nat.le_refl _) ⟨rfl, rfl⟩)
      · replace hF := xg_t c785 hF
        refine xy_r (xw_aload_n dM_applied_14 rfl) ?_
        rcases xg_o hF with ⟨r786, er786, hF⟩ | ⟨r786, er786, hF⟩
        · have hm787 : m0 ≤ r786.2.2.2.1.2.2.2.2.2.2.1 ∧ n0 ≤ r786.2.2.2.1.2.2.2.2.2.2.2 := xy_le hm783 (show r782.2.2.2.1.2.2.2.2.2.2.1 ≤ r786.2.2.2.1.2.2.2.2.2.2.1 ∧ r782.2.2.2.1.2.2.2.2.2.2.2 ≤ r786.2.2.2.1.2.2.2.2.2.2.2 from (CM_open (w := w) (h := h) hb (s := r782.2) er786).1)
          refine xy_V0 (nl := 1) (sm := r782.2.2.2.1.2.2.2.2.2.2.1) (sn := r782.2.2.2.1.2.2.2.2.2.2.2) (tm := r786.2.2.2.1.2.2.2.2.2.2.1) (tn := r786.2.2.2.1.2.2.2.2.2.2.2) (CM_open hb (s := r782.2) er786) rfl rfl hm783 (fun _ => rfl) (fun _ => rfl) (fun _ => rfl) (fun _ => dM_applied_15) (fun _ R => kM_286 R) (fun _ => rfl) ⟨by omega, by omega⟩ rfl rfl rfl (fun _ => rfl) (Nat.le_of_ble_eq_true rfl) ?_
          refine xy_r (xw_aload_n dM_applied_18 rfl) ?_
          refine xy_r (xw_bipush (13) dM_applied_19 (by decide)) ?_
          obtain ⟨r789, er789, hF⟩ := xg_b hF
          have hm790 : m0 ≤ r789.2.2.2.1.2.2.2.2.2.2.1 ∧ n0 ≤ r789.2.2.2.1.2.2.2.2.2.2.2 := xy_le hm787 (show r786.2.2.2.1.2.2.2.2.2.2.1 ≤ r789.2.2.2.1.2.2.2.2.2.2.1 ∧ r786.2.2.2.1.2.2.2.2.2.2.2 ≤ r789.2.2.2.1.2.2.2.2.2.2.2 from (CM_node (w := w) (h := h) hb (s := r786.2) er789).1)
          refine xy_V1 (nl := 4) (sm := r786.2.2.2.1.2.2.2.2.2.2.1) (sn := r786.2.2.2.1.2.2.2.2.2.2.2) (tm := r789.2.2.2.1.2.2.2.2.2.2.1) (tn := r789.2.2.2.1.2.2.2.2.2.2.2) (CM_node hb (s := r786.2) er789) rfl rfl hm787 (fun _ => rfl) (fun _ => rfl) (fun _ => rfl) (fun _ => dM_applied_21) (fun _ R => kM_253 R) (fun _ => rfl) ⟨by omega, by omega⟩ rfl rfl rfl (fun _ => rfl) (Nat.le_of_ble_eq_true rfl) ?_
          refine xy_r (xw_astore_n dM_applied_24 (Nat.le_of_ble_eq_true rfl)) ?_
          refine xy_r (xw_Ln (L' := [some (.ref 2000), some (.ref (xn l1)), some (.ref (xn r789.1))]) rfl) ?_
          refine xy_r (xw_aload_n dM_applied_25 rfl) ?_
          refine xy_r (xw_aload_n dM_applied_26 rfl) ?_
          obtain ⟨g792, hF⟩ := xg_g hF
          obtain ⟨r793, er793, hF⟩ := xg_b hF
          have hm794 : m0 ≤ r793.2.2.1.2.2.2.2.2.2.1 ∧ n0 ≤ r793.2.2.1.2.2.2.2.2.2.2 := xy_le hm790 (show r789.2.2.2.1.2.2.2.2.2.2.1 ≤ r793.2.2.1.2.2.2.2.2.2.1 ∧ r789.2.2.2.1.2.2.2.2.2.2.2 ≤ r793.2.2.1.2.2.2.2.2.2.2 from (CN_add (w := w) (h := h) hb (s := r789.2) er793).1)
          refine xy_V0 (nl := 2) (sm := r789.2.2.2.1.2.2.2.2.2.2.1) (sn := r789.2.2.2.1.2.2.2.2.2.2.2) (tm := r793.2.2.1.2.2.2.2.2.2.1) (tn := r793.2.2.1.2.2.2.2.2.2.2) (CN_add hb (s := r789.2) er793) rfl rfl hm790 (fun _ => rfl) (fun _ => rfl) (fun _ => rfl) (fun _ => dM_applied_27) (fun _ R => kM_257 R) (fun _ => rfl) ⟨by omega, by omega⟩ rfl rfl (mV_n g792) (fun _ => rfl) (Nat.le_of_ble_eq_true rfl) ?_
          refine xy_r (xw_aload_n dM_applied_30 rfl) ?_
          refine xy_r (xw_bipush (41) dM_applied_31 (by decide)) ?_
          obtain ⟨r796, er796, hF⟩ := xg_b hF
          have hm797 : m0 ≤ r796.2.2.2.1.2.2.2.2.2.2.1 ∧ n0 ≤ r796.2.2.2.1.2.2.2.2.2.2.2 := xy_le hm794 (show r793.2.2.1.2.2.2.2.2.2.1 ≤ r796.2.2.2.1.2.2.2.2.2.2.1 ∧ r793.2.2.1.2.2.2.2.2.2.2 ≤ r796.2.2.2.1.2.2.2.2.2.2.2 from (CM_next (w := w) (h := h) hb (s := r793) er796).1)
          refine xy_V1 (nl := 2) (sm := r793.2.2.1.2.2.2.2.2.2.1) (sn := r793.2.2.1.2.2.2.2.2.2.2) (tm := r796.2.2.2.1.2.2.2.2.2.2.1) (tn := r796.2.2.2.1.2.2.2.2.2.2.2) (CM_next hb (s := r793) er796) rfl rfl hm794 (fun _ => rfl) (fun _ => rfl) (fun _ => rfl) (fun _ => dM_applied_33) (fun _ R => kM_236 R) (fun _ => rfl) ⟨by omega, by omega⟩ rfl rfl rfl (fun _ => rfl) (Nat.le_of_ble_eq_true rfl) ?_
          refine xy_br (xw_if_neB 77 dM_applied_36 (by decide)) (fun c799 => ?_) (fun c799 => ?_)
          · replace hF := xg_t c799 hF
            refine xy_r (xw_aload_n dM_applied_77 rfl) ?_
            refine xy_r (xw_bipush (41) dM_applied_78 (by decide)) ?_
            rcases xg_o hF with ⟨r800, er800, hF⟩ | ⟨r800, er800, hF⟩
            · have hm801 : m0 ≤ r800.2.2.2.1.2.2.2.2.2.2.1 ∧ n0 ≤ r800.2.2.2.1.2.2.2.2.2.2.2 := xy_le hm797 (show r796.2.2.2.1.2.2.2.2.2.2.1 ≤ r800.2.2.2.1.2.2.2.2.2.2.1 ∧ r796.2.2.2.1.2.2.2.2.2.2.2 ≤ r800.2.2.2.1.2.2.2.2.2.2.2 from (CM_close (w := w) (h := h) hb (s := r796.2) er800).1)
              refine xy_V0 (nl := 2) (sm := r796.2.2.2.1.2.2.2.2.2.2.1) (sn := r796.2.2.2.1.2.2.2.2.2.2.2) (tm := r800.2.2.2.1.2.2.2.2.2.2.1) (tn := r800.2.2.2.1.2.2.2.2.2.2.2) (CM_close hb (s := r796.2) er800) rfl rfl hm797 (fun _ => rfl) (fun _ => rfl) (fun _ => rfl) (fun _ => dM_applied_80) (fun _ R => kM_289 R) (fun _ => rfl) ⟨by omega, by omega⟩ rfl rfl rfl (fun _ => rfl) (Nat.le_of_ble_eq_true rfl) ?_
              refine xy_r (xw_aload_n dM_applied_83 rfl) ?_
              refine xy_r (xw_astore_n dM_applied_84 (Nat.le_of_ble_eq_true rfl)) ?_
              refine xy_r (xw_Ln (L' := [some (.ref 2000), some (.ref (xn r789.1)), some (.ref (xn r789.1))]) rfl) ?_
              refine xy_r (xw_goto 5 dM_applied_85 (by decide)) ?_
              refine xy_r (xw_drop (L' := [some (.ref 2000), some (.ref (xn r789.1)), none]) ⟨rfl, ⟨rfl, trivial⟩⟩) ?_
              exact ih.1 (s := r800.2) hm801 hF
            · subst hF
              exact xy_Vt (nl := 2) (sm := r796.2.2.2.1.2.2.2.2.2.2.1) (sn := r796.2.2.2.1.2.2.2.2.2.2.2) (tm := r800.2.2.2.1.2.2.2.2.2.2.1) (tn := r800.2.2.2.1.2.2.2.2.2.2.2) (CM_close hb (s := r796.2) er800) rfl rfl hm797 (fun _ => rfl) (fun _ => rfl) (fun _ => rfl) (fun _ => dM_applied_80) (fun _ R => kM_289 R) (fun _ => rfl) ⟨by omega, by omega⟩ rfl rfl rfl (fun _ => rfl) (Nat.le_of_ble_eq_true rfl) ⟨rfl, rfl⟩
          · replace hF := xg_f c799 hF
            refine xy_r (xw_aload_n dM_applied_39 rfl) ?_
            refine xy_r (xw_aload_n dM_applied_40 rfl) ?_
            rcases xg_o hF with ⟨r803, er803, hF⟩ | ⟨r803, er803, hF⟩
            · have hm804 : m0 ≤ r803.2.2.2.1.2.2.2.2.2.2.1 ∧ n0 ≤ r803.2.2.2.1.2.2.2.2.2.2.2 := xy_le hm797 (show r796.2.2.2.1.2.2.2.2.2.2.1 ≤ r803.2.2.2.1.2.2.2.2.2.2.1 ∧ r796.2.2.2.1.2.2.2.2.2.2.2 ≤ r803.2.2.2.1.2.2.2.2.2.2.2 from ((hp.1 (h := h) hb (s := r796.2) er803)).1)
              refine xy_V1 (nl := 4) (sm := r796.2.2.2.1.2.2.2.2.2.2.1) (sn := r796.2.2.2.1.2.2.2.2.2.2.2) (tm := r803.2.2.2.1.2.2.2.2.2.2.1) (tn := r803.2.2.2.1.2.2.2.2.2.2.2) (hp.1 hb (s := r796.2) er803) rfl rfl hm797 (fun _ => rfl) (fun _ => rfl) (fun _ => rfl) (fun _ => dM_applied_41) (fun _ R => kM_249 R) (fun _ => rfl) ⟨by omega, by omega⟩ rfl rfl rfl (fun _ => rfl) (Nat.le_of_ble_eq_true rfl) ?_
              obtain ⟨g806, hF⟩ := xg_g hF
              obtain ⟨r807, er807, hF⟩ := xg_b hF
              have hm808 : m0 ≤ r807.2.2.1.2.2.2.2.2.2.1 ∧ n0 ≤ r807.2.2.1.2.2.2.2.2.2.2 := xy_le hm804 (show r803.2.2.2.1.2.2.2.2.2.2.1 ≤ r807.2.2.1.2.2.2.2.2.2.1 ∧ r803.2.2.2.1.2.2.2.2.2.2.2 ≤ r807.2.2.1.2.2.2.2.2.2.2 from (CN_add (w := w) (h := h) hb (s := r803.2) er807).1)
              refine xy_V0 (nl := 2) (sm := r803.2.2.2.1.2.2.2.2.2.2.1) (sn := r803.2.2.2.1.2.2.2.2.2.2.2) (tm := r807.2.2.1.2.2.2.2.2.2.1) (tn := r807.2.2.1.2.2.2.2.2.2.2) (CN_add hb (s := r803.2) er807) rfl rfl hm804 (fun _ => rfl) (fun _ => rfl) (fun _ => rfl) (fun _ => dM_applied_44) (fun _ R => kM_257 R) (fun _ => rfl) ⟨by omega, by omega⟩ rfl rfl (mV_n g806) (fun _ => rfl) (Nat.le_of_ble_eq_true rfl) ?_
              refine xy_r (xw_drop (L' := [some (.ref 2000), none, some (.ref (xn r789.1))]) ⟨rfl, ⟨rfl, trivial⟩⟩) ?_
              exact ih.2 (s := r807) hm808 hF
            · subst hF
              exact xy_Vt (nl := 4) (sm := r796.2.2.2.1.2.2.2.2.2.2.1) (sn := r796.2.2.2.1.2.2.2.2.2.2.2) (tm := r803.2.2.2.1.2.2.2.2.2.2.1) (tn := r803.2.2.2.1.2.2.2.2.2.2.2) (hp.1 hb (s := r796.2) er803) rfl rfl hm797 (fun _ => rfl) (fun _ => rfl) (fun _ => rfl) (fun _ => dM_applied_41) (fun _ R => kM_249 R) (fun _ => rfl) ⟨by omega, by omega⟩ rfl rfl rfl (fun _ => rfl) (Nat.le_of_ble_eq_true rfl) ⟨rfl, rfl⟩
        · subst hF
          exact xy_Vt (nl := 1) (sm := r782.2.2.2.1.2.2.2.2.2.2.1) (sn := r782.2.2.2.1.2.2.2.2.2.2.2) (tm := r786.2.2.2.1.2.2.2.2.2.2.1) (tn := r786.2.2.2.1.2.2.2.2.2.2.2) (CM_open hb (s := r782.2) er786) rfl rfl hm783 (fun _ => rfl) (fun _ => rfl) (fun _ => rfl) (fun _ => dM_applied_15) (fun _ R => kM_286 R) (fun _ => rfl) ⟨by omega, by omega⟩ rfl rfl rfl (fun _ => rfl) (Nat.le_of_ble_eq_true rfl) ⟨rfl, rfl⟩
    · intro l2 s out h0 m0 n0 hm hF
      replace hF : ((FM_next 44 s).bind fun r810 => if r810.1 = true then (xo_b (p.1 (r810.2.1, (r810.2.2.1.1, (r810.2.2.1.2.1 + 1), r810.2.2.1.2.2), r810.2.2.2)) fun r817 => if l2 < r817.2.2.2.1.2.2.2.2.1 then ((FN_add l2 r817.1 r817.2).bind fun r821 => FM_applied_47 p fu l2 r821) else none) else (xo_b (FM_close 41 r810.2) fun r814 => FM_applied_5 p fu l2 r814.2)) = some out := hF
      refine xy_r (xw_aload_n dM_applied_47 rfl) ?_
      refine xy_r (xw_bipush (44) dM_applied_48 (by decide)) ?_
      obtain ⟨r810, er810, hF⟩ := xg_b hF
      have hm811 : m0 ≤ r810.2.2.2.1.2.2.2.2.2.2.1 ∧ n0 ≤ r810.2.2.2.1.2.2.2.2.2.2.2 := xy_le hm (show s.2.2.1.2.2.2.2.2.2.1 ≤ r810.2.2.2.1.2.2.2.2.2.2.1 ∧ s.2.2.1.2.2.2.2.2.2.2 ≤ r810.2.2.2.1.2.2.2.2.2.2.2 from (CM_next (w := w) (h := h) hb (s := s) er810).1)
      refine xy_V1 (nl := 2) (sm := s.2.2.1.2.2.2.2.2.2.1) (sn := s.2.2.1.2.2.2.2.2.2.2) (tm := r810.2.2.2.1.2.2.2.2.2.2.1) (tn := r810.2.2.2.1.2.2.2.2.2.2.2) (CM_next hb (s := s) er810) rfl rfl hm (fun _ => rfl) (fun _ => rfl) (fun _ => rfl) (fun _ => dM_applied_50) (fun _ R => kM_236 R) (fun _ => rfl) ⟨by omega, by omega⟩ rfl rfl rfl (fun _ => rfl) (Nat.le_of_ble_eq_true rfl) ?_
      refine xy_brn (xw_if_eqB 77 dM_applied_53 (by decide)) (fun c813 => ?_) (fun c813 => ?_)
      · replace hF := xg_f c813 hF
        refine xy_r (xw_aload_n dM_applied_77 rfl) ?_
        refine xy_r (xw_bipush (41) dM_applied_78 (by decide)) ?_
        rcases xg_o hF with ⟨r814, er814, hF⟩ | ⟨r814, er814, hF⟩
        · have hm815 : m0 ≤ r814.2.2.2.1.2.2.2.2.2.2.1 ∧ n0 ≤ r814.2.2.2.1.2.2.2.2.2.2.2 := xy_le hm811 (show r810.2.2.2.1.2.2.2.2.2.2.1 ≤ r814.2.2.2.1.2.2.2.2.2.2.1 ∧ r810.2.2.2.1.2.2.2.2.2.2.2 ≤ r814.2.2.2.1.2.2.2.2.2.2.2 from (CM_close (w := w) (h := h) hb (s := r810.2) er814).1)
          refine xy_V0 (nl := 2) (sm := r810.2.2.2.1.2.2.2.2.2.2.1) (sn := r810.2.2.2.1.2.2.2.2.2.2.2) (tm := r814.2.2.2.1.2.2.2.2.2.2.1) (tn := r814.2.2.2.1.2.2.2.2.2.2.2) (CM_close hb (s := r810.2) er814) rfl rfl hm811 (fun _ => rfl) (fun _ => rfl) (fun _ => rfl) (fun _ => dM_applied_80) (fun _ R => kM_289 R) (fun _ => rfl) ⟨by omega, by omega⟩ rfl rfl rfl (fun _ => rfl) (Nat.le_of_ble_eq_true rfl) ?_
          refine xy_r (xw_aload_n dM_applied_83 rfl) ?_
          refine xy_r (xw_astore_n dM_applied_84 (Nat.le_of_ble_eq_true rfl)) ?_
          refine xy_r (xw_Ln (L' := [some (.ref 2000), some (.ref (xn l2)), some (.ref (xn l2))]) rfl) ?_
          refine xy_r (xw_goto 5 dM_applied_85 (by decide)) ?_
          refine xy_r (xw_drop (L' := [some (.ref 2000), some (.ref (xn l2)), none]) ⟨rfl, ⟨rfl, trivial⟩⟩) ?_
          exact ih.1 (s := r814.2) hm815 hF
        · subst hF
          exact xy_Vt (nl := 2) (sm := r810.2.2.2.1.2.2.2.2.2.2.1) (sn := r810.2.2.2.1.2.2.2.2.2.2.2) (tm := r814.2.2.2.1.2.2.2.2.2.2.1) (tn := r814.2.2.2.1.2.2.2.2.2.2.2) (CM_close hb (s := r810.2) er814) rfl rfl hm811 (fun _ => rfl) (fun _ => rfl) (fun _ => rfl) (fun _ => dM_applied_80) (fun _ R => kM_289 R) (fun _ => rfl) ⟨by omega, by omega⟩ rfl rfl rfl (fun _ => rfl) (Nat.le_of_ble_eq_true rfl) ⟨rfl, rfl⟩
      · replace hF := xg_t c813 hF
        refine xy_r (xw_aload_n dM_applied_56 rfl) ?_
        refine xy_r (xw_dup_r dM_applied_57) ?_
        refine xy_r (xw_get dM_applied_58 fM_221 rfl rfl) ?_
        refine xy_r (xw_iconst (1) dM_applied_61 (by decide)) ?_
        refine xy_r (xw_iadd dM_applied_62) ?_
        refine xy_r (xg_put dM_applied_63 fM_221 rfl (by decide) (Nat.le_of_ble_eq_true rfl) (fun _ => rfl) (fun _ => rfl) (mV_o (s' := (r810.2.1, (r810.2.2.1.1, (r810.2.2.1.2.1 + 1), r810.2.2.1.2.2), r810.2.2.2)) rfl)) ?_
        refine xy_r (xw_aload_n dM_applied_66 rfl) ?_
        refine xy_r (xw_aload_n dM_applied_67 rfl) ?_
        rcases xg_o hF with ⟨r817, er817, hF⟩ | ⟨r817, er817, hF⟩
        · have hm818 : m0 ≤ r817.2.2.2.1.2.2.2.2.2.2.1 ∧ n0 ≤ r817.2.2.2.1.2.2.2.2.2.2.2 := xy_le hm811 (show r810.2.2.2.1.2.2.2.2.2.2.1 ≤ r817.2.2.2.1.2.2.2.2.2.2.1 ∧ r810.2.2.2.1.2.2.2.2.2.2.2 ≤ r817.2.2.2.1.2.2.2.2.2.2.2 from ((hp.1 (h := h) hb (s := (r810.2.1, (r810.2.2.1.1, (r810.2.2.1.2.1 + 1), r810.2.2.1.2.2), r810.2.2.2)) er817)).1)
          refine xy_V1 (nl := 4) (sm := r810.2.2.2.1.2.2.2.2.2.2.1) (sn := r810.2.2.2.1.2.2.2.2.2.2.2) (tm := r817.2.2.2.1.2.2.2.2.2.2.1) (tn := r817.2.2.2.1.2.2.2.2.2.2.2) (hp.1 hb (s := (r810.2.1, (r810.2.2.1.1, (r810.2.2.1.2.1 + 1), r810.2.2.1.2.2), r810.2.2.2)) er817) rfl rfl hm811 (fun _ => rfl) (fun _ => rfl) (fun _ => rfl) (fun _ => dM_applied_68) (fun _ R => kM_249 R) (fun _ => rfl) ⟨by omega, by omega⟩ rfl rfl rfl (fun _ => rfl) (Nat.le_of_ble_eq_true rfl) ?_
          obtain ⟨g820, hF⟩ := xg_g hF
          obtain ⟨r821, er821, hF⟩ := xg_b hF
          have hm822 : m0 ≤ r821.2.2.1.2.2.2.2.2.2.1 ∧ n0 ≤ r821.2.2.1.2.2.2.2.2.2.2 := xy_le hm818 (show r817.2.2.2.1.2.2.2.2.2.2.1 ≤ r821.2.2.1.2.2.2.2.2.2.1 ∧ r817.2.2.2.1.2.2.2.2.2.2.2 ≤ r821.2.2.1.2.2.2.2.2.2.2 from (CN_add (w := w) (h := h) hb (s := r817.2) er821).1)
          refine xy_V0 (nl := 2) (sm := r817.2.2.2.1.2.2.2.2.2.2.1) (sn := r817.2.2.2.1.2.2.2.2.2.2.2) (tm := r821.2.2.1.2.2.2.2.2.2.1) (tn := r821.2.2.1.2.2.2.2.2.2.2) (CN_add hb (s := r817.2) er821) rfl rfl hm818 (fun _ => rfl) (fun _ => rfl) (fun _ => rfl) (fun _ => dM_applied_71) (fun _ R => kM_257 R) (fun _ => rfl) ⟨by omega, by omega⟩ rfl rfl (mV_n g820) (fun _ => rfl) (Nat.le_of_ble_eq_true rfl) ?_
          refine xy_r (xw_goto 47 dM_applied_74 (by decide)) ?_
          exact ih.2 (s := r821) hm822 hF
        · subst hF
          exact xy_Vt (nl := 4) (sm := r810.2.2.2.1.2.2.2.2.2.2.1) (sn := r810.2.2.2.1.2.2.2.2.2.2.2) (tm := r817.2.2.2.1.2.2.2.2.2.2.1) (tn := r817.2.2.2.1.2.2.2.2.2.2.2) (hp.1 hb (s := (r810.2.1, (r810.2.2.1.1, (r810.2.2.1.2.1 + 1), r810.2.2.1.2.2), r810.2.2.2)) er817) rfl rfl hm811 (fun _ => rfl) (fun _ => rfl) (fun _ => rfl) (fun _ => dM_applied_68) (fun _ R => kM_249 R) (fun _ => rfl) ⟨by omega, by omega⟩ rfl rfl rfl (fun _ => rfl) (Nat.le_of_ble_eq_true rfl) ⟨rfl, rfl⟩
theorem CM_applied_5 {w : xw_G} {p : xTP} {d : Nat} (hp : xKP w p d) {h : xw_H} (hb : xMb h) (fu : Nat)  {l1 : Nat} {s : xMs} {out : (xo Nat xMs)} {h0 : xw_H} {m0 n0 : Nat} (hm : m0 ≤ s.2.2.1.2.2.2.2.2.2.1 ∧ n0 ≤ s.2.2.1.2.2.2.2.2.2.2) (hF : FM_applied_5 p fu l1 s = some out) : xw_Y w mM_applied (d + 1 + 20) (60 * (d + 1) + 600) (xo_P (fun x => some (.ref (xn x))) (fun s => mV s h) out) h0 m0 n0 s.2.2.1.2.2.2.2.2.2.1 s.2.2.1.2.2.2.2.2.2.2 (xo_s out).2.2.1.2.2.2.2.2.2.1 (xo_s out).2.2.1.2.2.2.2.2.2.2 5 [some (.ref 2000), some (.ref (xn l1)), none] [] (mV s h) := (CM_applied_L (hp := hp) hb fu).1 hm hF
theorem CM_applied_47 {w : xw_G} {p : xTP} {d : Nat} (hp : xKP w p d) {h : xw_H} (hb : xMb h) (fu : Nat)  {l2 : Nat} {s : xMs} {out : (xo Nat xMs)} {h0 : xw_H} {m0 n0 : Nat} (hm : m0 ≤ s.2.2.1.2.2.2.2.2.2.1 ∧ n0 ≤ s.2.2.1.2.2.2.2.2.2.2) (hF : FM_applied_47 p fu l2 s = some out) : xw_Y w mM_applied (d + 1 + 20) (60 * (d + 1) + 600) (xo_P (fun x => some (.ref (xn x))) (fun s => mV s h) out) h0 m0 n0 s.2.2.1.2.2.2.2.2.2.1 s.2.2.1.2.2.2.2.2.2.2 (xo_s out).2.2.1.2.2.2.2.2.2.1 (xo_s out).2.2.1.2.2.2.2.2.2.2 47 [some (.ref 2000), none, some (.ref (xn l2))] [] (mV s h) := (CM_applied_L (hp := hp) hb fu).2 hm hF
set_option maxRecDepth 20000 in
theorem CM_applied {w : xw_G} {p : xTP} {d : Nat} (hp : xKP w p d) {h : xw_H} (hb : xMb h)  {s : xMs} {out : (xo Nat xMs)} (hF : FM_applied p  s = some out) : (s.2.2.1.2.2.2.2.2.2.1 ≤ (xo_s out).2.2.1.2.2.2.2.2.2.1 ∧ s.2.2.1.2.2.2.2.2.2.2 ≤ (xo_s out).2.2.1.2.2.2.2.2.2.2) ∧ xw_C w (mM_applied { frames := (d + 1 + 20), cells := (xo_s out).2.2.1.2.2.2.2.2.2.1 - s.2.2.1.2.2.2.2.2.2.1, slots := (xo_s out).2.2.1.2.2.2.2.2.2.2 - s.2.2.1.2.2.2.2.2.2.2, locals := (60 * (d + 1) + 600) }) (xo_P (fun x => some (.ref (xn x))) (fun s => mV s h) out) [.ref 2000] (mV s h) := by
  unfold FM_applied at hF
  refine xy_enter (L := [some (.ref 2000), none, none]) (fun _ => rfl) (fun _ => rfl) (fun _ => (show plainName "FormulaShaperModel" = true by decide +kernel)) (fun _ => (Nat.le_of_ble_eq_true rfl)) (fun _ => rfl) ?_
  have hm : s.2.2.1.2.2.2.2.2.2.1 ≤ s.2.2.1.2.2.2.2.2.2.1 ∧ s.2.2.1.2.2.2.2.2.2.2 ≤ s.2.2.1.2.2.2.2.2.2.2 := ⟨Nat.le_refl _, Nat.le_refl _⟩
  refine xy_r (xw_aload_n dM_applied_0 rfl) ?_
  rcases xg_o hF with ⟨r779, er779, hF⟩ | ⟨r779, er779, hF⟩
  · have hm780 : s.2.2.1.2.2.2.2.2.2.1 ≤ r779.2.2.2.1.2.2.2.2.2.2.1 ∧ s.2.2.1.2.2.2.2.2.2.2 ≤ r779.2.2.2.1.2.2.2.2.2.2.2 := xy_le hm (show s.2.2.1.2.2.2.2.2.2.1 ≤ r779.2.2.2.1.2.2.2.2.2.2.1 ∧ s.2.2.1.2.2.2.2.2.2.2 ≤ r779.2.2.2.1.2.2.2.2.2.2.2 from ((hp.2.2.2.2.2.2.1 (h := h) hb (s := s) er779)).1)
    refine xy_V1 (nl := 7) (sm := s.2.2.1.2.2.2.2.2.2.1) (sn := s.2.2.1.2.2.2.2.2.2.2) (tm := r779.2.2.2.1.2.2.2.2.2.2.1) (tn := r779.2.2.2.1.2.2.2.2.2.2.2) (hp.2.2.2.2.2.2.1 hb (s := s) er779) rfl rfl hm (fun _ => rfl) (fun _ => rfl) (fun _ => rfl) (fun _ => dM_applied_1) (fun _ R => kM_283 R) (fun _ => rfl) ⟨by omega, by omega⟩ rfl rfl rfl (fun _ => rfl) (Nat.le_of_ble_eq_true rfl) ?_
    refine xy_r (xw_astore_n dM_applied_4 (Nat.le_of_ble_eq_true rfl)) ?_
    refine xy_r (xw_Ln (L' := [some (.ref 2000), some (.ref (xn r779.1)), none]) rfl) ?_
    exact CM_applied_5 (hp := hp) hb xFuel (s := r779.2) hm780 hF
  · subst hF
    exact xy_Vt (nl := 7) (sm := s.2.2.1.2.2.2.2.2.2.1) (sn := s.2.2.1.2.2.2.2.2.2.2) (tm := r779.2.2.2.1.2.2.2.2.2.2.1) (tn := r779.2.2.2.1.2.2.2.2.2.2.2) (hp.2.2.2.2.2.2.1 hb (s := s) er779) rfl rfl hm (fun _ => rfl) (fun _ => rfl) (fun _ => rfl) (fun _ => dM_applied_1) (fun _ R => kM_283 R) (fun _ => rfl) ⟨by omega, by omega⟩ rfl rfl rfl (fun _ => rfl) (Nat.le_of_ble_eq_true rfl) ⟨rfl, rfl⟩
def FM_atom_157 (p : xTP) : Nat → Nat → Int32 → Int32 → xMs → Option (xo Nat xMs)
  | 0, _, _, _, _ => none
  | fu + 1, l2, l5, l6, s => if 39 ≤ l6 then (some (.inl (l2, (s.1, (s.2.1.1, l5, s.2.1.2.2), s.2.2)))) else (if 0 ≤ l6 ∧ l6 < nI 39 then (if l2 < s.2.2.1.2.2.2.2.1 then (if (lg_cmp (s.2.2.2.2.2.2.2.2 (l6).toNatClampNeg) (s.2.2.1.2.2.2.2.2.1 l2).1.2.2.2) = 0 then (xo_b (p.2.2.2.2.2.2.2.1 l6 s) fun r856 => some (.inl (r856.1, r856.2))) else (FM_atom_157 p fu l2 l5 (l6 + 1) s)) else none) else none)
/-- FormulaShaperModel.atom -/
def FM_atom (p : xTP)  (s : xMs) : Option (xo Nat xMs) := (FM_blanks s).bind fun r824 => (FM_peek r824).bind fun r827 => if r827 = 40 then ((FM_node 7 r824).bind fun r887 => xo_b (FM_open r887.2) fun r890 => xo_b (p.1 r890.2) fun r893 => if r887.1 < r893.2.2.2.1.2.2.2.2.1 then ((FN_add r887.1 r893.1 r893.2).bind fun r897 => xo_b (FM_close 41 r897) fun r900 => some (.inl (r887.1, r900.2))) else none) else (if r827 = 123 then (xo_b (FM_rows r824) fun r884 => some (.inl (r884.1, r884.2))) else (xo_b (FM_constant r824) fun r830 => xm r830.1 ((FM_cell_Z r830.2).bind fun r834 => if r834.1 = true then (xo_b (FM_cells r834.2) fun r881 => some (.inl (r881.1, r881.2))) else ((FM_wordLength r834.2).bind fun r838 => if r838 = 0 then (xo_b (FM_bad r834.2.2.1.2.1 r834.2) fun r840 => (FM_node 6 r840.2).bind fun r843 => (FM_wordOf r838 r843.2).bind fun r846 => if r843.1 < r843.2.2.2.1.2.2.2.2.1 then ((FM_next 40 (r843.2.1, (r843.2.2.1.1, (r843.2.2.1.2.1 + r838), r843.2.2.1.2.2), (r843.2.2.2.1.1, r843.2.2.2.1.2.1, r843.2.2.2.1.2.2.1, r843.2.2.2.1.2.2.2.1, r843.2.2.2.1.2.2.2.2.1, (va_up r843.2.2.2.1.2.2.2.2.2.1 r843.1 (nNumber (r843.2.2.2.1.2.2.2.2.2.1 r843.1) r846)), r843.2.2.2.1.2.2.2.2.2.2), r843.2.2.2.2)).bind fun r848 => if r848.1 = true then (FM_atom_157 p xFuel r843.1 (r843.2.2.1.2.1 + r838) 0 r848.2) else (some (.inl (r843.1, (r848.2.1, (r848.2.2.1.1, (r843.2.2.1.2.1 + r838), r848.2.2.1.2.2), r848.2.2.2))))) else none) else (if r838 ≤ 12 then ((FM_node 6 r834.2).bind fun r860 => (FM_wordOf r838 r860.2).bind fun r863 => if r860.1 < r860.2.2.2.1.2.2.2.2.1 then ((FM_next 40 (r860.2.1, (r860.2.2.1.1, (r860.2.2.1.2.1 + r838), r860.2.2.1.2.2), (r860.2.2.2.1.1, r860.2.2.2.1.2.1, r860.2.2.2.1.2.2.1, r860.2.2.2.1.2.2.2.1, r860.2.2.2.1.2.2.2.2.1, (va_up r860.2.2.2.1.2.2.2.2.2.1 r860.1 (nNumber (r860.2.2.2.1.2.2.2.2.2.1 r860.1) r863)), r860.2.2.2.1.2.2.2.2.2.2), r860.2.2.2.2)).bind fun r865 => if r865.1 = true then (FM_atom_157 p xFuel r860.1 (r860.2.2.1.2.1 + r838) 0 r865.2) else (some (.inl (r860.1, (r865.2.1, (r865.2.2.1.1, (r860.2.2.1.2.1 + r838), r865.2.2.1.2.2), r865.2.2.2))))) else none) else (xo_b (FM_bad r834.2.2.1.2.1 r834.2) fun r869 => (FM_node 6 r869.2).bind fun r872 => (FM_wordOf r838 r872.2).bind fun r875 => if r872.1 < r872.2.2.2.1.2.2.2.2.1 then ((FM_next 40 (r872.2.1, (r872.2.2.1.1, (r872.2.2.1.2.1 + r838), r872.2.2.1.2.2), (r872.2.2.2.1.1, r872.2.2.2.1.2.1, r872.2.2.2.1.2.2.1, r872.2.2.2.1.2.2.2.1, r872.2.2.2.1.2.2.2.2.1, (va_up r872.2.2.2.1.2.2.2.2.2.1 r872.1 (nNumber (r872.2.2.2.1.2.2.2.2.2.1 r872.1) r875)), r872.2.2.2.1.2.2.2.2.2.2), r872.2.2.2.2)).bind fun r877 => if r877.1 = true then (FM_atom_157 p xFuel r872.1 (r872.2.2.1.2.1 + r838) 0 r877.2) else (some (.inl (r872.1, (r877.2.1, (r877.2.2.1.1, (r872.2.2.1.2.1 + r838), r877.2.2.1.2.2), r877.2.2.2))))) else none)))) (fun i833 => some (.inl (i833, r830.2)))))
set_option maxRecDepth 20000 in
theorem CM_atom_157 {w : xw_G} {p : xTP} {d : Nat} (hp : xKP w p d) {h : xw_H} (hb : xMb h)  : ∀ (fu : Nat) {l2 : Nat} {l5 : Int32} {l6 : Int32} {s : xMs} {out : (xo Nat xMs)} {h0 : xw_H} {m0 n0 : Nat} (hm : m0 ≤ s.2.2.1.2.2.2.2.2.2.1 ∧ n0 ≤ s.2.2.1.2.2.2.2.2.2.2), FM_atom_157 p fu l2 l5 l6 s = some out → xw_Y w mM_atom (d + 1 + 20) (60 * (d + 1) + 600) (xo_P (fun x => some (.ref (xn x))) (fun s => mV s h) out) h0 m0 n0 s.2.2.1.2.2.2.2.2.2.1 s.2.2.1.2.2.2.2.2.2.2 (xo_s out).2.2.1.2.2.2.2.2.2.1 (xo_s out).2.2.1.2.2.2.2.2.2.2 157 [some (.ref 2000), none, some (.ref (xn l2)), none, none, some (.int l5), some (.int l6)] [] (mV s h) := by
  intro fu
  induction fu with
  | zero =>
    intro l2 l5 l6 s out h0 m0 n0 hm hF
    rw [FM_atom_157] at hF
    cases hF
  | succ fu ih =>
    intro l2 l5 l6 s out h0 m0 n0 hm hF
    rw [FM_atom_157] at hF
    refine xy_r (xw_iload dM_atom_157 rfl) ?_
    refine xy_r (xw_bipush (39) dM_atom_159 (by decide)) ?_
    refine xy_br (xw_icmp_ge 192 dM_atom_161 (by decide)) (fun c852 => ?_) (fun c852 => ?_)
    · replace hF := xg_t c852 hF
      refine xy_r (xw_aload_n dM_atom_192 rfl) ?_
      refine xy_r (xw_iload dM_atom_193 rfl) ?_
      refine xy_r (xg_put dM_atom_195 fM_221 rfl (by decide) (Nat.le_of_ble_eq_true rfl) (fun _ => rfl) (fun _ => rfl) (mV_o (s' := (s.1, (s.2.1.1, l5, s.2.1.2.2), s.2.2)) rfl)) ?_
      refine xy_r (xw_aload_n dM_atom_198 rfl) ?_
      obtain rfl := Option.some.inj hF
      exact xy_end (xw_areturn dM_atom_199 rfl (Or.inl ⟨_, rfl⟩) (Nat.le_refl _) (Nat.le_refl _) ⟨rfl, rfl⟩)
    · replace hF := xg_f c852 hF
      refine xy_r (xw_aload_n dM_atom_164 rfl) ?_
      refine xy_r (xw_get dM_atom_165 fM_132 rfl rfl) ?_
      refine xy_r (xw_iload dM_atom_168 rfl) ?_
      obtain ⟨g853, hF⟩ := xg_g hF
      refine xy_r (xg_laload g853 dM_atom_170 rfl (by decide)) ?_
      refine xy_r (xw_aload_n dM_atom_171 rfl) ?_
      obtain ⟨g854, hF⟩ := xg_g hF
      refine xy_r (xw_get dM_atom_172 fM_201 (mV_n g854) rfl) ?_
      refine xy_r (xw_lcmp dM_atom_175) ?_
      refine xy_brn (xw_if_ne 186 dM_atom_176 (by decide)) (fun c855 => ?_) (fun c855 => ?_)
      · replace hF := xg_f c855 hF
        refine xy_r (xw_iinc ((l6 + 1)) dM_atom_186 rfl rfl (Nat.le_of_ble_eq_true rfl)) ?_
        refine xy_r (xw_Ln (L' := [some (.ref 2000), none, some (.ref (xn l2)), none, none, some (.int l5), some (.int (l6 + 1))]) rfl) ?_
        refine xy_r (xw_goto 157 dM_atom_189 (by decide)) ?_
        exact ih (s := s) hm hF
      · replace hF := xg_t c855 hF
        refine xy_r (xw_aload_n dM_atom_179 rfl) ?_
        refine xy_r (xw_iload dM_atom_180 rfl) ?_
        rcases xg_o hF with ⟨r856, er856, hF⟩ | ⟨r856, er856, hF⟩
        · have hm857 : m0 ≤ r856.2.2.2.1.2.2.2.2.2.2.1 ∧ n0 ≤ r856.2.2.2.1.2.2.2.2.2.2.2 := xy_le hm (show s.2.2.1.2.2.2.2.2.2.1 ≤ r856.2.2.2.1.2.2.2.2.2.2.1 ∧ s.2.2.1.2.2.2.2.2.2.2 ≤ r856.2.2.2.1.2.2.2.2.2.2.2 from ((hp.2.2.2.2.2.2.2.1 (h := h) hb (s := s) er856)).1)
          refine xy_V1 (nl := 3) (sm := s.2.2.1.2.2.2.2.2.2.1) (sn := s.2.2.1.2.2.2.2.2.2.2) (tm := r856.2.2.2.1.2.2.2.2.2.2.1) (tn := r856.2.2.2.1.2.2.2.2.2.2.2) (hp.2.2.2.2.2.2.2.1 hb (s := s) er856) rfl rfl hm (fun _ => rfl) (fun _ => rfl) (fun _ => rfl) (fun _ => dM_atom_182) (fun _ R => kM_365 R) (fun _ => rfl) ⟨by omega, by omega⟩ rfl rfl rfl (fun _ => rfl) (Nat.le_of_ble_eq_true rfl) ?_
          obtain rfl := Option.some.inj hF
          exact xy_end (xw_areturn dM_atom_185 rfl (Or.inl ⟨_, rfl⟩) (Nat.le_refl _) (Nat.le_refl _) ⟨rfl, rfl⟩)
        · subst hF
          exact xy_Vt (nl := 3) (sm := s.2.2.1.2.2.2.2.2.2.1) (sn := s.2.2.1.2.2.2.2.2.2.2) (tm := r856.2.2.2.1.2.2.2.2.2.2.1) (tn := r856.2.2.2.1.2.2.2.2.2.2.2) (hp.2.2.2.2.2.2.2.1 hb (s := s) er856) rfl rfl hm (fun _ => rfl) (fun _ => rfl) (fun _ => rfl) (fun _ => dM_atom_182) (fun _ R => kM_365 R) (fun _ => rfl) ⟨by omega, by omega⟩ rfl rfl rfl (fun _ => rfl) (Nat.le_of_ble_eq_true rfl) ⟨rfl, rfl⟩
set_option maxRecDepth 20000 in
theorem CM_atom {w : xw_G} {p : xTP} {d : Nat} (hp : xKP w p d) {h : xw_H} (hb : xMb h)  {s : xMs} {out : (xo Nat xMs)} (hF : FM_atom p  s = some out) : (s.2.2.1.2.2.2.2.2.2.1 ≤ (xo_s out).2.2.1.2.2.2.2.2.2.1 ∧ s.2.2.1.2.2.2.2.2.2.2 ≤ (xo_s out).2.2.1.2.2.2.2.2.2.2) ∧ xw_C w (mM_atom { frames := (d + 1 + 20), cells := (xo_s out).2.2.1.2.2.2.2.2.2.1 - s.2.2.1.2.2.2.2.2.2.1, slots := (xo_s out).2.2.1.2.2.2.2.2.2.2 - s.2.2.1.2.2.2.2.2.2.2, locals := (60 * (d + 1) + 600) }) (xo_P (fun x => some (.ref (xn x))) (fun s => mV s h) out) [.ref 2000] (mV s h) := by
  unfold FM_atom at hF
  refine xy_enter (L := [some (.ref 2000), none, none, none, none, none, none]) (fun _ => rfl) (fun _ => rfl) (fun _ => (show plainName "FormulaShaperModel" = true by decide +kernel)) (fun _ => (Nat.le_of_ble_eq_true rfl)) (fun _ => rfl) ?_
  have hm : s.2.2.1.2.2.2.2.2.2.1 ≤ s.2.2.1.2.2.2.2.2.2.1 ∧ s.2.2.1.2.2.2.2.2.2.2 ≤ s.2.2.1.2.2.2.2.2.2.2 := ⟨Nat.le_refl _, Nat.le_refl _⟩
  refine xy_r (xw_aload_n dM_atom_0 rfl) ?_
  obtain ⟨r824, er824, hF⟩ := xg_b hF
  have hm825 : s.2.2.1.2.2.2.2.2.2.1 ≤ r824.2.2.1.2.2.2.2.2.2.1 ∧ s.2.2.1.2.2.2.2.2.2.2 ≤ r824.2.2.1.2.2.2.2.2.2.2 := xy_le hm (show s.2.2.1.2.2.2.2.2.2.1 ≤ r824.2.2.1.2.2.2.2.2.2.1 ∧ s.2.2.1.2.2.2.2.2.2.2 ≤ r824.2.2.1.2.2.2.2.2.2.2 from (CM_blanks (w := w) (h := h) hb (s := s) er824).1)
  refine xy_V0 (nl := 1) (sm := s.2.2.1.2.2.2.2.2.2.1) (sn := s.2.2.1.2.2.2.2.2.2.2) (tm := r824.2.2.1.2.2.2.2.2.2.1) (tn := r824.2.2.1.2.2.2.2.2.2.2) (CM_blanks hb (s := s) er824) rfl rfl hm (fun _ => rfl) (fun _ => rfl) (fun _ => rfl) (fun _ => dM_atom_1) (fun _ R => kM_233 R) (fun _ => rfl) ⟨by omega, by omega⟩ rfl rfl rfl (fun _ => rfl) (Nat.le_of_ble_eq_true rfl) ?_
  refine xy_r (xw_aload_n dM_atom_4 rfl) ?_
  obtain ⟨r827, er827, hF⟩ := xg_b hF
  refine xy_q (fun hq => xg_V1 (k1 := _) (n1 := _) (CM_peek er827) rfl rfl rfl dM_atom_5 (kM_230 _) (xZP (Nat.le_of_ble_eq_true rfl) (Nat.le_of_ble_eq_true rfl)) rfl rfl rfl rfl (Nat.le_of_ble_eq_true rfl) (Nat.le_refl _) (Nat.le_refl _) (Nat.sub_le_sub_right hq.1 _) (Nat.sub_le_sub_right hq.2 _)) ?_
  refine xy_r (xw_istore_n dM_atom_8 (Nat.le_of_ble_eq_true rfl)) ?_
  refine xy_r (xw_Ln (L' := [some (.ref 2000), some (.int r827), none, none, none, none, none]) rfl) ?_
  refine xy_r (xw_iload_n dM_atom_9 rfl) ?_
  refine xy_r (xw_bipush (40) dM_atom_10 (by decide)) ?_
  refine xy_brn (xw_icmp_ne 42 dM_atom_12 (by decide)) (fun c828 => ?_) (fun c828 => ?_)
  · replace hF := xg_f c828 hF
    refine xy_r (xw_iload_n dM_atom_42 rfl) ?_
    refine xy_r (xw_bipush (123) dM_atom_43 (by decide)) ?_
    refine xy_brn (xw_icmp_ne 53 dM_atom_45 (by decide)) (fun c829 => ?_) (fun c829 => ?_)
    · replace hF := xg_f c829 hF
      refine xy_r (xw_aload_n dM_atom_53 rfl) ?_
      rcases xg_o hF with ⟨r830, er830, hF⟩ | ⟨r830, er830, hF⟩
      · have hm831 : s.2.2.1.2.2.2.2.2.2.1 ≤ r830.2.2.2.1.2.2.2.2.2.2.1 ∧ s.2.2.1.2.2.2.2.2.2.2 ≤ r830.2.2.2.1.2.2.2.2.2.2.2 := xy_le hm825 (show r824.2.2.1.2.2.2.2.2.2.1 ≤ r830.2.2.2.1.2.2.2.2.2.2.1 ∧ r824.2.2.1.2.2.2.2.2.2.2 ≤ r830.2.2.2.1.2.2.2.2.2.2.2 from (CM_constant (w := w) (h := h) hb (s := r824) er830).1)
        refine xy_V1 (nl := 5) (sm := r824.2.2.1.2.2.2.2.2.2.1) (sn := r824.2.2.1.2.2.2.2.2.2.2) (tm := r830.2.2.2.1.2.2.2.2.2.2.1) (tn := r830.2.2.2.1.2.2.2.2.2.2.2) (CM_constant hb (s := r824) er830) rfl rfl hm825 (fun _ => rfl) (fun _ => rfl) (fun _ => rfl) (fun _ => dM_atom_54) (fun _ R => kM_359 R) (fun _ => rfl) ⟨by omega, by omega⟩ rfl rfl rfl (fun _ => rfl) (Nat.le_of_ble_eq_true rfl) ?_
        refine xy_r (xg_astore_n dM_atom_57 (Nat.le_of_ble_eq_true rfl)) ?_
        refine xy_r (xw_Ln (L' := [some (.ref 2000), some (.int r827), some (xw_rf r830.1), none, none, none, none]) rfl) ?_
        refine xy_r (xg_aload_n dM_atom_58 rfl) ?_
        rcases xg_m hF with ⟨ei833, hF⟩ | ⟨i833, ei833, hF⟩
        · refine xy_r (xw_Ln (L' := [some (.ref 2000), some (.int r827), some (.null), none, none, none, none]) (by first | (rw [ei833]; done) | (rw [ei833]; rfl))) ?_
          refine xy_r (xw_Sn (st' := [.null]) (by first | (rw [ei833]; done) | (rw [ei833]; rfl))) ?_
          refine xy_r (xw_ifnull_n 64 dM_atom_59 (by decide)) ?_
          refine xy_r (xw_aload_n dM_atom_64 rfl) ?_
          obtain ⟨r834, er834, hF⟩ := xg_b hF
          have hm835 : s.2.2.1.2.2.2.2.2.2.1 ≤ r834.2.2.2.1.2.2.2.2.2.2.1 ∧ s.2.2.1.2.2.2.2.2.2.2 ≤ r834.2.2.2.1.2.2.2.2.2.2.2 := xy_le hm831 (show r830.2.2.2.1.2.2.2.2.2.2.1 ≤ r834.2.2.2.1.2.2.2.2.2.2.1 ∧ r830.2.2.2.1.2.2.2.2.2.2.2 ≤ r834.2.2.2.1.2.2.2.2.2.2.2 from (CM_cell_Z (w := w) (h := h) hb (s := r830.2) er834).1)
          refine xy_V1 (nl := 3) (sm := r830.2.2.2.1.2.2.2.2.2.2.1) (sn := r830.2.2.2.1.2.2.2.2.2.2.2) (tm := r834.2.2.2.1.2.2.2.2.2.2.1) (tn := r834.2.2.2.1.2.2.2.2.2.2.2) (CM_cell_Z hb (s := r830.2) er834) rfl rfl hm831 (fun _ => rfl) (fun _ => rfl) (fun _ => rfl) (fun _ => dM_atom_65) (fun _ R => kM_320 R) (fun _ => rfl) ⟨by omega, by omega⟩ rfl rfl rfl (fun _ => rfl) (Nat.le_of_ble_eq_true rfl) ?_
          refine xy_brn (xw_if_eqB 76 dM_atom_68 (by decide)) (fun c837 => ?_) (fun c837 => ?_)
          · replace hF := xg_f c837 hF
            refine xy_r (xw_aload_n dM_atom_76 rfl) ?_
            obtain ⟨r838, er838, hF⟩ := xg_b hF
            refine xy_q (fun hq => xg_V1 (k1 := _) (n1 := _) (CM_wordLength er838) rfl rfl rfl dM_atom_77 (kM_317 _) (xZP (Nat.le_of_ble_eq_true rfl) (Nat.le_of_ble_eq_true rfl)) rfl rfl rfl rfl (Nat.le_of_ble_eq_true rfl) (Nat.le_refl _) (Nat.le_refl _) (Nat.sub_le_sub_right hq.1 _) (Nat.sub_le_sub_right hq.2 _)) ?_
            refine xy_r (xw_istore_n dM_atom_80 (Nat.le_of_ble_eq_true rfl)) ?_
            refine xy_r (xw_Ln (L' := [some (.ref 2000), some (.int r827), some (.null), some (.int r838), none, none, none]) rfl) ?_
            refine xy_r (xw_iload_n dM_atom_81 rfl) ?_
            refine xy_br (xw_if_eq 91 dM_atom_82 (by decide)) (fun c839 => ?_) (fun c839 => ?_)
            · replace hF := xg_t c839 hF
              refine xy_r (xw_aload_n dM_atom_91 rfl) ?_
              refine xy_r (xw_aload_n dM_atom_92 rfl) ?_
              refine xy_r (xw_get dM_atom_93 fM_221 rfl rfl) ?_
              rcases xg_o hF with ⟨r840, er840, hF⟩ | ⟨r840, er840, hF⟩
              · have hm841 : s.2.2.1.2.2.2.2.2.2.1 ≤ r840.2.2.2.1.2.2.2.2.2.2.1 ∧ s.2.2.1.2.2.2.2.2.2.2 ≤ r840.2.2.2.1.2.2.2.2.2.2.2 := xy_le hm835 (show r834.2.2.2.1.2.2.2.2.2.2.1 ≤ r840.2.2.2.1.2.2.2.2.2.2.1 ∧ r834.2.2.2.1.2.2.2.2.2.2.2 ≤ r840.2.2.2.1.2.2.2.2.2.2.2 from (CM_bad (w := w) (h := h) hb (s := r834.2) er840).1)
                refine xy_V0 (nl := 2) (sm := r834.2.2.2.1.2.2.2.2.2.2.1) (sn := r834.2.2.2.1.2.2.2.2.2.2.2) (tm := r840.2.2.2.1.2.2.2.2.2.2.1) (tn := r840.2.2.2.1.2.2.2.2.2.2.2) (CM_bad hb (s := r834.2) er840) rfl rfl hm835 (fun _ => rfl) (fun _ => rfl) (fun _ => rfl) (fun _ => dM_atom_96) (fun _ R => kM_239 R) (fun _ => rfl) ⟨by omega, by omega⟩ rfl rfl rfl (fun _ => rfl) (Nat.le_of_ble_eq_true rfl) ?_
                refine xy_r (xw_aload_n dM_atom_99 rfl) ?_
                refine xy_r (xw_bipush (6) dM_atom_100 (by decide)) ?_
                obtain ⟨r843, er843, hF⟩ := xg_b hF
                have hm844 : s.2.2.1.2.2.2.2.2.2.1 ≤ r843.2.2.2.1.2.2.2.2.2.2.1 ∧ s.2.2.1.2.2.2.2.2.2.2 ≤ r843.2.2.2.1.2.2.2.2.2.2.2 := xy_le hm841 (show r840.2.2.2.1.2.2.2.2.2.2.1 ≤ r843.2.2.2.1.2.2.2.2.2.2.1 ∧ r840.2.2.2.1.2.2.2.2.2.2.2 ≤ r843.2.2.2.1.2.2.2.2.2.2.2 from (CM_node (w := w) (h := h) hb (s := r840.2) er843).1)
                refine xy_V1 (nl := 4) (sm := r840.2.2.2.1.2.2.2.2.2.2.1) (sn := r840.2.2.2.1.2.2.2.2.2.2.2) (tm := r843.2.2.2.1.2.2.2.2.2.2.1) (tn := r843.2.2.2.1.2.2.2.2.2.2.2) (CM_node hb (s := r840.2) er843) rfl rfl hm841 (fun _ => rfl) (fun _ => rfl) (fun _ => rfl) (fun _ => dM_atom_102) (fun _ R => kM_253 R) (fun _ => rfl) ⟨by omega, by omega⟩ rfl rfl rfl (fun _ => rfl) (Nat.le_of_ble_eq_true rfl) ?_
                refine xy_r (xw_astore_n dM_atom_105 (Nat.le_of_ble_eq_true rfl)) ?_
                refine xy_r (xw_Ln (L' := [some (.ref 2000), some (.int r827), some (.ref (xn r843.1)), some (.int r838), none, none, none]) rfl) ?_
                refine xy_r (xw_aload_n dM_atom_106 rfl) ?_
                refine xy_r (xw_aload_n dM_atom_107 rfl) ?_
                refine xy_r (xw_iload_n dM_atom_108 rfl) ?_
                obtain ⟨r846, er846, hF⟩ := xg_b hF
                refine xy_q (fun hq => xg_V1 (k1 := _) (n1 := _) (CM_wordOf er846) rfl rfl rfl dM_atom_109 (kM_332 _) (xZP (Nat.le_of_ble_eq_true rfl) (Nat.le_of_ble_eq_true rfl)) rfl rfl rfl rfl (Nat.le_of_ble_eq_true rfl) (Nat.le_refl _) (Nat.le_refl _) (Nat.sub_le_sub_right hq.1 _) (Nat.sub_le_sub_right hq.2 _)) ?_
                obtain ⟨g847, hF⟩ := xg_g hF
                refine xy_r (xg_put dM_atom_112 fM_201 (mV_n g847) (xn_le _) (Nat.le_of_ble_eq_true rfl) (fun _ => rfl) (fun _ => rfl) (mV_e (s' := (r843.2.1, r843.2.2.1, (r843.2.2.2.1.1, r843.2.2.2.1.2.1, r843.2.2.2.1.2.2.1, r843.2.2.2.1.2.2.2.1, r843.2.2.2.1.2.2.2.2.1, (va_up r843.2.2.2.1.2.2.2.2.2.1 r843.1 (nNumber (r843.2.2.2.1.2.2.2.2.2.1 r843.1) r846)), r843.2.2.2.1.2.2.2.2.2.2), r843.2.2.2.2)) (mV_pn (q := (nNumber (r843.2.2.2.1.2.2.2.2.2.1 r843.1) r846)) g847) rfl)) ?_
                refine xy_r (xw_aload_n dM_atom_115 rfl) ?_
                refine xy_r (xw_get dM_atom_116 fM_221 rfl rfl) ?_
                refine xy_r (xw_istore dM_atom_119 (Nat.le_of_ble_eq_true rfl)) ?_
                refine xy_r (xw_Ln (L' := [some (.ref 2000), some (.int r827), some (.ref (xn r843.1)), some (.int r838), some (.int r843.2.2.1.2.1), none, none]) rfl) ?_
                refine xy_r (xw_aload_n dM_atom_121 rfl) ?_
                refine xy_r (xw_dup_r dM_atom_122) ?_
                refine xy_r (xw_get dM_atom_123 fM_221 rfl rfl) ?_
                refine xy_r (xw_iload_n dM_atom_126 rfl) ?_
                refine xy_r (xw_iadd dM_atom_127) ?_
                refine xy_r (xg_put dM_atom_128 fM_221 rfl (by decide) (Nat.le_of_ble_eq_true rfl) (fun _ => rfl) (fun _ => rfl) (mV_o (s' := (r843.2.1, (r843.2.2.1.1, (r843.2.2.1.2.1 + r838), r843.2.2.1.2.2), (r843.2.2.2.1.1, r843.2.2.2.1.2.1, r843.2.2.2.1.2.2.1, r843.2.2.2.1.2.2.2.1, r843.2.2.2.1.2.2.2.2.1, (va_up r843.2.2.2.1.2.2.2.2.2.1 r843.1 (nNumber (r843.2.2.2.1.2.2.2.2.2.1 r843.1) r846)), r843.2.2.2.1.2.2.2.2.2.2), r843.2.2.2.2)) rfl)) ?_
                refine xy_r (xw_aload_n dM_atom_131 rfl) ?_
                refine xy_r (xw_get dM_atom_132 fM_221 rfl rfl) ?_
                refine xy_r (xw_istore dM_atom_135 (Nat.le_of_ble_eq_true rfl)) ?_
                refine xy_r (xw_Ln (L' := [some (.ref 2000), some (.int r827), some (.ref (xn r843.1)), some (.int r838), some (.int r843.2.2.1.2.1), some (.int (r843.2.2.1.2.1 + r838)), none]) rfl) ?_
                refine xy_r (xw_aload_n dM_atom_137 rfl) ?_
                refine xy_r (xw_bipush (40) dM_atom_138 (by decide)) ?_
                obtain ⟨r848, er848, hF⟩ := xg_b hF
                have hm849 : s.2.2.1.2.2.2.2.2.2.1 ≤ r848.2.2.2.1.2.2.2.2.2.2.1 ∧ s.2.2.1.2.2.2.2.2.2.2 ≤ r848.2.2.2.1.2.2.2.2.2.2.2 := xy_le hm844 (show r843.2.2.2.1.2.2.2.2.2.2.1 ≤ r848.2.2.2.1.2.2.2.2.2.2.1 ∧ r843.2.2.2.1.2.2.2.2.2.2.2 ≤ r848.2.2.2.1.2.2.2.2.2.2.2 from (CM_next (w := w) (h := h) hb (s := (r843.2.1, (r843.2.2.1.1, (r843.2.2.1.2.1 + r838), r843.2.2.1.2.2), (r843.2.2.2.1.1, r843.2.2.2.1.2.1, r843.2.2.2.1.2.2.1, r843.2.2.2.1.2.2.2.1, r843.2.2.2.1.2.2.2.2.1, (va_up r843.2.2.2.1.2.2.2.2.2.1 r843.1 (nNumber (r843.2.2.2.1.2.2.2.2.2.1 r843.1) r846)), r843.2.2.2.1.2.2.2.2.2.2), r843.2.2.2.2)) er848).1)
                refine xy_V1 (nl := 2) (sm := r843.2.2.2.1.2.2.2.2.2.2.1) (sn := r843.2.2.2.1.2.2.2.2.2.2.2) (tm := r848.2.2.2.1.2.2.2.2.2.2.1) (tn := r848.2.2.2.1.2.2.2.2.2.2.2) (CM_next hb (s := (r843.2.1, (r843.2.2.1.1, (r843.2.2.1.2.1 + r838), r843.2.2.1.2.2), (r843.2.2.2.1.1, r843.2.2.2.1.2.1, r843.2.2.2.1.2.2.1, r843.2.2.2.1.2.2.2.1, r843.2.2.2.1.2.2.2.2.1, (va_up r843.2.2.2.1.2.2.2.2.2.1 r843.1 (nNumber (r843.2.2.2.1.2.2.2.2.2.1 r843.1) r846)), r843.2.2.2.1.2.2.2.2.2.2), r843.2.2.2.2)) er848) rfl rfl hm844 (fun _ => rfl) (fun _ => rfl) (fun _ => rfl) (fun _ => dM_atom_140) (fun _ R => kM_236 R) (fun _ => rfl) ⟨by omega, by omega⟩ rfl rfl rfl (fun _ => rfl) (Nat.le_of_ble_eq_true rfl) ?_
                refine xy_br (xw_if_neB 154 dM_atom_143 (by decide)) (fun c851 => ?_) (fun c851 => ?_)
                · replace hF := xg_t c851 hF
                  refine xy_r (xw_iconst (0) dM_atom_154 (by decide)) ?_
                  refine xy_r (xw_istore dM_atom_155 (Nat.le_of_ble_eq_true rfl)) ?_
                  refine xy_r (xw_Ln (L' := [some (.ref 2000), some (.int r827), some (.ref (xn r843.1)), some (.int r838), some (.int r843.2.2.1.2.1), some (.int (r843.2.2.1.2.1 + r838)), some (.int 0)]) rfl) ?_
                  refine xy_r (xw_drop (L' := [some (.ref 2000), none, some (.ref (xn r843.1)), none, none, some (.int (r843.2.2.1.2.1 + r838)), some (.int 0)]) ⟨rfl, ⟨rfl, ⟨rfl, ⟨rfl, trivial⟩⟩⟩⟩) ?_
                  exact CM_atom_157 (hp := hp) hb xFuel (s := r848.2) hm849 hF
                · replace hF := xg_f c851 hF
                  refine xy_r (xw_aload_n dM_atom_146 rfl) ?_
                  refine xy_r (xw_iload dM_atom_147 rfl) ?_
                  refine xy_r (xg_put dM_atom_149 fM_221 rfl (by decide) (Nat.le_of_ble_eq_true rfl) (fun _ => rfl) (fun _ => rfl) (mV_o (s' := (r848.2.1, (r848.2.2.1.1, (r843.2.2.1.2.1 + r838), r848.2.2.1.2.2), r848.2.2.2)) rfl)) ?_
                  refine xy_r (xw_aload_n dM_atom_152 rfl) ?_
                  obtain rfl := Option.some.inj hF
                  exact xy_end (xw_areturn dM_atom_153 rfl (Or.inl ⟨_, rfl⟩) (Nat.le_refl _) (Nat.le_refl _) ⟨rfl, rfl⟩)
              · subst hF
                exact xy_Vt (nl := 2) (sm := r834.2.2.2.1.2.2.2.2.2.2.1) (sn := r834.2.2.2.1.2.2.2.2.2.2.2) (tm := r840.2.2.2.1.2.2.2.2.2.2.1) (tn := r840.2.2.2.1.2.2.2.2.2.2.2) (CM_bad hb (s := r834.2) er840) rfl rfl hm835 (fun _ => rfl) (fun _ => rfl) (fun _ => rfl) (fun _ => dM_atom_96) (fun _ R => kM_239 R) (fun _ => rfl) ⟨by omega, by omega⟩ rfl rfl rfl (fun _ => rfl) (Nat.le_of_ble_eq_true rfl) ⟨rfl, rfl⟩
            · replace hF := xg_f c839 hF
              refine xy_r (xw_iload_n dM_atom_85 rfl) ?_
              refine xy_r (xw_bipush (12) dM_atom_86 (by decide)) ?_
              refine xy_br (xw_icmp_le 99 dM_atom_88 (by decide)) (fun c859 => ?_) (fun c859 => ?_)
              · replace hF := xg_t c859 hF
                refine xy_r (xw_aload_n dM_atom_99 rfl) ?_
                refine xy_r (xw_bipush (6) dM_atom_100 (by decide)) ?_
                obtain ⟨r860, er860, hF⟩ := xg_b hF
                have hm861 : s.2.2.1.2.2.2.2.2.2.1 ≤ r860.2.2.2.1.2.2.2.2.2.2.1 ∧ s.2.2.1.2.2.2.2.2.2.2 ≤ r860.2.2.2.1.2.2.2.2.2.2.2 := xy_le hm835 (show r834.2.2.2.1.2.2.2.2.2.2.1 ≤ r860.2.2.2.1.2.2.2.2.2.2.1 ∧ r834.2.2.2.1.2.2.2.2.2.2.2 ≤ r860.2.2.2.1.2.2.2.2.2.2.2 from (CM_node (w := w) (h := h) hb (s := r834.2) er860).1)
                refine xy_V1 (nl := 4) (sm := r834.2.2.2.1.2.2.2.2.2.2.1) (sn := r834.2.2.2.1.2.2.2.2.2.2.2) (tm := r860.2.2.2.1.2.2.2.2.2.2.1) (tn := r860.2.2.2.1.2.2.2.2.2.2.2) (CM_node hb (s := r834.2) er860) rfl rfl hm835 (fun _ => rfl) (fun _ => rfl) (fun _ => rfl) (fun _ => dM_atom_102) (fun _ R => kM_253 R) (fun _ => rfl) ⟨by omega, by omega⟩ rfl rfl rfl (fun _ => rfl) (Nat.le_of_ble_eq_true rfl) ?_
                refine xy_r (xw_astore_n dM_atom_105 (Nat.le_of_ble_eq_true rfl)) ?_
                refine xy_r (xw_Ln (L' := [some (.ref 2000), some (.int r827), some (.ref (xn r860.1)), some (.int r838), none, none, none]) rfl) ?_
                refine xy_r (xw_aload_n dM_atom_106 rfl) ?_
                refine xy_r (xw_aload_n dM_atom_107 rfl) ?_
                refine xy_r (xw_iload_n dM_atom_108 rfl) ?_
                obtain ⟨r863, er863, hF⟩ := xg_b hF
                refine xy_q (fun hq => xg_V1 (k1 := _) (n1 := _) (CM_wordOf er863) rfl rfl rfl dM_atom_109 (kM_332 _) (xZP (Nat.le_of_ble_eq_true rfl) (Nat.le_of_ble_eq_true rfl)) rfl rfl rfl rfl (Nat.le_of_ble_eq_true rfl) (Nat.le_refl _) (Nat.le_refl _) (Nat.sub_le_sub_right hq.1 _) (Nat.sub_le_sub_right hq.2 _)) ?_
                obtain ⟨g864, hF⟩ := xg_g hF
                refine xy_r (xg_put dM_atom_112 fM_201 (mV_n g864) (xn_le _) (Nat.le_of_ble_eq_true rfl) (fun _ => rfl) (fun _ => rfl) (mV_e (s' := (r860.2.1, r860.2.2.1, (r860.2.2.2.1.1, r860.2.2.2.1.2.1, r860.2.2.2.1.2.2.1, r860.2.2.2.1.2.2.2.1, r860.2.2.2.1.2.2.2.2.1, (va_up r860.2.2.2.1.2.2.2.2.2.1 r860.1 (nNumber (r860.2.2.2.1.2.2.2.2.2.1 r860.1) r863)), r860.2.2.2.1.2.2.2.2.2.2), r860.2.2.2.2)) (mV_pn (q := (nNumber (r860.2.2.2.1.2.2.2.2.2.1 r860.1) r863)) g864) rfl)) ?_
                refine xy_r (xw_aload_n dM_atom_115 rfl) ?_
                refine xy_r (xw_get dM_atom_116 fM_221 rfl rfl) ?_
                refine xy_r (xw_istore dM_atom_119 (Nat.le_of_ble_eq_true rfl)) ?_
                refine xy_r (xw_Ln (L' := [some (.ref 2000), some (.int r827), some (.ref (xn r860.1)), some (.int r838), some (.int r860.2.2.1.2.1), none, none]) rfl) ?_
                refine xy_r (xw_aload_n dM_atom_121 rfl) ?_
                refine xy_r (xw_dup_r dM_atom_122) ?_
                refine xy_r (xw_get dM_atom_123 fM_221 rfl rfl) ?_
                refine xy_r (xw_iload_n dM_atom_126 rfl) ?_
                refine xy_r (xw_iadd dM_atom_127) ?_
                refine xy_r (xg_put dM_atom_128 fM_221 rfl (by decide) (Nat.le_of_ble_eq_true rfl) (fun _ => rfl) (fun _ => rfl) (mV_o (s' := (r860.2.1, (r860.2.2.1.1, (r860.2.2.1.2.1 + r838), r860.2.2.1.2.2), (r860.2.2.2.1.1, r860.2.2.2.1.2.1, r860.2.2.2.1.2.2.1, r860.2.2.2.1.2.2.2.1, r860.2.2.2.1.2.2.2.2.1, (va_up r860.2.2.2.1.2.2.2.2.2.1 r860.1 (nNumber (r860.2.2.2.1.2.2.2.2.2.1 r860.1) r863)), r860.2.2.2.1.2.2.2.2.2.2), r860.2.2.2.2)) rfl)) ?_
                refine xy_r (xw_aload_n dM_atom_131 rfl) ?_
                refine xy_r (xw_get dM_atom_132 fM_221 rfl rfl) ?_
                refine xy_r (xw_istore dM_atom_135 (Nat.le_of_ble_eq_true rfl)) ?_
                refine xy_r (xw_Ln (L' := [some (.ref 2000), some (.int r827), some (.ref (xn r860.1)), some (.int r838), some (.int r860.2.2.1.2.1), some (.int (r860.2.2.1.2.1 + r838)), none]) rfl) ?_
                refine xy_r (xw_aload_n dM_atom_137 rfl) ?_
                refine xy_r (xw_bipush (40) dM_atom_138 (by decide)) ?_
                obtain ⟨r865, er865, hF⟩ := xg_b hF
                have hm866 : s.2.2.1.2.2.2.2.2.2.1 ≤ r865.2.2.2.1.2.2.2.2.2.2.1 ∧ s.2.2.1.2.2.2.2.2.2.2 ≤ r865.2.2.2.1.2.2.2.2.2.2.2 := xy_le hm861 (show r860.2.2.2.1.2.2.2.2.2.2.1 ≤ r865.2.2.2.1.2.2.2.2.2.2.1 ∧ r860.2.2.2.1.2.2.2.2.2.2.2 ≤ r865.2.2.2.1.2.2.2.2.2.2.2 from (CM_next (w := w) (h := h) hb (s := (r860.2.1, (r860.2.2.1.1, (r860.2.2.1.2.1 + r838), r860.2.2.1.2.2), (r860.2.2.2.1.1, r860.2.2.2.1.2.1, r860.2.2.2.1.2.2.1, r860.2.2.2.1.2.2.2.1, r860.2.2.2.1.2.2.2.2.1, (va_up r860.2.2.2.1.2.2.2.2.2.1 r860.1 (nNumber (r860.2.2.2.1.2.2.2.2.2.1 r860.1) r863)), r860.2.2.2.1.2.2.2.2.2.2), r860.2.2.2.2)) er865).1)
                refine xy_V1 (nl := 2) (sm := r860.2.2.2.1.2.2.2.2.2.2.1) (sn := r860.2.2.2.1.2.2.2.2.2.2.2) (tm := r865.2.2.2.1.2.2.2.2.2.2.1) (tn := r865.2.2.2.1.2.2.2.2.2.2.2) (CM_next hb (s := (r860.2.1, (r860.2.2.1.1, (r860.2.2.1.2.1 + r838), r860.2.2.1.2.2), (r860.2.2.2.1.1, r860.2.2.2.1.2.1, r860.2.2.2.1.2.2.1, r860.2.2.2.1.2.2.2.1, r860.2.2.2.1.2.2.2.2.1, (va_up r860.2.2.2.1.2.2.2.2.2.1 r860.1 (nNumber (r860.2.2.2.1.2.2.2.2.2.1 r860.1) r863)), r860.2.2.2.1.2.2.2.2.2.2), r860.2.2.2.2)) er865) rfl rfl hm861 (fun _ => rfl) (fun _ => rfl) (fun _ => rfl) (fun _ => dM_atom_140) (fun _ R => kM_236 R) (fun _ => rfl) ⟨by omega, by omega⟩ rfl rfl rfl (fun _ => rfl) (Nat.le_of_ble_eq_true rfl) ?_
                refine xy_br (xw_if_neB 154 dM_atom_143 (by decide)) (fun c868 => ?_) (fun c868 => ?_)
                · replace hF := xg_t c868 hF
                  refine xy_r (xw_iconst (0) dM_atom_154 (by decide)) ?_
                  refine xy_r (xw_istore dM_atom_155 (Nat.le_of_ble_eq_true rfl)) ?_
                  refine xy_r (xw_Ln (L' := [some (.ref 2000), some (.int r827), some (.ref (xn r860.1)), some (.int r838), some (.int r860.2.2.1.2.1), some (.int (r860.2.2.1.2.1 + r838)), some (.int 0)]) rfl) ?_
                  refine xy_r (xw_drop (L' := [some (.ref 2000), none, some (.ref (xn r860.1)), none, none, some (.int (r860.2.2.1.2.1 + r838)), some (.int 0)]) ⟨rfl, ⟨rfl, ⟨rfl, ⟨rfl, trivial⟩⟩⟩⟩) ?_
                  exact CM_atom_157 (hp := hp) hb xFuel (s := r865.2) hm866 hF
                · replace hF := xg_f c868 hF
                  refine xy_r (xw_aload_n dM_atom_146 rfl) ?_
                  refine xy_r (xw_iload dM_atom_147 rfl) ?_
                  refine xy_r (xg_put dM_atom_149 fM_221 rfl (by decide) (Nat.le_of_ble_eq_true rfl) (fun _ => rfl) (fun _ => rfl) (mV_o (s' := (r865.2.1, (r865.2.2.1.1, (r860.2.2.1.2.1 + r838), r865.2.2.1.2.2), r865.2.2.2)) rfl)) ?_
                  refine xy_r (xw_aload_n dM_atom_152 rfl) ?_
                  obtain rfl := Option.some.inj hF
                  exact xy_end (xw_areturn dM_atom_153 rfl (Or.inl ⟨_, rfl⟩) (Nat.le_refl _) (Nat.le_refl _) ⟨rfl, rfl⟩)
              · replace hF := xg_f c859 hF
                refine xy_r (xw_aload_n dM_atom_91 rfl) ?_
                refine xy_r (xw_aload_n dM_atom_92 rfl) ?_
                refine xy_r (xw_get dM_atom_93 fM_221 rfl rfl) ?_
                rcases xg_o hF with ⟨r869, er869, hF⟩ | ⟨r869, er869, hF⟩
                · have hm870 : s.2.2.1.2.2.2.2.2.2.1 ≤ r869.2.2.2.1.2.2.2.2.2.2.1 ∧ s.2.2.1.2.2.2.2.2.2.2 ≤ r869.2.2.2.1.2.2.2.2.2.2.2 := xy_le hm835 (show r834.2.2.2.1.2.2.2.2.2.2.1 ≤ r869.2.2.2.1.2.2.2.2.2.2.1 ∧ r834.2.2.2.1.2.2.2.2.2.2.2 ≤ r869.2.2.2.1.2.2.2.2.2.2.2 from (CM_bad (w := w) (h := h) hb (s := r834.2) er869).1)
                  refine xy_V0 (nl := 2) (sm := r834.2.2.2.1.2.2.2.2.2.2.1) (sn := r834.2.2.2.1.2.2.2.2.2.2.2) (tm := r869.2.2.2.1.2.2.2.2.2.2.1) (tn := r869.2.2.2.1.2.2.2.2.2.2.2) (CM_bad hb (s := r834.2) er869) rfl rfl hm835 (fun _ => rfl) (fun _ => rfl) (fun _ => rfl) (fun _ => dM_atom_96) (fun _ R => kM_239 R) (fun _ => rfl) ⟨by omega, by omega⟩ rfl rfl rfl (fun _ => rfl) (Nat.le_of_ble_eq_true rfl) ?_
                  refine xy_r (xw_aload_n dM_atom_99 rfl) ?_
                  refine xy_r (xw_bipush (6) dM_atom_100 (by decide)) ?_
                  obtain ⟨r872, er872, hF⟩ := xg_b hF
                  have hm873 : s.2.2.1.2.2.2.2.2.2.1 ≤ r872.2.2.2.1.2.2.2.2.2.2.1 ∧ s.2.2.1.2.2.2.2.2.2.2 ≤ r872.2.2.2.1.2.2.2.2.2.2.2 := xy_le hm870 (show r869.2.2.2.1.2.2.2.2.2.2.1 ≤ r872.2.2.2.1.2.2.2.2.2.2.1 ∧ r869.2.2.2.1.2.2.2.2.2.2.2 ≤ r872.2.2.2.1.2.2.2.2.2.2.2 from (CM_node (w := w) (h := h) hb (s := r869.2) er872).1)
                  refine xy_V1 (nl := 4) (sm := r869.2.2.2.1.2.2.2.2.2.2.1) (sn := r869.2.2.2.1.2.2.2.2.2.2.2) (tm := r872.2.2.2.1.2.2.2.2.2.2.1) (tn := r872.2.2.2.1.2.2.2.2.2.2.2) (CM_node hb (s := r869.2) er872) rfl rfl hm870 (fun _ => rfl) (fun _ => rfl) (fun _ => rfl) (fun _ => dM_atom_102) (fun _ R => kM_253 R) (fun _ => rfl) ⟨by omega, by omega⟩ rfl rfl rfl (fun _ => rfl) (Nat.le_of_ble_eq_true rfl) ?_
                  refine xy_r (xw_astore_n dM_atom_105 (Nat.le_of_ble_eq_true rfl)) ?_
                  refine xy_r (xw_Ln (L' := [some (.ref 2000), some (.int r827), some (.ref (xn r872.1)), some (.int r838), none, none, none]) rfl) ?_
                  refine xy_r (xw_aload_n dM_atom_106 rfl) ?_
                  refine xy_r (xw_aload_n dM_atom_107 rfl) ?_
                  refine xy_r (xw_iload_n dM_atom_108 rfl) ?_
                  obtain ⟨r875, er875, hF⟩ := xg_b hF
                  refine xy_q (fun hq => xg_V1 (k1 := _) (n1 := _) (CM_wordOf er875) rfl rfl rfl dM_atom_109 (kM_332 _) (xZP (Nat.le_of_ble_eq_true rfl) (Nat.le_of_ble_eq_true rfl)) rfl rfl rfl rfl (Nat.le_of_ble_eq_true rfl) (Nat.le_refl _) (Nat.le_refl _) (Nat.sub_le_sub_right hq.1 _) (Nat.sub_le_sub_right hq.2 _)) ?_
                  obtain ⟨g876, hF⟩ := xg_g hF
                  refine xy_r (xg_put dM_atom_112 fM_201 (mV_n g876) (xn_le _) (Nat.le_of_ble_eq_true rfl) (fun _ => rfl) (fun _ => rfl) (mV_e (s' := (r872.2.1, r872.2.2.1, (r872.2.2.2.1.1, r872.2.2.2.1.2.1, r872.2.2.2.1.2.2.1, r872.2.2.2.1.2.2.2.1, r872.2.2.2.1.2.2.2.2.1, (va_up r872.2.2.2.1.2.2.2.2.2.1 r872.1 (nNumber (r872.2.2.2.1.2.2.2.2.2.1 r872.1) r875)), r872.2.2.2.1.2.2.2.2.2.2), r872.2.2.2.2)) (mV_pn (q := (nNumber (r872.2.2.2.1.2.2.2.2.2.1 r872.1) r875)) g876) rfl)) ?_
                  refine xy_r (xw_aload_n dM_atom_115 rfl) ?_
                  refine xy_r (xw_get dM_atom_116 fM_221 rfl rfl) ?_
                  refine xy_r (xw_istore dM_atom_119 (Nat.le_of_ble_eq_true rfl)) ?_
                  refine xy_r (xw_Ln (L' := [some (.ref 2000), some (.int r827), some (.ref (xn r872.1)), some (.int r838), some (.int r872.2.2.1.2.1), none, none]) rfl) ?_
                  refine xy_r (xw_aload_n dM_atom_121 rfl) ?_
                  refine xy_r (xw_dup_r dM_atom_122) ?_
                  refine xy_r (xw_get dM_atom_123 fM_221 rfl rfl) ?_
                  refine xy_r (xw_iload_n dM_atom_126 rfl) ?_
                  refine xy_r (xw_iadd dM_atom_127) ?_
                  refine xy_r (xg_put dM_atom_128 fM_221 rfl (by decide) (Nat.le_of_ble_eq_true rfl) (fun _ => rfl) (fun _ => rfl) (mV_o (s' := (r872.2.1, (r872.2.2.1.1, (r872.2.2.1.2.1 + r838), r872.2.2.1.2.2), (r872.2.2.2.1.1, r872.2.2.2.1.2.1, r872.2.2.2.1.2.2.1, r872.2.2.2.1.2.2.2.1, r872.2.2.2.1.2.2.2.2.1, (va_up r872.2.2.2.1.2.2.2.2.2.1 r872.1 (nNumber (r872.2.2.2.1.2.2.2.2.2.1 r872.1) r875)), r872.2.2.2.1.2.2.2.2.2.2), r872.2.2.2.2)) rfl)) ?_
                  refine xy_r (xw_aload_n dM_atom_131 rfl) ?_
                  refine xy_r (xw_get dM_atom_132 fM_221 rfl rfl) ?_
                  refine xy_r (xw_istore dM_atom_135 (Nat.le_of_ble_eq_true rfl)) ?_
                  refine xy_r (xw_Ln (L' := [some (.ref 2000), some (.int r827), some (.ref (xn r872.1)), some (.int r838), some (.int r872.2.2.1.2.1), some (.int (r872.2.2.1.2.1 + r838)), none]) rfl) ?_
                  refine xy_r (xw_aload_n dM_atom_137 rfl) ?_
                  refine xy_r (xw_bipush (40) dM_atom_138 (by decide)) ?_
                  obtain ⟨r877, er877, hF⟩ := xg_b hF
                  have hm878 : s.2.2.1.2.2.2.2.2.2.1 ≤ r877.2.2.2.1.2.2.2.2.2.2.1 ∧ s.2.2.1.2.2.2.2.2.2.2 ≤ r877.2.2.2.1.2.2.2.2.2.2.2 := xy_le hm873 (show r872.2.2.2.1.2.2.2.2.2.2.1 ≤ r877.2.2.2.1.2.2.2.2.2.2.1 ∧ r872.2.2.2.1.2.2.2.2.2.2.2 ≤ r877.2.2.2.1.2.2.2.2.2.2.2 from (CM_next (w := w) (h := h) hb (s := (r872.2.1, (r872.2.2.1.1, (r872.2.2.1.2.1 + r838), r872.2.2.1.2.2), (r872.2.2.2.1.1, r872.2.2.2.1.2.1, r872.2.2.2.1.2.2.1, r872.2.2.2.1.2.2.2.1, r872.2.2.2.1.2.2.2.2.1, (va_up r872.2.2.2.1.2.2.2.2.2.1 r872.1 (nNumber (r872.2.2.2.1.2.2.2.2.2.1 r872.1) r875)), r872.2.2.2.1.2.2.2.2.2.2), r872.2.2.2.2)) er877).1)
                  refine xy_V1 (nl := 2) (sm := r872.2.2.2.1.2.2.2.2.2.2.1) (sn := r872.2.2.2.1.2.2.2.2.2.2.2) (tm := r877.2.2.2.1.2.2.2.2.2.2.1) (tn := r877.2.2.2.1.2.2.2.2.2.2.2) (CM_next hb (s := (r872.2.1, (r872.2.2.1.1, (r872.2.2.1.2.1 + r838), r872.2.2.1.2.2), (r872.2.2.2.1.1, r872.2.2.2.1.2.1, r872.2.2.2.1.2.2.1, r872.2.2.2.1.2.2.2.1, r872.2.2.2.1.2.2.2.2.1, (va_up r872.2.2.2.1.2.2.2.2.2.1 r872.1 (nNumber (r872.2.2.2.1.2.2.2.2.2.1 r872.1) r875)), r872.2.2.2.1.2.2.2.2.2.2), r872.2.2.2.2)) er877) rfl rfl hm873 (fun _ => rfl) (fun _ => rfl) (fun _ => rfl) (fun _ => dM_atom_140) (fun _ R => kM_236 R) (fun _ => rfl) ⟨by omega, by omega⟩ rfl rfl rfl (fun _ => rfl) (Nat.le_of_ble_eq_true rfl) ?_
                  refine xy_br (xw_if_neB 154 dM_atom_143 (by decide)) (fun c880 => ?_) (fun c880 => ?_)
                  · replace hF := xg_t c880 hF
                    refine xy_r (xw_iconst (0) dM_atom_154 (by decide)) ?_
                    refine xy_r (xw_istore dM_atom_155 (Nat.le_of_ble_eq_true rfl)) ?_
                    refine xy_r (xw_Ln (L' := [some (.ref 2000), some (.int r827), some (.ref (xn r872.1)), some (.int r838), some (.int r872.2.2.1.2.1), some (.int (r872.2.2.1.2.1 + r838)), some (.int 0)]) rfl) ?_
                    refine xy_r (xw_drop (L' := [some (.ref 2000), none, some (.ref (xn r872.1)), none, none, some (.int (r872.2.2.1.2.1 + r838)), some (.int 0)]) ⟨rfl, ⟨rfl, ⟨rfl, ⟨rfl, trivial⟩⟩⟩⟩) ?_
                    exact CM_atom_157 (hp := hp) hb xFuel (s := r877.2) hm878 hF
                  · replace hF := xg_f c880 hF
                    refine xy_r (xw_aload_n dM_atom_146 rfl) ?_
                    refine xy_r (xw_iload dM_atom_147 rfl) ?_
                    refine xy_r (xg_put dM_atom_149 fM_221 rfl (by decide) (Nat.le_of_ble_eq_true rfl) (fun _ => rfl) (fun _ => rfl) (mV_o (s' := (r877.2.1, (r877.2.2.1.1, (r872.2.2.1.2.1 + r838), r877.2.2.1.2.2), r877.2.2.2)) rfl)) ?_
                    refine xy_r (xw_aload_n dM_atom_152 rfl) ?_
                    obtain rfl := Option.some.inj hF
                    exact xy_end (xw_areturn dM_atom_153 rfl (Or.inl ⟨_, rfl⟩) (Nat.le_refl _) (Nat.le_refl _) ⟨rfl, rfl⟩)
                · subst hF
                  exact xy_Vt (nl := 2) (sm := r834.2.2.2.1.2.2.2.2.2.2.1) (sn := r834.2.2.2.1.2.2.2.2.2.2.2) (tm := r869.2.2.2.1.2.2.2.2.2.2.1) (tn := r869.2.2.2.1.2.2.2.2.2.2.2) (CM_bad hb (s := r834.2) er869) rfl rfl hm835 (fun _ => rfl) (fun _ => rfl) (fun _ => rfl) (fun _ => dM_atom_96) (fun _ R => kM_239 R) (fun _ => rfl) ⟨by omega, by omega⟩ rfl rfl rfl (fun _ => rfl) (Nat.le_of_ble_eq_true rfl) ⟨rfl, rfl⟩
          · replace hF := xg_t c837 hF
            refine xy_r (xw_aload_n dM_atom_71 rfl) ?_
            rcases xg_o hF with ⟨r881, er881, hF⟩ | ⟨r881, er881, hF⟩
            · have hm882 : s.2.2.1.2.2.2.2.2.2.1 ≤ r881.2.2.2.1.2.2.2.2.2.2.1 ∧ s.2.2.1.2.2.2.2.2.2.2 ≤ r881.2.2.2.1.2.2.2.2.2.2.2 := xy_le hm835 (show r834.2.2.2.1.2.2.2.2.2.2.1 ≤ r881.2.2.2.1.2.2.2.2.2.2.1 ∧ r834.2.2.2.1.2.2.2.2.2.2.2 ≤ r881.2.2.2.1.2.2.2.2.2.2.2 from (CM_cells (w := w) (h := h) hb (s := r834.2) er881).1)
              refine xy_V1 (nl := 3) (sm := r834.2.2.2.1.2.2.2.2.2.2.1) (sn := r834.2.2.2.1.2.2.2.2.2.2.2) (tm := r881.2.2.2.1.2.2.2.2.2.2.1) (tn := r881.2.2.2.1.2.2.2.2.2.2.2) (CM_cells hb (s := r834.2) er881) rfl rfl hm835 (fun _ => rfl) (fun _ => rfl) (fun _ => rfl) (fun _ => dM_atom_72) (fun _ R => kM_362 R) (fun _ => rfl) ⟨by omega, by omega⟩ rfl rfl rfl (fun _ => rfl) (Nat.le_of_ble_eq_true rfl) ?_
              obtain rfl := Option.some.inj hF
              exact xy_end (xw_areturn dM_atom_75 rfl (Or.inl ⟨_, rfl⟩) (Nat.le_refl _) (Nat.le_refl _) ⟨rfl, rfl⟩)
            · subst hF
              exact xy_Vt (nl := 3) (sm := r834.2.2.2.1.2.2.2.2.2.2.1) (sn := r834.2.2.2.1.2.2.2.2.2.2.2) (tm := r881.2.2.2.1.2.2.2.2.2.2.1) (tn := r881.2.2.2.1.2.2.2.2.2.2.2) (CM_cells hb (s := r834.2) er881) rfl rfl hm835 (fun _ => rfl) (fun _ => rfl) (fun _ => rfl) (fun _ => dM_atom_72) (fun _ R => kM_362 R) (fun _ => rfl) ⟨by omega, by omega⟩ rfl rfl rfl (fun _ => rfl) (Nat.le_of_ble_eq_true rfl) ⟨rfl, rfl⟩
        · refine xy_r (xw_Ln (L' := [some (.ref 2000), some (.int r827), some (.ref (xn i833)), none, none, none, none]) (by first | (rw [ei833]; done) | (rw [ei833]; rfl))) ?_
          refine xy_r (xw_Sn (st' := [.ref (xn i833)]) (by first | (rw [ei833]; done) | (rw [ei833]; rfl))) ?_
          refine xy_r (xw_ifnull_r dM_atom_59) ?_
          refine xy_r (xw_aload_n dM_atom_62 rfl) ?_
          obtain rfl := Option.some.inj hF
          exact xy_end (xw_areturn dM_atom_63 rfl (Or.inl ⟨_, rfl⟩) (Nat.le_refl _) (Nat.le_refl _) ⟨rfl, rfl⟩)
      · subst hF
        exact xy_Vt (nl := 5) (sm := r824.2.2.1.2.2.2.2.2.2.1) (sn := r824.2.2.1.2.2.2.2.2.2.2) (tm := r830.2.2.2.1.2.2.2.2.2.2.1) (tn := r830.2.2.2.1.2.2.2.2.2.2.2) (CM_constant hb (s := r824) er830) rfl rfl hm825 (fun _ => rfl) (fun _ => rfl) (fun _ => rfl) (fun _ => dM_atom_54) (fun _ R => kM_359 R) (fun _ => rfl) ⟨by omega, by omega⟩ rfl rfl rfl (fun _ => rfl) (Nat.le_of_ble_eq_true rfl) ⟨rfl, rfl⟩
    · replace hF := xg_t c829 hF
      refine xy_r (xw_aload_n dM_atom_48 rfl) ?_
      rcases xg_o hF with ⟨r884, er884, hF⟩ | ⟨r884, er884, hF⟩
      · have hm885 : s.2.2.1.2.2.2.2.2.2.1 ≤ r884.2.2.2.1.2.2.2.2.2.2.1 ∧ s.2.2.1.2.2.2.2.2.2.2 ≤ r884.2.2.2.1.2.2.2.2.2.2.2 := xy_le hm825 (show r824.2.2.1.2.2.2.2.2.2.1 ≤ r884.2.2.2.1.2.2.2.2.2.2.1 ∧ r824.2.2.1.2.2.2.2.2.2.2 ≤ r884.2.2.2.1.2.2.2.2.2.2.2 from (CM_rows (w := w) (h := h) hb (s := r824) er884).1)
        refine xy_V1 (nl := 4) (sm := r824.2.2.1.2.2.2.2.2.2.1) (sn := r824.2.2.1.2.2.2.2.2.2.2) (tm := r884.2.2.2.1.2.2.2.2.2.2.1) (tn := r884.2.2.2.1.2.2.2.2.2.2.2) (CM_rows hb (s := r824) er884) rfl rfl hm825 (fun _ => rfl) (fun _ => rfl) (fun _ => rfl) (fun _ => dM_atom_49) (fun _ R => kM_356 R) (fun _ => rfl) ⟨by omega, by omega⟩ rfl rfl rfl (fun _ => rfl) (Nat.le_of_ble_eq_true rfl) ?_
        obtain rfl := Option.some.inj hF
        exact xy_end (xw_areturn dM_atom_52 rfl (Or.inl ⟨_, rfl⟩) (Nat.le_refl _) (Nat.le_refl _) ⟨rfl, rfl⟩)
      · subst hF
        exact xy_Vt (nl := 4) (sm := r824.2.2.1.2.2.2.2.2.2.1) (sn := r824.2.2.1.2.2.2.2.2.2.2) (tm := r884.2.2.2.1.2.2.2.2.2.2.1) (tn := r884.2.2.2.1.2.2.2.2.2.2.2) (CM_rows hb (s := r824) er884) rfl rfl hm825 (fun _ => rfl) (fun _ => rfl) (fun _ => rfl) (fun _ => dM_atom_49) (fun _ R => kM_356 R) (fun _ => rfl) ⟨by omega, by omega⟩ rfl rfl rfl (fun _ => rfl) (Nat.le_of_ble_eq_true rfl) ⟨rfl, rfl⟩
  · replace hF := xg_t c828 hF
    refine xy_r (xw_aload_n dM_atom_15 rfl) ?_
    refine xy_r (xw_bipush (7) dM_atom_16 (by decide)) ?_
    obtain ⟨r887, er887, hF⟩ := xg_b hF
    have hm888 : s.2.2.1.2.2.2.2.2.2.1 ≤ r887.2.2.2.1.2.2.2.2.2.2.1 ∧ s.2.2.1.2.2.2.2.2.2.2 ≤ r887.2.2.2.1.2.2.2.2.2.2.2 := xy_le hm825 (show r824.2.2.1.2.2.2.2.2.2.1 ≤ r887.2.2.2.1.2.2.2.2.2.2.1 ∧ r824.2.2.1.2.2.2.2.2.2.2 ≤ r887.2.2.2.1.2.2.2.2.2.2.2 from (CM_node (w := w) (h := h) hb (s := r824) er887).1)
    refine xy_V1 (nl := 4) (sm := r824.2.2.1.2.2.2.2.2.2.1) (sn := r824.2.2.1.2.2.2.2.2.2.2) (tm := r887.2.2.2.1.2.2.2.2.2.2.1) (tn := r887.2.2.2.1.2.2.2.2.2.2.2) (CM_node hb (s := r824) er887) rfl rfl hm825 (fun _ => rfl) (fun _ => rfl) (fun _ => rfl) (fun _ => dM_atom_18) (fun _ R => kM_253 R) (fun _ => rfl) ⟨by omega, by omega⟩ rfl rfl rfl (fun _ => rfl) (Nat.le_of_ble_eq_true rfl) ?_
    refine xy_r (xw_astore_n dM_atom_21 (Nat.le_of_ble_eq_true rfl)) ?_
    refine xy_r (xw_Ln (L' := [some (.ref 2000), some (.int r827), some (.ref (xn r887.1)), none, none, none, none]) rfl) ?_
    refine xy_r (xw_aload_n dM_atom_22 rfl) ?_
    rcases xg_o hF with ⟨r890, er890, hF⟩ | ⟨r890, er890, hF⟩
    · have hm891 : s.2.2.1.2.2.2.2.2.2.1 ≤ r890.2.2.2.1.2.2.2.2.2.2.1 ∧ s.2.2.1.2.2.2.2.2.2.2 ≤ r890.2.2.2.1.2.2.2.2.2.2.2 := xy_le hm888 (show r887.2.2.2.1.2.2.2.2.2.2.1 ≤ r890.2.2.2.1.2.2.2.2.2.2.1 ∧ r887.2.2.2.1.2.2.2.2.2.2.2 ≤ r890.2.2.2.1.2.2.2.2.2.2.2 from (CM_open (w := w) (h := h) hb (s := r887.2) er890).1)
      refine xy_V0 (nl := 1) (sm := r887.2.2.2.1.2.2.2.2.2.2.1) (sn := r887.2.2.2.1.2.2.2.2.2.2.2) (tm := r890.2.2.2.1.2.2.2.2.2.2.1) (tn := r890.2.2.2.1.2.2.2.2.2.2.2) (CM_open hb (s := r887.2) er890) rfl rfl hm888 (fun _ => rfl) (fun _ => rfl) (fun _ => rfl) (fun _ => dM_atom_23) (fun _ R => kM_286 R) (fun _ => rfl) ⟨by omega, by omega⟩ rfl rfl rfl (fun _ => rfl) (Nat.le_of_ble_eq_true rfl) ?_
      refine xy_r (xw_aload_n dM_atom_26 rfl) ?_
      refine xy_r (xw_aload_n dM_atom_27 rfl) ?_
      rcases xg_o hF with ⟨r893, er893, hF⟩ | ⟨r893, er893, hF⟩
      · have hm894 : s.2.2.1.2.2.2.2.2.2.1 ≤ r893.2.2.2.1.2.2.2.2.2.2.1 ∧ s.2.2.1.2.2.2.2.2.2.2 ≤ r893.2.2.2.1.2.2.2.2.2.2.2 := xy_le hm891 (show r890.2.2.2.1.2.2.2.2.2.2.1 ≤ r893.2.2.2.1.2.2.2.2.2.2.1 ∧ r890.2.2.2.1.2.2.2.2.2.2.2 ≤ r893.2.2.2.1.2.2.2.2.2.2.2 from ((hp.1 (h := h) hb (s := r890.2) er893)).1)
        refine xy_V1 (nl := 4) (sm := r890.2.2.2.1.2.2.2.2.2.2.1) (sn := r890.2.2.2.1.2.2.2.2.2.2.2) (tm := r893.2.2.2.1.2.2.2.2.2.2.1) (tn := r893.2.2.2.1.2.2.2.2.2.2.2) (hp.1 hb (s := r890.2) er893) rfl rfl hm891 (fun _ => rfl) (fun _ => rfl) (fun _ => rfl) (fun _ => dM_atom_28) (fun _ R => kM_249 R) (fun _ => rfl) ⟨by omega, by omega⟩ rfl rfl rfl (fun _ => rfl) (Nat.le_of_ble_eq_true rfl) ?_
        obtain ⟨g896, hF⟩ := xg_g hF
        obtain ⟨r897, er897, hF⟩ := xg_b hF
        have hm898 : s.2.2.1.2.2.2.2.2.2.1 ≤ r897.2.2.1.2.2.2.2.2.2.1 ∧ s.2.2.1.2.2.2.2.2.2.2 ≤ r897.2.2.1.2.2.2.2.2.2.2 := xy_le hm894 (show r893.2.2.2.1.2.2.2.2.2.2.1 ≤ r897.2.2.1.2.2.2.2.2.2.1 ∧ r893.2.2.2.1.2.2.2.2.2.2.2 ≤ r897.2.2.1.2.2.2.2.2.2.2 from (CN_add (w := w) (h := h) hb (s := r893.2) er897).1)
        refine xy_V0 (nl := 2) (sm := r893.2.2.2.1.2.2.2.2.2.2.1) (sn := r893.2.2.2.1.2.2.2.2.2.2.2) (tm := r897.2.2.1.2.2.2.2.2.2.1) (tn := r897.2.2.1.2.2.2.2.2.2.2) (CN_add hb (s := r893.2) er897) rfl rfl hm894 (fun _ => rfl) (fun _ => rfl) (fun _ => rfl) (fun _ => dM_atom_31) (fun _ R => kM_257 R) (fun _ => rfl) ⟨by omega, by omega⟩ rfl rfl (mV_n g896) (fun _ => rfl) (Nat.le_of_ble_eq_true rfl) ?_
        refine xy_r (xw_aload_n dM_atom_34 rfl) ?_
        refine xy_r (xw_bipush (41) dM_atom_35 (by decide)) ?_
        rcases xg_o hF with ⟨r900, er900, hF⟩ | ⟨r900, er900, hF⟩
        · have hm901 : s.2.2.1.2.2.2.2.2.2.1 ≤ r900.2.2.2.1.2.2.2.2.2.2.1 ∧ s.2.2.1.2.2.2.2.2.2.2 ≤ r900.2.2.2.1.2.2.2.2.2.2.2 := xy_le hm898 (show r897.2.2.1.2.2.2.2.2.2.1 ≤ r900.2.2.2.1.2.2.2.2.2.2.1 ∧ r897.2.2.1.2.2.2.2.2.2.2 ≤ r900.2.2.2.1.2.2.2.2.2.2.2 from (CM_close (w := w) (h := h) hb (s := r897) er900).1)
          refine xy_V0 (nl := 2) (sm := r897.2.2.1.2.2.2.2.2.2.1) (sn := r897.2.2.1.2.2.2.2.2.2.2) (tm := r900.2.2.2.1.2.2.2.2.2.2.1) (tn := r900.2.2.2.1.2.2.2.2.2.2.2) (CM_close hb (s := r897) er900) rfl rfl hm898 (fun _ => rfl) (fun _ => rfl) (fun _ => rfl) (fun _ => dM_atom_37) (fun _ R => kM_289 R) (fun _ => rfl) ⟨by omega, by omega⟩ rfl rfl rfl (fun _ => rfl) (Nat.le_of_ble_eq_true rfl) ?_
          refine xy_r (xw_aload_n dM_atom_40 rfl) ?_
          obtain rfl := Option.some.inj hF
          exact xy_end (xw_areturn dM_atom_41 rfl (Or.inl ⟨_, rfl⟩) (Nat.le_refl _) (Nat.le_refl _) ⟨rfl, rfl⟩)
        · subst hF
          exact xy_Vt (nl := 2) (sm := r897.2.2.1.2.2.2.2.2.2.1) (sn := r897.2.2.1.2.2.2.2.2.2.2) (tm := r900.2.2.2.1.2.2.2.2.2.2.1) (tn := r900.2.2.2.1.2.2.2.2.2.2.2) (CM_close hb (s := r897) er900) rfl rfl hm898 (fun _ => rfl) (fun _ => rfl) (fun _ => rfl) (fun _ => dM_atom_37) (fun _ R => kM_289 R) (fun _ => rfl) ⟨by omega, by omega⟩ rfl rfl rfl (fun _ => rfl) (Nat.le_of_ble_eq_true rfl) ⟨rfl, rfl⟩
      · subst hF
        exact xy_Vt (nl := 4) (sm := r890.2.2.2.1.2.2.2.2.2.2.1) (sn := r890.2.2.2.1.2.2.2.2.2.2.2) (tm := r893.2.2.2.1.2.2.2.2.2.2.1) (tn := r893.2.2.2.1.2.2.2.2.2.2.2) (hp.1 hb (s := r890.2) er893) rfl rfl hm891 (fun _ => rfl) (fun _ => rfl) (fun _ => rfl) (fun _ => dM_atom_28) (fun _ R => kM_249 R) (fun _ => rfl) ⟨by omega, by omega⟩ rfl rfl rfl (fun _ => rfl) (Nat.le_of_ble_eq_true rfl) ⟨rfl, rfl⟩
    · subst hF
      exact xy_Vt (nl := 1) (sm := r887.2.2.2.1.2.2.2.2.2.2.1) (sn := r887.2.2.2.1.2.2.2.2.2.2.2) (tm := r890.2.2.2.1.2.2.2.2.2.2.1) (tn := r890.2.2.2.1.2.2.2.2.2.2.2) (CM_open hb (s := r887.2) er890) rfl rfl hm888 (fun _ => rfl) (fun _ => rfl) (fun _ => rfl) (fun _ => dM_atom_23) (fun _ R => kM_286 R) (fun _ => rfl) ⟨by omega, by omega⟩ rfl rfl rfl (fun _ => rfl) (Nat.le_of_ble_eq_true rfl) ⟨rfl, rfl⟩
def FM_function_45 (p : xTP) : Nat → Int32 → Nat → xMs → Option (xo Nat xMs)
  | 0, _, _, _ => none
  | fu + 1, l1, l2, s => (FM_next 44 s).bind fun r925 => if r925.1 = true then ((FM_blanks (r925.2.1, (r925.2.2.1.1, (r925.2.2.1.2.1 + 1), r925.2.2.1.2.2), r925.2.2.2)).bind fun r941 => if l2 < r941.2.2.1.2.2.2.2.1 then (if 0 ≤ l1 ∧ l1 < nI 39 then (if (r941.2.2.1.2.2.2.2.2.1 l2).2.2.2.2.2 = (xk_greatest.getD (l1).toNatClampNeg 0) then (xo_b (FM_bad r941.2.1.2.1 r941) fun r954 => xo_b (p.1 r954.2) fun r957 => if l2 < r957.2.2.2.1.2.2.2.2.1 then ((FN_add l2 r957.1 r957.2).bind fun r961 => FM_function_45 p fu l1 l2 r961) else none) else (xo_b (p.1 r941) fun r947 => if l2 < r947.2.2.2.1.2.2.2.2.1 then ((FN_add l2 r947.1 r947.2).bind fun r951 => FM_function_45 p fu l1 l2 r951) else none)) else none) else none) else (if l2 < r925.2.2.2.1.2.2.2.2.1 then (if 0 ≤ l1 ∧ l1 < nI 39 then (if (xk_least.getD (l1).toNatClampNeg 0) ≤ (r925.2.2.2.1.2.2.2.2.2.1 l2).2.2.2.2.2 then (xo_b (FM_close 41 r925.2) fun r932 => some (.inl (l2, r932.2))) else (xo_b (FM_bad r925.2.2.1.2.1 r925.2) fun r935 => xo_b (FM_close 41 r935.2) fun r938 => some (.inl (l2, r938.2)))) else none) else none)
/-- FormulaShaperModel.function -/
def FM_function (p : xTP) (x0 : Int32) (s : xMs) : Option (xo Nat xMs) := (FM_node 14 s).bind fun r903 => if r903.1 < r903.2.2.2.1.2.2.2.2.1 then (xo_b (FM_open (r903.2.1, r903.2.2.1, (r903.2.2.2.1.1, r903.2.2.2.1.2.1, r903.2.2.2.1.2.2.1, r903.2.2.2.1.2.2.2.1, r903.2.2.2.1.2.2.2.2.1, (va_up r903.2.2.2.1.2.2.2.2.2.1 r903.1 (nA (r903.2.2.2.1.2.2.2.2.2.1 r903.1) x0)), r903.2.2.2.1.2.2.2.2.2.2), r903.2.2.2.2)) fun r907 => if x0 = 34 then (xo_b (p.2.2.2.2.2.2.2.2 r903.1 x0 r907.2) fun r911 => xo_b (FM_close 41 r911.2) fun r914 => some (.inl (r903.1, r914.2))) else (if x0 = 35 then (xo_b (p.2.2.2.2.2.2.2.2 r903.1 x0 r907.2) fun r964 => xo_b (FM_close 41 r964.2) fun r967 => some (.inl (r903.1, r967.2))) else (xo_b (p.1 r907.2) fun r918 => if r903.1 < r918.2.2.2.1.2.2.2.2.1 then ((FN_add r903.1 r918.1 r918.2).bind fun r922 => FM_function_45 p xFuel x0 r903.1 r922) else none))) else none
set_option maxRecDepth 20000 in
theorem CM_function_45 {w : xw_G} {p : xTP} {d : Nat} (hp : xKP w p d) {h : xw_H} (hb : xMb h)  : ∀ (fu : Nat) {l1 : Int32} {l2 : Nat} {s : xMs} {out : (xo Nat xMs)} {h0 : xw_H} {m0 n0 : Nat} (hm : m0 ≤ s.2.2.1.2.2.2.2.2.2.1 ∧ n0 ≤ s.2.2.1.2.2.2.2.2.2.2), FM_function_45 p fu l1 l2 s = some out → xw_Y w mM_function (d + 1 + 20) (60 * (d + 1) + 600) (xo_P (fun x => some (.ref (xn x))) (fun s => mV s h) out) h0 m0 n0 s.2.2.1.2.2.2.2.2.2.1 s.2.2.1.2.2.2.2.2.2.2 (xo_s out).2.2.1.2.2.2.2.2.2.1 (xo_s out).2.2.1.2.2.2.2.2.2.2 45 [some (.ref 2000), some (.int l1), some (.ref (xn l2))] [] (mV s h) := by
  intro fu
  induction fu with
  | zero =>
    intro l1 l2 s out h0 m0 n0 hm hF
    rw [FM_function_45] at hF
    cases hF
  | succ fu ih =>
    intro l1 l2 s out h0 m0 n0 hm hF
    rw [FM_function_45] at hF
    refine xy_r (xw_aload_n dM_function_45 rfl) ?_
    refine xy_r (xw_bipush (44) dM_function_46 (by decide)) ?_
    obtain ⟨r925, er925, hF⟩ := xg_b hF
    have hm926 : m0 ≤ r925.2.2.2.1.2.2.2.2.2.2.1 ∧ n0 ≤ r925.2.2.2.1.2.2.2.2.2.2.2 := xy_le hm (show s.2.2.1.2.2.2.2.2.2.1 ≤ r925.2.2.2.1.2.2.2.2.2.2.1 ∧ s.2.2.1.2.2.2.2.2.2.2 ≤ r925.2.2.2.1.2.2.2.2.2.2.2 from (CM_next (w := w) (h := h) hb (s := s) er925).1)
    refine xy_V1 (nl := 2) (sm := s.2.2.1.2.2.2.2.2.2.1) (sn := s.2.2.1.2.2.2.2.2.2.2) (tm := r925.2.2.2.1.2.2.2.2.2.2.1) (tn := r925.2.2.2.1.2.2.2.2.2.2.2) (CM_next hb (s := s) er925) rfl rfl hm (fun _ => rfl) (fun _ => rfl) (fun _ => rfl) (fun _ => dM_function_48) (fun _ R => kM_236 R) (fun _ => rfl) ⟨by omega, by omega⟩ rfl rfl rfl (fun _ => rfl) (Nat.le_of_ble_eq_true rfl) ?_
    refine xy_brn (xw_if_eqB 99 dM_function_51 (by decide)) (fun c928 => ?_) (fun c928 => ?_)
    · replace hF := xg_f c928 hF
      refine xy_r (xw_aload_n dM_function_99 rfl) ?_
      obtain ⟨g929, hF⟩ := xg_g hF
      refine xy_r (xw_get dM_function_100 fM_215 (mV_n g929) rfl) ?_
      refine xy_r (xw_getsK dM_function_103 tw_1287 (List.mem_of_getElem? (i := 5) rfl) rfl) ?_
      refine xy_r (xw_iload_n dM_function_106 rfl) ?_
      obtain ⟨g930, hF⟩ := xg_g hF
      refine xy_r (xg_ialoadK (f := fun j => xk_least.getD j 0) g930 (by decide) dM_function_107 xk_mLeast (by decide)) ?_
      refine xy_br (xw_icmp_ge 119 dM_function_108 (by decide)) (fun c931 => ?_) (fun c931 => ?_)
      · replace hF := xg_t c931 hF
        refine xy_r (xw_aload_n dM_function_119 rfl) ?_
        refine xy_r (xw_bipush (41) dM_function_120 (by decide)) ?_
        rcases xg_o hF with ⟨r932, er932, hF⟩ | ⟨r932, er932, hF⟩
        · have hm933 : m0 ≤ r932.2.2.2.1.2.2.2.2.2.2.1 ∧ n0 ≤ r932.2.2.2.1.2.2.2.2.2.2.2 := xy_le hm926 (show r925.2.2.2.1.2.2.2.2.2.2.1 ≤ r932.2.2.2.1.2.2.2.2.2.2.1 ∧ r925.2.2.2.1.2.2.2.2.2.2.2 ≤ r932.2.2.2.1.2.2.2.2.2.2.2 from (CM_close (w := w) (h := h) hb (s := r925.2) er932).1)
          refine xy_V0 (nl := 2) (sm := r925.2.2.2.1.2.2.2.2.2.2.1) (sn := r925.2.2.2.1.2.2.2.2.2.2.2) (tm := r932.2.2.2.1.2.2.2.2.2.2.1) (tn := r932.2.2.2.1.2.2.2.2.2.2.2) (CM_close hb (s := r925.2) er932) rfl rfl hm926 (fun _ => rfl) (fun _ => rfl) (fun _ => rfl) (fun _ => dM_function_122) (fun _ R => kM_289 R) (fun _ => rfl) ⟨by omega, by omega⟩ rfl rfl rfl (fun _ => rfl) (Nat.le_of_ble_eq_true rfl) ?_
          refine xy_r (xw_aload_n dM_function_125 rfl) ?_
          obtain rfl := Option.some.inj hF
          exact xy_end (xw_areturn dM_function_126 rfl (Or.inl ⟨_, rfl⟩) (Nat.le_refl _) (Nat.le_refl _) ⟨rfl, rfl⟩)
        · subst hF
          exact xy_Vt (nl := 2) (sm := r925.2.2.2.1.2.2.2.2.2.2.1) (sn := r925.2.2.2.1.2.2.2.2.2.2.2) (tm := r932.2.2.2.1.2.2.2.2.2.2.1) (tn := r932.2.2.2.1.2.2.2.2.2.2.2) (CM_close hb (s := r925.2) er932) rfl rfl hm926 (fun _ => rfl) (fun _ => rfl) (fun _ => rfl) (fun _ => dM_function_122) (fun _ R => kM_289 R) (fun _ => rfl) ⟨by omega, by omega⟩ rfl rfl rfl (fun _ => rfl) (Nat.le_of_ble_eq_true rfl) ⟨rfl, rfl⟩
      · replace hF := xg_f c931 hF
        refine xy_r (xw_aload_n dM_function_111 rfl) ?_
        refine xy_r (xw_aload_n dM_function_112 rfl) ?_
        refine xy_r (xw_get dM_function_113 fM_221 rfl rfl) ?_
        rcases xg_o hF with ⟨r935, er935, hF⟩ | ⟨r935, er935, hF⟩
        · have hm936 : m0 ≤ r935.2.2.2.1.2.2.2.2.2.2.1 ∧ n0 ≤ r935.2.2.2.1.2.2.2.2.2.2.2 := xy_le hm926 (show r925.2.2.2.1.2.2.2.2.2.2.1 ≤ r935.2.2.2.1.2.2.2.2.2.2.1 ∧ r925.2.2.2.1.2.2.2.2.2.2.2 ≤ r935.2.2.2.1.2.2.2.2.2.2.2 from (CM_bad (w := w) (h := h) hb (s := r925.2) er935).1)
          refine xy_V0 (nl := 2) (sm := r925.2.2.2.1.2.2.2.2.2.2.1) (sn := r925.2.2.2.1.2.2.2.2.2.2.2) (tm := r935.2.2.2.1.2.2.2.2.2.2.1) (tn := r935.2.2.2.1.2.2.2.2.2.2.2) (CM_bad hb (s := r925.2) er935) rfl rfl hm926 (fun _ => rfl) (fun _ => rfl) (fun _ => rfl) (fun _ => dM_function_116) (fun _ R => kM_239 R) (fun _ => rfl) ⟨by omega, by omega⟩ rfl rfl rfl (fun _ => rfl) (Nat.le_of_ble_eq_true rfl) ?_
          refine xy_r (xw_aload_n dM_function_119 rfl) ?_
          refine xy_r (xw_bipush (41) dM_function_120 (by decide)) ?_
          rcases xg_o hF with ⟨r938, er938, hF⟩ | ⟨r938, er938, hF⟩
          · have hm939 : m0 ≤ r938.2.2.2.1.2.2.2.2.2.2.1 ∧ n0 ≤ r938.2.2.2.1.2.2.2.2.2.2.2 := xy_le hm936 (show r935.2.2.2.1.2.2.2.2.2.2.1 ≤ r938.2.2.2.1.2.2.2.2.2.2.1 ∧ r935.2.2.2.1.2.2.2.2.2.2.2 ≤ r938.2.2.2.1.2.2.2.2.2.2.2 from (CM_close (w := w) (h := h) hb (s := r935.2) er938).1)
            refine xy_V0 (nl := 2) (sm := r935.2.2.2.1.2.2.2.2.2.2.1) (sn := r935.2.2.2.1.2.2.2.2.2.2.2) (tm := r938.2.2.2.1.2.2.2.2.2.2.1) (tn := r938.2.2.2.1.2.2.2.2.2.2.2) (CM_close hb (s := r935.2) er938) rfl rfl hm936 (fun _ => rfl) (fun _ => rfl) (fun _ => rfl) (fun _ => dM_function_122) (fun _ R => kM_289 R) (fun _ => rfl) ⟨by omega, by omega⟩ rfl rfl rfl (fun _ => rfl) (Nat.le_of_ble_eq_true rfl) ?_
            refine xy_r (xw_aload_n dM_function_125 rfl) ?_
            obtain rfl := Option.some.inj hF
            exact xy_end (xw_areturn dM_function_126 rfl (Or.inl ⟨_, rfl⟩) (Nat.le_refl _) (Nat.le_refl _) ⟨rfl, rfl⟩)
          · subst hF
            exact xy_Vt (nl := 2) (sm := r935.2.2.2.1.2.2.2.2.2.2.1) (sn := r935.2.2.2.1.2.2.2.2.2.2.2) (tm := r938.2.2.2.1.2.2.2.2.2.2.1) (tn := r938.2.2.2.1.2.2.2.2.2.2.2) (CM_close hb (s := r935.2) er938) rfl rfl hm936 (fun _ => rfl) (fun _ => rfl) (fun _ => rfl) (fun _ => dM_function_122) (fun _ R => kM_289 R) (fun _ => rfl) ⟨by omega, by omega⟩ rfl rfl rfl (fun _ => rfl) (Nat.le_of_ble_eq_true rfl) ⟨rfl, rfl⟩
        · subst hF
          exact xy_Vt (nl := 2) (sm := r925.2.2.2.1.2.2.2.2.2.2.1) (sn := r925.2.2.2.1.2.2.2.2.2.2.2) (tm := r935.2.2.2.1.2.2.2.2.2.2.1) (tn := r935.2.2.2.1.2.2.2.2.2.2.2) (CM_bad hb (s := r925.2) er935) rfl rfl hm926 (fun _ => rfl) (fun _ => rfl) (fun _ => rfl) (fun _ => dM_function_116) (fun _ R => kM_239 R) (fun _ => rfl) ⟨by omega, by omega⟩ rfl rfl rfl (fun _ => rfl) (Nat.le_of_ble_eq_true rfl) ⟨rfl, rfl⟩
    · replace hF := xg_t c928 hF
      refine xy_r (xw_aload_n dM_function_54 rfl) ?_
      refine xy_r (xw_dup_r dM_function_55) ?_
      refine xy_r (xw_get dM_function_56 fM_221 rfl rfl) ?_
      refine xy_r (xw_iconst (1) dM_function_59 (by decide)) ?_
      refine xy_r (xw_iadd dM_function_60) ?_
      refine xy_r (xg_put dM_function_61 fM_221 rfl (by decide) (Nat.le_of_ble_eq_true rfl) (fun _ => rfl) (fun _ => rfl) (mV_o (s' := (r925.2.1, (r925.2.2.1.1, (r925.2.2.1.2.1 + 1), r925.2.2.1.2.2), r925.2.2.2)) rfl)) ?_
      refine xy_r (xw_aload_n dM_function_64 rfl) ?_
      obtain ⟨r941, er941, hF⟩ := xg_b hF
      have hm942 : m0 ≤ r941.2.2.1.2.2.2.2.2.2.1 ∧ n0 ≤ r941.2.2.1.2.2.2.2.2.2.2 := xy_le hm926 (show r925.2.2.2.1.2.2.2.2.2.2.1 ≤ r941.2.2.1.2.2.2.2.2.2.1 ∧ r925.2.2.2.1.2.2.2.2.2.2.2 ≤ r941.2.2.1.2.2.2.2.2.2.2 from (CM_blanks (w := w) (h := h) hb (s := (r925.2.1, (r925.2.2.1.1, (r925.2.2.1.2.1 + 1), r925.2.2.1.2.2), r925.2.2.2)) er941).1)
      refine xy_V0 (nl := 1) (sm := r925.2.2.2.1.2.2.2.2.2.2.1) (sn := r925.2.2.2.1.2.2.2.2.2.2.2) (tm := r941.2.2.1.2.2.2.2.2.2.1) (tn := r941.2.2.1.2.2.2.2.2.2.2) (CM_blanks hb (s := (r925.2.1, (r925.2.2.1.1, (r925.2.2.1.2.1 + 1), r925.2.2.1.2.2), r925.2.2.2)) er941) rfl rfl hm926 (fun _ => rfl) (fun _ => rfl) (fun _ => rfl) (fun _ => dM_function_65) (fun _ R => kM_233 R) (fun _ => rfl) ⟨by omega, by omega⟩ rfl rfl rfl (fun _ => rfl) (Nat.le_of_ble_eq_true rfl) ?_
      refine xy_r (xw_aload_n dM_function_68 rfl) ?_
      obtain ⟨g944, hF⟩ := xg_g hF
      refine xy_r (xw_get dM_function_69 fM_215 (mV_n g944) rfl) ?_
      refine xy_r (xw_getsK dM_function_72 tw_1285 (List.mem_of_getElem? (i := 6) rfl) rfl) ?_
      refine xy_r (xw_iload_n dM_function_75 rfl) ?_
      obtain ⟨g945, hF⟩ := xg_g hF
      refine xy_r (xg_ialoadK (f := fun j => xk_greatest.getD j 0) g945 (by decide) dM_function_76 xk_mGreatest (by decide)) ?_
      refine xy_brn (xw_icmp_ne 88 dM_function_77 (by decide)) (fun c946 => ?_) (fun c946 => ?_)
      · replace hF := xg_f c946 hF
        refine xy_r (xw_aload_n dM_function_88 rfl) ?_
        refine xy_r (xw_aload_n dM_function_89 rfl) ?_
        rcases xg_o hF with ⟨r947, er947, hF⟩ | ⟨r947, er947, hF⟩
        · have hm948 : m0 ≤ r947.2.2.2.1.2.2.2.2.2.2.1 ∧ n0 ≤ r947.2.2.2.1.2.2.2.2.2.2.2 := xy_le hm942 (show r941.2.2.1.2.2.2.2.2.2.1 ≤ r947.2.2.2.1.2.2.2.2.2.2.1 ∧ r941.2.2.1.2.2.2.2.2.2.2 ≤ r947.2.2.2.1.2.2.2.2.2.2.2 from ((hp.1 (h := h) hb (s := r941) er947)).1)
          refine xy_V1 (nl := 4) (sm := r941.2.2.1.2.2.2.2.2.2.1) (sn := r941.2.2.1.2.2.2.2.2.2.2) (tm := r947.2.2.2.1.2.2.2.2.2.2.1) (tn := r947.2.2.2.1.2.2.2.2.2.2.2) (hp.1 hb (s := r941) er947) rfl rfl hm942 (fun _ => rfl) (fun _ => rfl) (fun _ => rfl) (fun _ => dM_function_90) (fun _ R => kM_249 R) (fun _ => rfl) ⟨by omega, by omega⟩ rfl rfl rfl (fun _ => rfl) (Nat.le_of_ble_eq_true rfl) ?_
          obtain ⟨g950, hF⟩ := xg_g hF
          obtain ⟨r951, er951, hF⟩ := xg_b hF
          have hm952 : m0 ≤ r951.2.2.1.2.2.2.2.2.2.1 ∧ n0 ≤ r951.2.2.1.2.2.2.2.2.2.2 := xy_le hm948 (show r947.2.2.2.1.2.2.2.2.2.2.1 ≤ r951.2.2.1.2.2.2.2.2.2.1 ∧ r947.2.2.2.1.2.2.2.2.2.2.2 ≤ r951.2.2.1.2.2.2.2.2.2.2 from (CN_add (w := w) (h := h) hb (s := r947.2) er951).1)
          refine xy_V0 (nl := 2) (sm := r947.2.2.2.1.2.2.2.2.2.2.1) (sn := r947.2.2.2.1.2.2.2.2.2.2.2) (tm := r951.2.2.1.2.2.2.2.2.2.1) (tn := r951.2.2.1.2.2.2.2.2.2.2) (CN_add hb (s := r947.2) er951) rfl rfl hm948 (fun _ => rfl) (fun _ => rfl) (fun _ => rfl) (fun _ => dM_function_93) (fun _ R => kM_257 R) (fun _ => rfl) ⟨by omega, by omega⟩ rfl rfl (mV_n g950) (fun _ => rfl) (Nat.le_of_ble_eq_true rfl) ?_
          refine xy_r (xw_goto 45 dM_function_96 (by decide)) ?_
          exact ih (s := r951) hm952 hF
        · subst hF
          exact xy_Vt (nl := 4) (sm := r941.2.2.1.2.2.2.2.2.2.1) (sn := r941.2.2.1.2.2.2.2.2.2.2) (tm := r947.2.2.2.1.2.2.2.2.2.2.1) (tn := r947.2.2.2.1.2.2.2.2.2.2.2) (hp.1 hb (s := r941) er947) rfl rfl hm942 (fun _ => rfl) (fun _ => rfl) (fun _ => rfl) (fun _ => dM_function_90) (fun _ R => kM_249 R) (fun _ => rfl) ⟨by omega, by omega⟩ rfl rfl rfl (fun _ => rfl) (Nat.le_of_ble_eq_true rfl) ⟨rfl, rfl⟩
      · replace hF := xg_t c946 hF
        refine xy_r (xw_aload_n dM_function_80 rfl) ?_
        refine xy_r (xw_aload_n dM_function_81 rfl) ?_
        refine xy_r (xw_get dM_function_82 fM_221 rfl rfl) ?_
        rcases xg_o hF with ⟨r954, er954, hF⟩ | ⟨r954, er954, hF⟩
        · have hm955 : m0 ≤ r954.2.2.2.1.2.2.2.2.2.2.1 ∧ n0 ≤ r954.2.2.2.1.2.2.2.2.2.2.2 := xy_le hm942 (show r941.2.2.1.2.2.2.2.2.2.1 ≤ r954.2.2.2.1.2.2.2.2.2.2.1 ∧ r941.2.2.1.2.2.2.2.2.2.2 ≤ r954.2.2.2.1.2.2.2.2.2.2.2 from (CM_bad (w := w) (h := h) hb (s := r941) er954).1)
          refine xy_V0 (nl := 2) (sm := r941.2.2.1.2.2.2.2.2.2.1) (sn := r941.2.2.1.2.2.2.2.2.2.2) (tm := r954.2.2.2.1.2.2.2.2.2.2.1) (tn := r954.2.2.2.1.2.2.2.2.2.2.2) (CM_bad hb (s := r941) er954) rfl rfl hm942 (fun _ => rfl) (fun _ => rfl) (fun _ => rfl) (fun _ => dM_function_85) (fun _ R => kM_239 R) (fun _ => rfl) ⟨by omega, by omega⟩ rfl rfl rfl (fun _ => rfl) (Nat.le_of_ble_eq_true rfl) ?_
          refine xy_r (xw_aload_n dM_function_88 rfl) ?_
          refine xy_r (xw_aload_n dM_function_89 rfl) ?_
          rcases xg_o hF with ⟨r957, er957, hF⟩ | ⟨r957, er957, hF⟩
          · have hm958 : m0 ≤ r957.2.2.2.1.2.2.2.2.2.2.1 ∧ n0 ≤ r957.2.2.2.1.2.2.2.2.2.2.2 := xy_le hm955 (show r954.2.2.2.1.2.2.2.2.2.2.1 ≤ r957.2.2.2.1.2.2.2.2.2.2.1 ∧ r954.2.2.2.1.2.2.2.2.2.2.2 ≤ r957.2.2.2.1.2.2.2.2.2.2.2 from ((hp.1 (h := h) hb (s := r954.2) er957)).1)
            refine xy_V1 (nl := 4) (sm := r954.2.2.2.1.2.2.2.2.2.2.1) (sn := r954.2.2.2.1.2.2.2.2.2.2.2) (tm := r957.2.2.2.1.2.2.2.2.2.2.1) (tn := r957.2.2.2.1.2.2.2.2.2.2.2) (hp.1 hb (s := r954.2) er957) rfl rfl hm955 (fun _ => rfl) (fun _ => rfl) (fun _ => rfl) (fun _ => dM_function_90) (fun _ R => kM_249 R) (fun _ => rfl) ⟨by omega, by omega⟩ rfl rfl rfl (fun _ => rfl) (Nat.le_of_ble_eq_true rfl) ?_
            obtain ⟨g960, hF⟩ := xg_g hF
            obtain ⟨r961, er961, hF⟩ := xg_b hF
            have hm962 : m0 ≤ r961.2.2.1.2.2.2.2.2.2.1 ∧ n0 ≤ r961.2.2.1.2.2.2.2.2.2.2 := xy_le hm958 (show r957.2.2.2.1.2.2.2.2.2.2.1 ≤ r961.2.2.1.2.2.2.2.2.2.1 ∧ r957.2.2.2.1.2.2.2.2.2.2.2 ≤ r961.2.2.1.2.2.2.2.2.2.2 from (CN_add (w := w) (h := h) hb (s := r957.2) er961).1)
            refine xy_V0 (nl := 2) (sm := r957.2.2.2.1.2.2.2.2.2.2.1) (sn := r957.2.2.2.1.2.2.2.2.2.2.2) (tm := r961.2.2.1.2.2.2.2.2.2.1) (tn := r961.2.2.1.2.2.2.2.2.2.2) (CN_add hb (s := r957.2) er961) rfl rfl hm958 (fun _ => rfl) (fun _ => rfl) (fun _ => rfl) (fun _ => dM_function_93) (fun _ R => kM_257 R) (fun _ => rfl) ⟨by omega, by omega⟩ rfl rfl (mV_n g960) (fun _ => rfl) (Nat.le_of_ble_eq_true rfl) ?_
            refine xy_r (xw_goto 45 dM_function_96 (by decide)) ?_
            exact ih (s := r961) hm962 hF
          · subst hF
            exact xy_Vt (nl := 4) (sm := r954.2.2.2.1.2.2.2.2.2.2.1) (sn := r954.2.2.2.1.2.2.2.2.2.2.2) (tm := r957.2.2.2.1.2.2.2.2.2.2.1) (tn := r957.2.2.2.1.2.2.2.2.2.2.2) (hp.1 hb (s := r954.2) er957) rfl rfl hm955 (fun _ => rfl) (fun _ => rfl) (fun _ => rfl) (fun _ => dM_function_90) (fun _ R => kM_249 R) (fun _ => rfl) ⟨by omega, by omega⟩ rfl rfl rfl (fun _ => rfl) (Nat.le_of_ble_eq_true rfl) ⟨rfl, rfl⟩
        · subst hF
          exact xy_Vt (nl := 2) (sm := r941.2.2.1.2.2.2.2.2.2.1) (sn := r941.2.2.1.2.2.2.2.2.2.2) (tm := r954.2.2.2.1.2.2.2.2.2.2.1) (tn := r954.2.2.2.1.2.2.2.2.2.2.2) (CM_bad hb (s := r941) er954) rfl rfl hm942 (fun _ => rfl) (fun _ => rfl) (fun _ => rfl) (fun _ => dM_function_85) (fun _ R => kM_239 R) (fun _ => rfl) ⟨by omega, by omega⟩ rfl rfl rfl (fun _ => rfl) (Nat.le_of_ble_eq_true rfl) ⟨rfl, rfl⟩
set_option maxRecDepth 20000 in
theorem CM_function {w : xw_G} {p : xTP} {d : Nat} (hp : xKP w p d) {h : xw_H} (hb : xMb h) {x0 : Int32} {s : xMs} {out : (xo Nat xMs)} (hF : FM_function p x0 s = some out) : (s.2.2.1.2.2.2.2.2.2.1 ≤ (xo_s out).2.2.1.2.2.2.2.2.2.1 ∧ s.2.2.1.2.2.2.2.2.2.2 ≤ (xo_s out).2.2.1.2.2.2.2.2.2.2) ∧ xw_C w (mM_function { frames := (d + 1 + 20), cells := (xo_s out).2.2.1.2.2.2.2.2.2.1 - s.2.2.1.2.2.2.2.2.2.1, slots := (xo_s out).2.2.1.2.2.2.2.2.2.2 - s.2.2.1.2.2.2.2.2.2.2, locals := (60 * (d + 1) + 600) }) (xo_P (fun x => some (.ref (xn x))) (fun s => mV s h) out) [.ref 2000, .int x0] (mV s h) := by
  unfold FM_function at hF
  refine xy_enter (L := [some (.ref 2000), some (.int x0), none]) (fun _ => rfl) (fun _ => rfl) (fun _ => (show plainName "FormulaShaperModel" = true by decide +kernel)) (fun _ => (Nat.le_of_ble_eq_true rfl)) (fun _ => rfl) ?_
  have hm : s.2.2.1.2.2.2.2.2.2.1 ≤ s.2.2.1.2.2.2.2.2.2.1 ∧ s.2.2.1.2.2.2.2.2.2.2 ≤ s.2.2.1.2.2.2.2.2.2.2 := ⟨Nat.le_refl _, Nat.le_refl _⟩
  refine xy_r (xw_aload_n dM_function_0 rfl) ?_
  refine xy_r (xw_bipush (14) dM_function_1 (by decide)) ?_
  obtain ⟨r903, er903, hF⟩ := xg_b hF
  have hm904 : s.2.2.1.2.2.2.2.2.2.1 ≤ r903.2.2.2.1.2.2.2.2.2.2.1 ∧ s.2.2.1.2.2.2.2.2.2.2 ≤ r903.2.2.2.1.2.2.2.2.2.2.2 := xy_le hm (show s.2.2.1.2.2.2.2.2.2.1 ≤ r903.2.2.2.1.2.2.2.2.2.2.1 ∧ s.2.2.1.2.2.2.2.2.2.2 ≤ r903.2.2.2.1.2.2.2.2.2.2.2 from (CM_node (w := w) (h := h) hb (s := s) er903).1)
  refine xy_V1 (nl := 4) (sm := s.2.2.1.2.2.2.2.2.2.1) (sn := s.2.2.1.2.2.2.2.2.2.2) (tm := r903.2.2.2.1.2.2.2.2.2.2.1) (tn := r903.2.2.2.1.2.2.2.2.2.2.2) (CM_node hb (s := s) er903) rfl rfl hm (fun _ => rfl) (fun _ => rfl) (fun _ => rfl) (fun _ => dM_function_3) (fun _ R => kM_253 R) (fun _ => rfl) ⟨by omega, by omega⟩ rfl rfl rfl (fun _ => rfl) (Nat.le_of_ble_eq_true rfl) ?_
  refine xy_r (xw_astore_n dM_function_6 (Nat.le_of_ble_eq_true rfl)) ?_
  refine xy_r (xw_Ln (L' := [some (.ref 2000), some (.int x0), some (.ref (xn r903.1))]) rfl) ?_
  refine xy_r (xw_aload_n dM_function_7 rfl) ?_
  refine xy_r (xw_iload_n dM_function_8 rfl) ?_
  obtain ⟨g906, hF⟩ := xg_g hF
  refine xy_r (xg_put dM_function_9 fM_195 (mV_n g906) (xn_le _) (Nat.le_of_ble_eq_true rfl) (fun _ => rfl) (fun _ => rfl) (mV_e (s' := (r903.2.1, r903.2.2.1, (r903.2.2.2.1.1, r903.2.2.2.1.2.1, r903.2.2.2.1.2.2.1, r903.2.2.2.1.2.2.2.1, r903.2.2.2.1.2.2.2.2.1, (va_up r903.2.2.2.1.2.2.2.2.2.1 r903.1 (nA (r903.2.2.2.1.2.2.2.2.2.1 r903.1) x0)), r903.2.2.2.1.2.2.2.2.2.2), r903.2.2.2.2)) (mV_pn (q := (nA (r903.2.2.2.1.2.2.2.2.2.1 r903.1) x0)) g906) rfl)) ?_
  refine xy_r (xw_aload_n dM_function_12 rfl) ?_
  rcases xg_o hF with ⟨r907, er907, hF⟩ | ⟨r907, er907, hF⟩
  · have hm908 : s.2.2.1.2.2.2.2.2.2.1 ≤ r907.2.2.2.1.2.2.2.2.2.2.1 ∧ s.2.2.1.2.2.2.2.2.2.2 ≤ r907.2.2.2.1.2.2.2.2.2.2.2 := xy_le hm904 (show r903.2.2.2.1.2.2.2.2.2.2.1 ≤ r907.2.2.2.1.2.2.2.2.2.2.1 ∧ r903.2.2.2.1.2.2.2.2.2.2.2 ≤ r907.2.2.2.1.2.2.2.2.2.2.2 from (CM_open (w := w) (h := h) hb (s := (r903.2.1, r903.2.2.1, (r903.2.2.2.1.1, r903.2.2.2.1.2.1, r903.2.2.2.1.2.2.1, r903.2.2.2.1.2.2.2.1, r903.2.2.2.1.2.2.2.2.1, (va_up r903.2.2.2.1.2.2.2.2.2.1 r903.1 (nA (r903.2.2.2.1.2.2.2.2.2.1 r903.1) x0)), r903.2.2.2.1.2.2.2.2.2.2), r903.2.2.2.2)) er907).1)
    refine xy_V0 (nl := 1) (sm := r903.2.2.2.1.2.2.2.2.2.2.1) (sn := r903.2.2.2.1.2.2.2.2.2.2.2) (tm := r907.2.2.2.1.2.2.2.2.2.2.1) (tn := r907.2.2.2.1.2.2.2.2.2.2.2) (CM_open hb (s := (r903.2.1, r903.2.2.1, (r903.2.2.2.1.1, r903.2.2.2.1.2.1, r903.2.2.2.1.2.2.1, r903.2.2.2.1.2.2.2.1, r903.2.2.2.1.2.2.2.2.1, (va_up r903.2.2.2.1.2.2.2.2.2.1 r903.1 (nA (r903.2.2.2.1.2.2.2.2.2.1 r903.1) x0)), r903.2.2.2.1.2.2.2.2.2.2), r903.2.2.2.2)) er907) rfl rfl hm904 (fun _ => rfl) (fun _ => rfl) (fun _ => rfl) (fun _ => dM_function_13) (fun _ R => kM_286 R) (fun _ => rfl) ⟨by omega, by omega⟩ rfl rfl rfl (fun _ => rfl) (Nat.le_of_ble_eq_true rfl) ?_
    refine xy_r (xw_iload_n dM_function_16 rfl) ?_
    refine xy_r (xw_bipush (34) dM_function_17 (by decide)) ?_
    refine xy_br (xw_icmp_eq 28 dM_function_19 (by decide)) (fun c910 => ?_) (fun c910 => ?_)
    · replace hF := xg_t c910 hF
      refine xy_r (xw_aload_n dM_function_28 rfl) ?_
      refine xy_r (xw_aload_n dM_function_29 rfl) ?_
      refine xy_r (xw_iload_n dM_function_30 rfl) ?_
      rcases xg_o hF with ⟨r911, er911, hF⟩ | ⟨r911, er911, hF⟩
      · have hm912 : s.2.2.1.2.2.2.2.2.2.1 ≤ r911.2.2.2.1.2.2.2.2.2.2.1 ∧ s.2.2.1.2.2.2.2.2.2.2 ≤ r911.2.2.2.1.2.2.2.2.2.2.2 := xy_le hm908 (show r907.2.2.2.1.2.2.2.2.2.2.1 ≤ r911.2.2.2.1.2.2.2.2.2.2.1 ∧ r907.2.2.2.1.2.2.2.2.2.2.2 ≤ r911.2.2.2.1.2.2.2.2.2.2.2 from ((hp.2.2.2.2.2.2.2.2 (h := h) hb (s := r907.2) er911)).1)
        refine xy_V0 (nl := 9) (sm := r907.2.2.2.1.2.2.2.2.2.2.1) (sn := r907.2.2.2.1.2.2.2.2.2.2.2) (tm := r911.2.2.2.1.2.2.2.2.2.2.1) (tn := r911.2.2.2.1.2.2.2.2.2.2.2) (hp.2.2.2.2.2.2.2.2 hb (s := r907.2) er911) rfl rfl hm908 (fun _ => rfl) (fun _ => rfl) (fun _ => rfl) (fun _ => dM_function_31) (fun _ R => kM_407 R) (fun _ => rfl) ⟨by omega, by omega⟩ rfl rfl rfl (fun _ => rfl) (Nat.le_of_ble_eq_true rfl) ?_
        refine xy_r (xw_goto 119 dM_function_34 (by decide)) ?_
        refine xy_r (xw_aload_n dM_function_119 rfl) ?_
        refine xy_r (xw_bipush (41) dM_function_120 (by decide)) ?_
        rcases xg_o hF with ⟨r914, er914, hF⟩ | ⟨r914, er914, hF⟩
        · have hm915 : s.2.2.1.2.2.2.2.2.2.1 ≤ r914.2.2.2.1.2.2.2.2.2.2.1 ∧ s.2.2.1.2.2.2.2.2.2.2 ≤ r914.2.2.2.1.2.2.2.2.2.2.2 := xy_le hm912 (show r911.2.2.2.1.2.2.2.2.2.2.1 ≤ r914.2.2.2.1.2.2.2.2.2.2.1 ∧ r911.2.2.2.1.2.2.2.2.2.2.2 ≤ r914.2.2.2.1.2.2.2.2.2.2.2 from (CM_close (w := w) (h := h) hb (s := r911.2) er914).1)
          refine xy_V0 (nl := 2) (sm := r911.2.2.2.1.2.2.2.2.2.2.1) (sn := r911.2.2.2.1.2.2.2.2.2.2.2) (tm := r914.2.2.2.1.2.2.2.2.2.2.1) (tn := r914.2.2.2.1.2.2.2.2.2.2.2) (CM_close hb (s := r911.2) er914) rfl rfl hm912 (fun _ => rfl) (fun _ => rfl) (fun _ => rfl) (fun _ => dM_function_122) (fun _ R => kM_289 R) (fun _ => rfl) ⟨by omega, by omega⟩ rfl rfl rfl (fun _ => rfl) (Nat.le_of_ble_eq_true rfl) ?_
          refine xy_r (xw_aload_n dM_function_125 rfl) ?_
          obtain rfl := Option.some.inj hF
          exact xy_end (xw_areturn dM_function_126 rfl (Or.inl ⟨_, rfl⟩) (Nat.le_refl _) (Nat.le_refl _) ⟨rfl, rfl⟩)
        · subst hF
          exact xy_Vt (nl := 2) (sm := r911.2.2.2.1.2.2.2.2.2.2.1) (sn := r911.2.2.2.1.2.2.2.2.2.2.2) (tm := r914.2.2.2.1.2.2.2.2.2.2.1) (tn := r914.2.2.2.1.2.2.2.2.2.2.2) (CM_close hb (s := r911.2) er914) rfl rfl hm912 (fun _ => rfl) (fun _ => rfl) (fun _ => rfl) (fun _ => dM_function_122) (fun _ R => kM_289 R) (fun _ => rfl) ⟨by omega, by omega⟩ rfl rfl rfl (fun _ => rfl) (Nat.le_of_ble_eq_true rfl) ⟨rfl, rfl⟩
      · subst hF
        exact xy_Vt (nl := 9) (sm := r907.2.2.2.1.2.2.2.2.2.2.1) (sn := r907.2.2.2.1.2.2.2.2.2.2.2) (tm := r911.2.2.2.1.2.2.2.2.2.2.1) (tn := r911.2.2.2.1.2.2.2.2.2.2.2) (hp.2.2.2.2.2.2.2.2 hb (s := r907.2) er911) rfl rfl hm908 (fun _ => rfl) (fun _ => rfl) (fun _ => rfl) (fun _ => dM_function_31) (fun _ R => kM_407 R) (fun _ => rfl) ⟨by omega, by omega⟩ rfl rfl rfl (fun _ => rfl) (Nat.le_of_ble_eq_true rfl) ⟨rfl, rfl⟩
    · replace hF := xg_f c910 hF
      refine xy_r (xw_iload_n dM_function_22 rfl) ?_
      refine xy_r (xw_bipush (35) dM_function_23 (by decide)) ?_
      refine xy_brn (xw_icmp_ne 37 dM_function_25 (by decide)) (fun c917 => ?_) (fun c917 => ?_)
      · replace hF := xg_f c917 hF
        refine xy_r (xw_aload_n dM_function_37 rfl) ?_
        refine xy_r (xw_aload_n dM_function_38 rfl) ?_
        rcases xg_o hF with ⟨r918, er918, hF⟩ | ⟨r918, er918, hF⟩
        · have hm919 : s.2.2.1.2.2.2.2.2.2.1 ≤ r918.2.2.2.1.2.2.2.2.2.2.1 ∧ s.2.2.1.2.2.2.2.2.2.2 ≤ r918.2.2.2.1.2.2.2.2.2.2.2 := xy_le hm908 (show r907.2.2.2.1.2.2.2.2.2.2.1 ≤ r918.2.2.2.1.2.2.2.2.2.2.1 ∧ r907.2.2.2.1.2.2.2.2.2.2.2 ≤ r918.2.2.2.1.2.2.2.2.2.2.2 from ((hp.1 (h := h) hb (s := r907.2) er918)).1)
          refine xy_V1 (nl := 4) (sm := r907.2.2.2.1.2.2.2.2.2.2.1) (sn := r907.2.2.2.1.2.2.2.2.2.2.2) (tm := r918.2.2.2.1.2.2.2.2.2.2.1) (tn := r918.2.2.2.1.2.2.2.2.2.2.2) (hp.1 hb (s := r907.2) er918) rfl rfl hm908 (fun _ => rfl) (fun _ => rfl) (fun _ => rfl) (fun _ => dM_function_39) (fun _ R => kM_249 R) (fun _ => rfl) ⟨by omega, by omega⟩ rfl rfl rfl (fun _ => rfl) (Nat.le_of_ble_eq_true rfl) ?_
          obtain ⟨g921, hF⟩ := xg_g hF
          obtain ⟨r922, er922, hF⟩ := xg_b hF
          have hm923 : s.2.2.1.2.2.2.2.2.2.1 ≤ r922.2.2.1.2.2.2.2.2.2.1 ∧ s.2.2.1.2.2.2.2.2.2.2 ≤ r922.2.2.1.2.2.2.2.2.2.2 := xy_le hm919 (show r918.2.2.2.1.2.2.2.2.2.2.1 ≤ r922.2.2.1.2.2.2.2.2.2.1 ∧ r918.2.2.2.1.2.2.2.2.2.2.2 ≤ r922.2.2.1.2.2.2.2.2.2.2 from (CN_add (w := w) (h := h) hb (s := r918.2) er922).1)
          refine xy_V0 (nl := 2) (sm := r918.2.2.2.1.2.2.2.2.2.2.1) (sn := r918.2.2.2.1.2.2.2.2.2.2.2) (tm := r922.2.2.1.2.2.2.2.2.2.1) (tn := r922.2.2.1.2.2.2.2.2.2.2) (CN_add hb (s := r918.2) er922) rfl rfl hm919 (fun _ => rfl) (fun _ => rfl) (fun _ => rfl) (fun _ => dM_function_42) (fun _ R => kM_257 R) (fun _ => rfl) ⟨by omega, by omega⟩ rfl rfl (mV_n g921) (fun _ => rfl) (Nat.le_of_ble_eq_true rfl) ?_
          exact CM_function_45 (hp := hp) hb xFuel (s := r922) hm923 hF
        · subst hF
          exact xy_Vt (nl := 4) (sm := r907.2.2.2.1.2.2.2.2.2.2.1) (sn := r907.2.2.2.1.2.2.2.2.2.2.2) (tm := r918.2.2.2.1.2.2.2.2.2.2.1) (tn := r918.2.2.2.1.2.2.2.2.2.2.2) (hp.1 hb (s := r907.2) er918) rfl rfl hm908 (fun _ => rfl) (fun _ => rfl) (fun _ => rfl) (fun _ => dM_function_39) (fun _ R => kM_249 R) (fun _ => rfl) ⟨by omega, by omega⟩ rfl rfl rfl (fun _ => rfl) (Nat.le_of_ble_eq_true rfl) ⟨rfl, rfl⟩
      · replace hF := xg_t c917 hF
        refine xy_r (xw_aload_n dM_function_28 rfl) ?_
        refine xy_r (xw_aload_n dM_function_29 rfl) ?_
        refine xy_r (xw_iload_n dM_function_30 rfl) ?_
        rcases xg_o hF with ⟨r964, er964, hF⟩ | ⟨r964, er964, hF⟩
        · have hm965 : s.2.2.1.2.2.2.2.2.2.1 ≤ r964.2.2.2.1.2.2.2.2.2.2.1 ∧ s.2.2.1.2.2.2.2.2.2.2 ≤ r964.2.2.2.1.2.2.2.2.2.2.2 := xy_le hm908 (show r907.2.2.2.1.2.2.2.2.2.2.1 ≤ r964.2.2.2.1.2.2.2.2.2.2.1 ∧ r907.2.2.2.1.2.2.2.2.2.2.2 ≤ r964.2.2.2.1.2.2.2.2.2.2.2 from ((hp.2.2.2.2.2.2.2.2 (h := h) hb (s := r907.2) er964)).1)
          refine xy_V0 (nl := 9) (sm := r907.2.2.2.1.2.2.2.2.2.2.1) (sn := r907.2.2.2.1.2.2.2.2.2.2.2) (tm := r964.2.2.2.1.2.2.2.2.2.2.1) (tn := r964.2.2.2.1.2.2.2.2.2.2.2) (hp.2.2.2.2.2.2.2.2 hb (s := r907.2) er964) rfl rfl hm908 (fun _ => rfl) (fun _ => rfl) (fun _ => rfl) (fun _ => dM_function_31) (fun _ R => kM_407 R) (fun _ => rfl) ⟨by omega, by omega⟩ rfl rfl rfl (fun _ => rfl) (Nat.le_of_ble_eq_true rfl) ?_
          refine xy_r (xw_goto 119 dM_function_34 (by decide)) ?_
          refine xy_r (xw_aload_n dM_function_119 rfl) ?_
          refine xy_r (xw_bipush (41) dM_function_120 (by decide)) ?_
          rcases xg_o hF with ⟨r967, er967, hF⟩ | ⟨r967, er967, hF⟩
          · have hm968 : s.2.2.1.2.2.2.2.2.2.1 ≤ r967.2.2.2.1.2.2.2.2.2.2.1 ∧ s.2.2.1.2.2.2.2.2.2.2 ≤ r967.2.2.2.1.2.2.2.2.2.2.2 := xy_le hm965 (show r964.2.2.2.1.2.2.2.2.2.2.1 ≤ r967.2.2.2.1.2.2.2.2.2.2.1 ∧ r964.2.2.2.1.2.2.2.2.2.2.2 ≤ r967.2.2.2.1.2.2.2.2.2.2.2 from (CM_close (w := w) (h := h) hb (s := r964.2) er967).1)
            refine xy_V0 (nl := 2) (sm := r964.2.2.2.1.2.2.2.2.2.2.1) (sn := r964.2.2.2.1.2.2.2.2.2.2.2) (tm := r967.2.2.2.1.2.2.2.2.2.2.1) (tn := r967.2.2.2.1.2.2.2.2.2.2.2) (CM_close hb (s := r964.2) er967) rfl rfl hm965 (fun _ => rfl) (fun _ => rfl) (fun _ => rfl) (fun _ => dM_function_122) (fun _ R => kM_289 R) (fun _ => rfl) ⟨by omega, by omega⟩ rfl rfl rfl (fun _ => rfl) (Nat.le_of_ble_eq_true rfl) ?_
            refine xy_r (xw_aload_n dM_function_125 rfl) ?_
            obtain rfl := Option.some.inj hF
            exact xy_end (xw_areturn dM_function_126 rfl (Or.inl ⟨_, rfl⟩) (Nat.le_refl _) (Nat.le_refl _) ⟨rfl, rfl⟩)
          · subst hF
            exact xy_Vt (nl := 2) (sm := r964.2.2.2.1.2.2.2.2.2.2.1) (sn := r964.2.2.2.1.2.2.2.2.2.2.2) (tm := r967.2.2.2.1.2.2.2.2.2.2.1) (tn := r967.2.2.2.1.2.2.2.2.2.2.2) (CM_close hb (s := r964.2) er967) rfl rfl hm965 (fun _ => rfl) (fun _ => rfl) (fun _ => rfl) (fun _ => dM_function_122) (fun _ R => kM_289 R) (fun _ => rfl) ⟨by omega, by omega⟩ rfl rfl rfl (fun _ => rfl) (Nat.le_of_ble_eq_true rfl) ⟨rfl, rfl⟩
        · subst hF
          exact xy_Vt (nl := 9) (sm := r907.2.2.2.1.2.2.2.2.2.2.1) (sn := r907.2.2.2.1.2.2.2.2.2.2.2) (tm := r964.2.2.2.1.2.2.2.2.2.2.1) (tn := r964.2.2.2.1.2.2.2.2.2.2.2) (hp.2.2.2.2.2.2.2.2 hb (s := r907.2) er964) rfl rfl hm908 (fun _ => rfl) (fun _ => rfl) (fun _ => rfl) (fun _ => dM_function_31) (fun _ R => kM_407 R) (fun _ => rfl) ⟨by omega, by omega⟩ rfl rfl rfl (fun _ => rfl) (Nat.le_of_ble_eq_true rfl) ⟨rfl, rfl⟩
  · subst hF
    exact xy_Vt (nl := 1) (sm := r903.2.2.2.1.2.2.2.2.2.2.1) (sn := r903.2.2.2.1.2.2.2.2.2.2.2) (tm := r907.2.2.2.1.2.2.2.2.2.2.1) (tn := r907.2.2.2.1.2.2.2.2.2.2.2) (CM_open hb (s := (r903.2.1, r903.2.2.1, (r903.2.2.2.1.1, r903.2.2.2.1.2.1, r903.2.2.2.1.2.2.1, r903.2.2.2.1.2.2.2.1, r903.2.2.2.1.2.2.2.2.1, (va_up r903.2.2.2.1.2.2.2.2.2.1 r903.1 (nA (r903.2.2.2.1.2.2.2.2.2.1 r903.1) x0)), r903.2.2.2.1.2.2.2.2.2.2), r903.2.2.2.2)) er907) rfl rfl hm904 (fun _ => rfl) (fun _ => rfl) (fun _ => rfl) (fun _ => dM_function_13) (fun _ R => kM_286 R) (fun _ => rfl) ⟨by omega, by omega⟩ rfl rfl rfl (fun _ => rfl) (Nat.le_of_ble_eq_true rfl) ⟨rfl, rfl⟩
def FM_bound_2 (p : xTP) : Nat → Nat → Int32 → Int32 → xMs → Option (xo Unit xMs)
  | 0, _, _, _, _ => none
  | fu + 1, l1, l2, l3, s => (FM_blanks s).bind fun r970 => (FM_wordHere r970).bind fun r973 => if (lg_cmp r973.1 0) = 0 then (if l2 = 34 then (if l3 = 0 then (xo_b (FM_bad r973.2.2.1.2.1 r973.2) fun r1015 => xo_b (p.1 (r1015.2.1, (r1015.2.2.1.1, r970.2.1.2.1, r1015.2.2.1.2.2), r1015.2.2.2)) fun r1019 => if l1 < r1019.2.2.2.1.2.2.2.2.1 then ((FN_add l1 r1019.1 r1019.2).bind fun r1023 => (FM_next 44 r1023).bind fun r1026 => if r1026.1 = true then ((FM_blanks (r1026.2.1, (r1026.2.2.1.1, (r1026.2.2.1.2.1 + 1), r1026.2.2.1.2.2), r1026.2.2.2)).bind fun r1030 => xo_b (FM_bad r1030.2.1.2.1 r1030) fun r1033 => some (.inl ((), r1033.2))) else (some (.inl ((), r1026.2)))) else none) else (xo_b (p.1 (r973.2.1, (r973.2.2.1.1, r970.2.1.2.1, r973.2.2.1.2.2), r973.2.2.2)) fun r998 => if l1 < r998.2.2.2.1.2.2.2.2.1 then ((FN_add l1 r998.1 r998.2).bind fun r1002 => (FM_next 44 r1002).bind fun r1005 => if r1005.1 = true then ((FM_blanks (r1005.2.1, (r1005.2.2.1.1, (r1005.2.2.1.2.1 + 1), r1005.2.2.1.2.2), r1005.2.2.2)).bind fun r1009 => xo_b (FM_bad r1009.2.1.2.1 r1009) fun r1012 => some (.inl ((), r1012.2))) else (some (.inl ((), r1005.2)))) else none)) else (xo_b (p.1 (r973.2.1, (r973.2.2.1.1, r970.2.1.2.1, r973.2.2.1.2.2), r973.2.2.2)) fun r979 => if l1 < r979.2.2.2.1.2.2.2.2.1 then ((FN_add l1 r979.1 r979.2).bind fun r983 => (FM_next 44 r983).bind fun r986 => if r986.1 = true then ((FM_blanks (r986.2.1, (r986.2.2.1.1, (r986.2.2.1.2.1 + 1), r986.2.2.1.2.2), r986.2.2.2)).bind fun r990 => xo_b (FM_bad r990.2.1.2.1 r990) fun r993 => some (.inl ((), r993.2))) else (some (.inl ((), r986.2)))) else none)) else (if 5 ≤ l3 then (if l2 = 34 then (if l3 = 0 then (xo_b (FM_bad r973.2.2.1.2.1 r973.2) fun r1075 => xo_b (p.1 (r1075.2.1, (r1075.2.2.1.1, r970.2.1.2.1, r1075.2.2.1.2.2), r1075.2.2.2)) fun r1079 => if l1 < r1079.2.2.2.1.2.2.2.2.1 then ((FN_add l1 r1079.1 r1079.2).bind fun r1083 => (FM_next 44 r1083).bind fun r1086 => if r1086.1 = true then ((FM_blanks (r1086.2.1, (r1086.2.2.1.1, (r1086.2.2.1.2.1 + 1), r1086.2.2.1.2.2), r1086.2.2.2)).bind fun r1090 => xo_b (FM_bad r1090.2.1.2.1 r1090) fun r1093 => some (.inl ((), r1093.2))) else (some (.inl ((), r1086.2)))) else none) else (xo_b (p.1 (r973.2.1, (r973.2.2.1.1, r970.2.1.2.1, r973.2.2.1.2.2), r973.2.2.2)) fun r1058 => if l1 < r1058.2.2.2.1.2.2.2.2.1 then ((FN_add l1 r1058.1 r1058.2).bind fun r1062 => (FM_next 44 r1062).bind fun r1065 => if r1065.1 = true then ((FM_blanks (r1065.2.1, (r1065.2.2.1.1, (r1065.2.2.1.2.1 + 1), r1065.2.2.1.2.2), r1065.2.2.2)).bind fun r1069 => xo_b (FM_bad r1069.2.1.2.1 r1069) fun r1072 => some (.inl ((), r1072.2))) else (some (.inl ((), r1065.2)))) else none)) else (xo_b (p.1 (r973.2.1, (r973.2.2.1.1, r970.2.1.2.1, r973.2.2.1.2.2), r973.2.2.2)) fun r1039 => if l1 < r1039.2.2.2.1.2.2.2.2.1 then ((FN_add l1 r1039.1 r1039.2).bind fun r1043 => (FM_next 44 r1043).bind fun r1046 => if r1046.1 = true then ((FM_blanks (r1046.2.1, (r1046.2.2.1.1, (r1046.2.2.1.2.1 + 1), r1046.2.2.1.2.2), r1046.2.2.2)).bind fun r1050 => xo_b (FM_bad r1050.2.1.2.1 r1050) fun r1053 => some (.inl ((), r1053.2))) else (some (.inl ((), r1046.2)))) else none)) else ((FM_wordLength r973.2).bind fun r1096 => (FM_next 44 (r973.2.1, (r973.2.2.1.1, (r973.2.2.1.2.1 + r1096), r973.2.2.1.2.2), r973.2.2.2)).bind fun r1097 => if r1097.1 = true then (if r1097.1 = true then ((FM_node 6 r1097.2).bind fun r1102 => if r1102.1 < r1102.2.2.2.1.2.2.2.2.1 then (if l1 < r1102.2.2.2.1.2.2.2.2.1 then ((FN_add l1 r1102.1 (r1102.2.1, r1102.2.2.1, (r1102.2.2.2.1.1, r1102.2.2.2.1.2.1, r1102.2.2.2.1.2.2.1, r1102.2.2.2.1.2.2.2.1, r1102.2.2.2.1.2.2.2.2.1, (va_up r1102.2.2.2.1.2.2.2.2.2.1 r1102.1 (nNumber (r1102.2.2.2.1.2.2.2.2.2.1 r1102.1) r973.1)), r1102.2.2.2.1.2.2.2.2.2.2), r1102.2.2.2.2)).bind fun r1107 => if l2 = 35 then (FM_bound_2 p fu l1 l2 (l3 + 1) (r1107.1, (r1107.2.1.1, (r1107.2.1.2.1 + 1), r1107.2.1.2.2), r1107.2.2)) else (xo_b (p.1 (r1107.1, (r1107.2.1.1, (r1107.2.1.2.1 + 1), r1107.2.1.2.2), r1107.2.2)) fun r1111 => if l1 < r1111.2.2.2.1.2.2.2.2.1 then ((FN_add l1 r1111.1 r1111.2).bind fun r1115 => xo_b (FM_expect 44 r1115) fun r1118 => FM_bound_2 p fu l1 l2 (l3 + 1) r1118.2) else none)) else none) else none) else (xo_b (p.1 (r1097.2.1, (r1097.2.2.1.1, r970.2.1.2.1, r1097.2.2.1.2.2), r1097.2.2.2)) fun r1121 => if l1 < r1121.2.2.2.1.2.2.2.2.1 then ((FN_add l1 r1121.1 r1121.2).bind fun r1125 => (FM_next 44 r1125).bind fun r1128 => if r1128.1 = true then ((FM_blanks (r1128.2.1, (r1128.2.2.1.1, (r1128.2.2.1.2.1 + 1), r1128.2.2.1.2.2), r1128.2.2.2)).bind fun r1132 => xo_b (FM_bad r1132.2.1.2.1 r1132) fun r1135 => some (.inl ((), r1135.2))) else (some (.inl ((), r1128.2)))) else none)) else (if l2 = 34 then (if l3 = 0 then (xo_b (FM_bad r1097.2.2.1.2.1 r1097.2) fun r1214 => if r1097.1 = true then ((FM_node 6 r1214.2).bind fun r1218 => if r1218.1 < r1218.2.2.2.1.2.2.2.2.1 then (if l1 < r1218.2.2.2.1.2.2.2.2.1 then ((FN_add l1 r1218.1 (r1218.2.1, r1218.2.2.1, (r1218.2.2.2.1.1, r1218.2.2.2.1.2.1, r1218.2.2.2.1.2.2.1, r1218.2.2.2.1.2.2.2.1, r1218.2.2.2.1.2.2.2.2.1, (va_up r1218.2.2.2.1.2.2.2.2.2.1 r1218.1 (nNumber (r1218.2.2.2.1.2.2.2.2.2.1 r1218.1) r973.1)), r1218.2.2.2.1.2.2.2.2.2.2), r1218.2.2.2.2)).bind fun r1223 => if l2 = 35 then (FM_bound_2 p fu l1 l2 (l3 + 1) (r1223.1, (r1223.2.1.1, (r1223.2.1.2.1 + 1), r1223.2.1.2.2), r1223.2.2)) else (xo_b (p.1 (r1223.1, (r1223.2.1.1, (r1223.2.1.2.1 + 1), r1223.2.1.2.2), r1223.2.2)) fun r1227 => if l1 < r1227.2.2.2.1.2.2.2.2.1 then ((FN_add l1 r1227.1 r1227.2).bind fun r1231 => xo_b (FM_expect 44 r1231) fun r1234 => FM_bound_2 p fu l1 l2 (l3 + 1) r1234.2) else none)) else none) else none) else (xo_b (p.1 (r1214.2.1, (r1214.2.2.1.1, r970.2.1.2.1, r1214.2.2.1.2.2), r1214.2.2.2)) fun r1237 => if l1 < r1237.2.2.2.1.2.2.2.2.1 then ((FN_add l1 r1237.1 r1237.2).bind fun r1241 => (FM_next 44 r1241).bind fun r1244 => if r1244.1 = true then ((FM_blanks (r1244.2.1, (r1244.2.2.1.1, (r1244.2.2.1.2.1 + 1), r1244.2.2.1.2.2), r1244.2.2.2)).bind fun r1248 => xo_b (FM_bad r1248.2.1.2.1 r1248) fun r1251 => some (.inl ((), r1251.2))) else (some (.inl ((), r1244.2)))) else none)) else (if r1097.1 = true then ((FM_node 6 r1097.2).bind fun r1178 => if r1178.1 < r1178.2.2.2.1.2.2.2.2.1 then (if l1 < r1178.2.2.2.1.2.2.2.2.1 then ((FN_add l1 r1178.1 (r1178.2.1, r1178.2.2.1, (r1178.2.2.2.1.1, r1178.2.2.2.1.2.1, r1178.2.2.2.1.2.2.1, r1178.2.2.2.1.2.2.2.1, r1178.2.2.2.1.2.2.2.2.1, (va_up r1178.2.2.2.1.2.2.2.2.2.1 r1178.1 (nNumber (r1178.2.2.2.1.2.2.2.2.2.1 r1178.1) r973.1)), r1178.2.2.2.1.2.2.2.2.2.2), r1178.2.2.2.2)).bind fun r1183 => if l2 = 35 then (FM_bound_2 p fu l1 l2 (l3 + 1) (r1183.1, (r1183.2.1.1, (r1183.2.1.2.1 + 1), r1183.2.1.2.2), r1183.2.2)) else (xo_b (p.1 (r1183.1, (r1183.2.1.1, (r1183.2.1.2.1 + 1), r1183.2.1.2.2), r1183.2.2)) fun r1187 => if l1 < r1187.2.2.2.1.2.2.2.2.1 then ((FN_add l1 r1187.1 r1187.2).bind fun r1191 => xo_b (FM_expect 44 r1191) fun r1194 => FM_bound_2 p fu l1 l2 (l3 + 1) r1194.2) else none)) else none) else none) else (xo_b (p.1 (r1097.2.1, (r1097.2.2.1.1, r970.2.1.2.1, r1097.2.2.1.2.2), r1097.2.2.2)) fun r1197 => if l1 < r1197.2.2.2.1.2.2.2.2.1 then ((FN_add l1 r1197.1 r1197.2).bind fun r1201 => (FM_next 44 r1201).bind fun r1204 => if r1204.1 = true then ((FM_blanks (r1204.2.1, (r1204.2.2.1.1, (r1204.2.2.1.2.1 + 1), r1204.2.2.1.2.2), r1204.2.2.2)).bind fun r1208 => xo_b (FM_bad r1208.2.1.2.1 r1208) fun r1211 => some (.inl ((), r1211.2))) else (some (.inl ((), r1204.2)))) else none))) else (if r1097.1 = true then ((FM_node 6 r1097.2).bind fun r1140 => if r1140.1 < r1140.2.2.2.1.2.2.2.2.1 then (if l1 < r1140.2.2.2.1.2.2.2.2.1 then ((FN_add l1 r1140.1 (r1140.2.1, r1140.2.2.1, (r1140.2.2.2.1.1, r1140.2.2.2.1.2.1, r1140.2.2.2.1.2.2.1, r1140.2.2.2.1.2.2.2.1, r1140.2.2.2.1.2.2.2.2.1, (va_up r1140.2.2.2.1.2.2.2.2.2.1 r1140.1 (nNumber (r1140.2.2.2.1.2.2.2.2.2.1 r1140.1) r973.1)), r1140.2.2.2.1.2.2.2.2.2.2), r1140.2.2.2.2)).bind fun r1145 => if l2 = 35 then (FM_bound_2 p fu l1 l2 (l3 + 1) (r1145.1, (r1145.2.1.1, (r1145.2.1.2.1 + 1), r1145.2.1.2.2), r1145.2.2)) else (xo_b (p.1 (r1145.1, (r1145.2.1.1, (r1145.2.1.2.1 + 1), r1145.2.1.2.2), r1145.2.2)) fun r1149 => if l1 < r1149.2.2.2.1.2.2.2.2.1 then ((FN_add l1 r1149.1 r1149.2).bind fun r1153 => xo_b (FM_expect 44 r1153) fun r1156 => FM_bound_2 p fu l1 l2 (l3 + 1) r1156.2) else none)) else none) else none) else (xo_b (p.1 (r1097.2.1, (r1097.2.2.1.1, r970.2.1.2.1, r1097.2.2.1.2.2), r1097.2.2.2)) fun r1159 => if l1 < r1159.2.2.2.1.2.2.2.2.1 then ((FN_add l1 r1159.1 r1159.2).bind fun r1163 => (FM_next 44 r1163).bind fun r1166 => if r1166.1 = true then ((FM_blanks (r1166.2.1, (r1166.2.2.1.1, (r1166.2.2.1.2.1 + 1), r1166.2.2.1.2.2), r1166.2.2.2)).bind fun r1170 => xo_b (FM_bad r1170.2.1.2.1 r1170) fun r1173 => some (.inl ((), r1173.2))) else (some (.inl ((), r1166.2)))) else none)))))
/-- FormulaShaperModel.bound -/
def FM_bound (p : xTP) (x0 : Nat) (x1 : Int32) (s : xMs) : Option (xo Unit xMs) := FM_bound_2 p xFuel x0 x1 0 s
set_option maxRecDepth 20000 in
theorem CM_bound_2 {w : xw_G} {p : xTP} {d : Nat} (hp : xKP w p d) {h : xw_H} (hb : xMb h)  : ∀ (fu : Nat) {l1 : Nat} {l2 : Int32} {l3 : Int32} {s : xMs} {out : (xo Unit xMs)} {h0 : xw_H} {m0 n0 : Nat} (hm : m0 ≤ s.2.2.1.2.2.2.2.2.2.1 ∧ n0 ≤ s.2.2.1.2.2.2.2.2.2.2), FM_bound_2 p fu l1 l2 l3 s = some out → xw_Y w mM_bound (d + 1 + 20) (60 * (d + 1) + 600) (xo_P (fun x => none) (fun s => mV s h) out) h0 m0 n0 s.2.2.1.2.2.2.2.2.2.1 s.2.2.1.2.2.2.2.2.2.2 (xo_s out).2.2.1.2.2.2.2.2.2.1 (xo_s out).2.2.1.2.2.2.2.2.2.2 2 [some (.ref 2000), some (.ref (xn l1)), some (.int l2), some (.int l3), none, none, none, none, none] [] (mV s h) := by
  intro fu
  induction fu with
  | zero =>
    intro l1 l2 l3 s out h0 m0 n0 hm hF
    rw [FM_bound_2] at hF
    cases hF
  | succ fu ih =>
    intro l1 l2 l3 s out h0 m0 n0 hm hF
    rw [FM_bound_2] at hF
    refine xy_r (xw_aload_n dM_bound_2 rfl) ?_
    obtain ⟨r970, er970, hF⟩ := xg_b hF
    have hm971 : m0 ≤ r970.2.2.1.2.2.2.2.2.2.1 ∧ n0 ≤ r970.2.2.1.2.2.2.2.2.2.2 := xy_le hm (show s.2.2.1.2.2.2.2.2.2.1 ≤ r970.2.2.1.2.2.2.2.2.2.1 ∧ s.2.2.1.2.2.2.2.2.2.2 ≤ r970.2.2.1.2.2.2.2.2.2.2 from (CM_blanks (w := w) (h := h) hb (s := s) er970).1)
    refine xy_V0 (nl := 1) (sm := s.2.2.1.2.2.2.2.2.2.1) (sn := s.2.2.1.2.2.2.2.2.2.2) (tm := r970.2.2.1.2.2.2.2.2.2.1) (tn := r970.2.2.1.2.2.2.2.2.2.2) (CM_blanks hb (s := s) er970) rfl rfl hm (fun _ => rfl) (fun _ => rfl) (fun _ => rfl) (fun _ => dM_bound_3) (fun _ R => kM_233 R) (fun _ => rfl) ⟨by omega, by omega⟩ rfl rfl rfl (fun _ => rfl) (Nat.le_of_ble_eq_true rfl) ?_
    refine xy_r (xw_aload_n dM_bound_6 rfl) ?_
    refine xy_r (xw_get dM_bound_7 fM_221 rfl rfl) ?_
    refine xy_r (xw_istore dM_bound_10 (Nat.le_of_ble_eq_true rfl)) ?_
    refine xy_r (xw_Ln (L' := [some (.ref 2000), some (.ref (xn l1)), some (.int l2), some (.int l3), some (.int r970.2.1.2.1), none, none, none, none]) rfl) ?_
    refine xy_r (xw_aload_n dM_bound_12 rfl) ?_
    obtain ⟨r973, er973, hF⟩ := xg_b hF
    have hm974 : m0 ≤ r973.2.2.2.1.2.2.2.2.2.2.1 ∧ n0 ≤ r973.2.2.2.1.2.2.2.2.2.2.2 := xy_le hm971 (show r970.2.2.1.2.2.2.2.2.2.1 ≤ r973.2.2.2.1.2.2.2.2.2.2.1 ∧ r970.2.2.1.2.2.2.2.2.2.2 ≤ r973.2.2.2.1.2.2.2.2.2.2.2 from (CM_wordHere (w := w) (h := h) hb (s := r970) er973).1)
    refine xy_V1 (nl := 2) (sm := r970.2.2.1.2.2.2.2.2.2.1) (sn := r970.2.2.1.2.2.2.2.2.2.2) (tm := r973.2.2.2.1.2.2.2.2.2.2.1) (tn := r973.2.2.2.1.2.2.2.2.2.2.2) (CM_wordHere hb (s := r970) er973) rfl rfl hm971 (fun _ => rfl) (fun _ => rfl) (fun _ => rfl) (fun _ => dM_bound_13) (fun _ R => kM_417 R) (fun _ => rfl) ⟨by omega, by omega⟩ rfl rfl rfl (fun _ => rfl) (Nat.le_of_ble_eq_true rfl) ?_
    refine xy_r (xw_lstore dM_bound_16 (Nat.le_of_ble_eq_true rfl)) ?_
    refine xy_r (xw_Ln (L' := [some (.ref 2000), some (.ref (xn l1)), some (.int l2), some (.int l3), some (.int r970.2.1.2.1), some (.long r973.1), none, none, none]) rfl) ?_
    refine xy_r (xw_iconst (0) dM_bound_18 (by decide)) ?_
    refine xy_r (xw_istore dM_bound_19 (Nat.le_of_ble_eq_true rfl)) ?_
    refine xy_r (xw_Ln (L' := [some (.ref 2000), some (.ref (xn l1)), some (.int l2), some (.int l3), some (.int r970.2.1.2.1), some (.long r973.1), none, some (.int 0), none]) rfl) ?_
    refine xy_r (xw_lload dM_bound_21 rfl) ?_
    refine xy_r (xw_lconst (0) dM_bound_23 (by decide)) ?_
    refine xy_r (xw_lcmp dM_bound_24) ?_
    refine xy_br (xw_if_eq 80 dM_bound_25 (by decide)) (fun c976 => ?_) (fun c976 => ?_)
    · replace hF := xg_t c976 hF
      refine xy_r (xw_iload_n dM_bound_80 rfl) ?_
      refine xy_r (xw_bipush (34) dM_bound_81 (by decide)) ?_
      refine xy_brn (xw_icmp_ne 98 dM_bound_83 (by decide)) (fun c977 => ?_) (fun c977 => ?_)
      · replace hF := xg_f c977 hF
        refine xy_r (xw_iload dM_bound_98 rfl) ?_
        refine xy_r (fun k9 => xw_if_ne 112 dM_bound_100 (by decide) (fun q => absurd q (show ¬ (¬ (0 : Int32) = 0) by decide)) (fun _ => k9)) ?_
        refine xy_r (xw_aload_n dM_bound_103 rfl) ?_
        refine xy_r (xw_iload dM_bound_104 rfl) ?_
        refine xy_r (xg_put dM_bound_106 fM_221 rfl (by decide) (Nat.le_of_ble_eq_true rfl) (fun _ => rfl) (fun _ => rfl) (mV_o (s' := (r973.2.1, (r973.2.2.1.1, r970.2.1.2.1, r973.2.2.1.2.2), r973.2.2.2)) rfl)) ?_
        refine xy_r (xw_goto 172 dM_bound_109 (by decide)) ?_
        refine xy_r (xw_aload_n dM_bound_172 rfl) ?_
        refine xy_r (xw_aload_n dM_bound_173 rfl) ?_
        rcases xg_o hF with ⟨r979, er979, hF⟩ | ⟨r979, er979, hF⟩
        · have hm980 : m0 ≤ r979.2.2.2.1.2.2.2.2.2.2.1 ∧ n0 ≤ r979.2.2.2.1.2.2.2.2.2.2.2 := xy_le hm974 (show r973.2.2.2.1.2.2.2.2.2.2.1 ≤ r979.2.2.2.1.2.2.2.2.2.2.1 ∧ r973.2.2.2.1.2.2.2.2.2.2.2 ≤ r979.2.2.2.1.2.2.2.2.2.2.2 from ((hp.1 (h := h) hb (s := (r973.2.1, (r973.2.2.1.1, r970.2.1.2.1, r973.2.2.1.2.2), r973.2.2.2)) er979)).1)
          refine xy_V1 (nl := 4) (sm := r973.2.2.2.1.2.2.2.2.2.2.1) (sn := r973.2.2.2.1.2.2.2.2.2.2.2) (tm := r979.2.2.2.1.2.2.2.2.2.2.1) (tn := r979.2.2.2.1.2.2.2.2.2.2.2) (hp.1 hb (s := (r973.2.1, (r973.2.2.1.1, r970.2.1.2.1, r973.2.2.1.2.2), r973.2.2.2)) er979) rfl rfl hm974 (fun _ => rfl) (fun _ => rfl) (fun _ => rfl) (fun _ => dM_bound_174) (fun _ R => kM_249 R) (fun _ => rfl) ⟨by omega, by omega⟩ rfl rfl rfl (fun _ => rfl) (Nat.le_of_ble_eq_true rfl) ?_
          obtain ⟨g982, hF⟩ := xg_g hF
          obtain ⟨r983, er983, hF⟩ := xg_b hF
          have hm984 : m0 ≤ r983.2.2.1.2.2.2.2.2.2.1 ∧ n0 ≤ r983.2.2.1.2.2.2.2.2.2.2 := xy_le hm980 (show r979.2.2.2.1.2.2.2.2.2.2.1 ≤ r983.2.2.1.2.2.2.2.2.2.1 ∧ r979.2.2.2.1.2.2.2.2.2.2.2 ≤ r983.2.2.1.2.2.2.2.2.2.2 from (CN_add (w := w) (h := h) hb (s := r979.2) er983).1)
          refine xy_V0 (nl := 2) (sm := r979.2.2.2.1.2.2.2.2.2.2.1) (sn := r979.2.2.2.1.2.2.2.2.2.2.2) (tm := r983.2.2.1.2.2.2.2.2.2.1) (tn := r983.2.2.1.2.2.2.2.2.2.2) (CN_add hb (s := r979.2) er983) rfl rfl hm980 (fun _ => rfl) (fun _ => rfl) (fun _ => rfl) (fun _ => dM_bound_177) (fun _ R => kM_257 R) (fun _ => rfl) ⟨by omega, by omega⟩ rfl rfl (mV_n g982) (fun _ => rfl) (Nat.le_of_ble_eq_true rfl) ?_
          refine xy_r (xw_aload_n dM_bound_180 rfl) ?_
          refine xy_r (xw_bipush (44) dM_bound_181 (by decide)) ?_
          obtain ⟨r986, er986, hF⟩ := xg_b hF
          have hm987 : m0 ≤ r986.2.2.2.1.2.2.2.2.2.2.1 ∧ n0 ≤ r986.2.2.2.1.2.2.2.2.2.2.2 := xy_le hm984 (show r983.2.2.1.2.2.2.2.2.2.1 ≤ r986.2.2.2.1.2.2.2.2.2.2.1 ∧ r983.2.2.1.2.2.2.2.2.2.2 ≤ r986.2.2.2.1.2.2.2.2.2.2.2 from (CM_next (w := w) (h := h) hb (s := r983) er986).1)
          refine xy_V1 (nl := 2) (sm := r983.2.2.1.2.2.2.2.2.2.1) (sn := r983.2.2.1.2.2.2.2.2.2.2) (tm := r986.2.2.2.1.2.2.2.2.2.2.1) (tn := r986.2.2.2.1.2.2.2.2.2.2.2) (CM_next hb (s := r983) er986) rfl rfl hm984 (fun _ => rfl) (fun _ => rfl) (fun _ => rfl) (fun _ => dM_bound_183) (fun _ R => kM_236 R) (fun _ => rfl) ⟨by omega, by omega⟩ rfl rfl rfl (fun _ => rfl) (Nat.le_of_ble_eq_true rfl) ?_
          refine xy_brn (xw_if_eqB 211 dM_bound_186 (by decide)) (fun c989 => ?_) (fun c989 => ?_)
          · replace hF := xg_f c989 hF
            obtain rfl := Option.some.inj hF
            exact xy_end (xw_return dM_bound_211 rfl (Nat.le_refl _) (Nat.le_refl _) ⟨rfl, rfl⟩)
          · replace hF := xg_t c989 hF
            refine xy_r (xw_aload_n dM_bound_189 rfl) ?_
            refine xy_r (xw_dup_r dM_bound_190) ?_
            refine xy_r (xw_get dM_bound_191 fM_221 rfl rfl) ?_
            refine xy_r (xw_iconst (1) dM_bound_194 (by decide)) ?_
            refine xy_r (xw_iadd dM_bound_195) ?_
            refine xy_r (xg_put dM_bound_196 fM_221 rfl (by decide) (Nat.le_of_ble_eq_true rfl) (fun _ => rfl) (fun _ => rfl) (mV_o (s' := (r986.2.1, (r986.2.2.1.1, (r986.2.2.1.2.1 + 1), r986.2.2.1.2.2), r986.2.2.2)) rfl)) ?_
            refine xy_r (xw_aload_n dM_bound_199 rfl) ?_
            obtain ⟨r990, er990, hF⟩ := xg_b hF
            have hm991 : m0 ≤ r990.2.2.1.2.2.2.2.2.2.1 ∧ n0 ≤ r990.2.2.1.2.2.2.2.2.2.2 := xy_le hm987 (show r986.2.2.2.1.2.2.2.2.2.2.1 ≤ r990.2.2.1.2.2.2.2.2.2.1 ∧ r986.2.2.2.1.2.2.2.2.2.2.2 ≤ r990.2.2.1.2.2.2.2.2.2.2 from (CM_blanks (w := w) (h := h) hb (s := (r986.2.1, (r986.2.2.1.1, (r986.2.2.1.2.1 + 1), r986.2.2.1.2.2), r986.2.2.2)) er990).1)
            refine xy_V0 (nl := 1) (sm := r986.2.2.2.1.2.2.2.2.2.2.1) (sn := r986.2.2.2.1.2.2.2.2.2.2.2) (tm := r990.2.2.1.2.2.2.2.2.2.1) (tn := r990.2.2.1.2.2.2.2.2.2.2) (CM_blanks hb (s := (r986.2.1, (r986.2.2.1.1, (r986.2.2.1.2.1 + 1), r986.2.2.1.2.2), r986.2.2.2)) er990) rfl rfl hm987 (fun _ => rfl) (fun _ => rfl) (fun _ => rfl) (fun _ => dM_bound_200) (fun _ R => kM_233 R) (fun _ => rfl) ⟨by omega, by omega⟩ rfl rfl rfl (fun _ => rfl) (Nat.le_of_ble_eq_true rfl) ?_
            refine xy_r (xw_aload_n dM_bound_203 rfl) ?_
            refine xy_r (xw_aload_n dM_bound_204 rfl) ?_
            refine xy_r (xw_get dM_bound_205 fM_221 rfl rfl) ?_
            rcases xg_o hF with ⟨r993, er993, hF⟩ | ⟨r993, er993, hF⟩
            · have hm994 : m0 ≤ r993.2.2.2.1.2.2.2.2.2.2.1 ∧ n0 ≤ r993.2.2.2.1.2.2.2.2.2.2.2 := xy_le hm991 (show r990.2.2.1.2.2.2.2.2.2.1 ≤ r993.2.2.2.1.2.2.2.2.2.2.1 ∧ r990.2.2.1.2.2.2.2.2.2.2 ≤ r993.2.2.2.1.2.2.2.2.2.2.2 from (CM_bad (w := w) (h := h) hb (s := r990) er993).1)
              refine xy_V0 (nl := 2) (sm := r990.2.2.1.2.2.2.2.2.2.1) (sn := r990.2.2.1.2.2.2.2.2.2.2) (tm := r993.2.2.2.1.2.2.2.2.2.2.1) (tn := r993.2.2.2.1.2.2.2.2.2.2.2) (CM_bad hb (s := r990) er993) rfl rfl hm991 (fun _ => rfl) (fun _ => rfl) (fun _ => rfl) (fun _ => dM_bound_208) (fun _ R => kM_239 R) (fun _ => rfl) ⟨by omega, by omega⟩ rfl rfl rfl (fun _ => rfl) (Nat.le_of_ble_eq_true rfl) ?_
              obtain rfl := Option.some.inj hF
              exact xy_end (xw_return dM_bound_211 rfl (Nat.le_refl _) (Nat.le_refl _) ⟨rfl, rfl⟩)
            · subst hF
              exact xy_Vt (nl := 2) (sm := r990.2.2.1.2.2.2.2.2.2.1) (sn := r990.2.2.1.2.2.2.2.2.2.2) (tm := r993.2.2.2.1.2.2.2.2.2.2.1) (tn := r993.2.2.2.1.2.2.2.2.2.2.2) (CM_bad hb (s := r990) er993) rfl rfl hm991 (fun _ => rfl) (fun _ => rfl) (fun _ => rfl) (fun _ => dM_bound_208) (fun _ R => kM_239 R) (fun _ => rfl) ⟨by omega, by omega⟩ rfl rfl rfl (fun _ => rfl) (Nat.le_of_ble_eq_true rfl) ⟨rfl, rfl⟩
        · subst hF
          exact xy_Vt (nl := 4) (sm := r973.2.2.2.1.2.2.2.2.2.2.1) (sn := r973.2.2.2.1.2.2.2.2.2.2.2) (tm := r979.2.2.2.1.2.2.2.2.2.2.1) (tn := r979.2.2.2.1.2.2.2.2.2.2.2) (hp.1 hb (s := (r973.2.1, (r973.2.2.1.1, r970.2.1.2.1, r973.2.2.1.2.2), r973.2.2.2)) er979) rfl rfl hm974 (fun _ => rfl) (fun _ => rfl) (fun _ => rfl) (fun _ => dM_bound_174) (fun _ R => kM_249 R) (fun _ => rfl) ⟨by omega, by omega⟩ rfl rfl rfl (fun _ => rfl) (Nat.le_of_ble_eq_true rfl) ⟨rfl, rfl⟩
      · replace hF := xg_t c977 hF
        refine xy_r (xw_iload_n dM_bound_86 rfl) ?_
        refine xy_brn (xw_if_ne 98 dM_bound_87 (by decide)) (fun c996 => ?_) (fun c996 => ?_)
        · replace hF := xg_f c996 hF
          refine xy_r (xw_iload dM_bound_98 rfl) ?_
          refine xy_r (fun k9 => xw_if_ne 112 dM_bound_100 (by decide) (fun q => absurd q (show ¬ (¬ (0 : Int32) = 0) by decide)) (fun _ => k9)) ?_
          refine xy_r (xw_aload_n dM_bound_103 rfl) ?_
          refine xy_r (xw_iload dM_bound_104 rfl) ?_
          refine xy_r (xg_put dM_bound_106 fM_221 rfl (by decide) (Nat.le_of_ble_eq_true rfl) (fun _ => rfl) (fun _ => rfl) (mV_o (s' := (r973.2.1, (r973.2.2.1.1, r970.2.1.2.1, r973.2.2.1.2.2), r973.2.2.2)) rfl)) ?_
          refine xy_r (xw_goto 172 dM_bound_109 (by decide)) ?_
          refine xy_r (xw_aload_n dM_bound_172 rfl) ?_
          refine xy_r (xw_aload_n dM_bound_173 rfl) ?_
          rcases xg_o hF with ⟨r998, er998, hF⟩ | ⟨r998, er998, hF⟩
          · have hm999 : m0 ≤ r998.2.2.2.1.2.2.2.2.2.2.1 ∧ n0 ≤ r998.2.2.2.1.2.2.2.2.2.2.2 := xy_le hm974 (show r973.2.2.2.1.2.2.2.2.2.2.1 ≤ r998.2.2.2.1.2.2.2.2.2.2.1 ∧ r973.2.2.2.1.2.2.2.2.2.2.2 ≤ r998.2.2.2.1.2.2.2.2.2.2.2 from ((hp.1 (h := h) hb (s := (r973.2.1, (r973.2.2.1.1, r970.2.1.2.1, r973.2.2.1.2.2), r973.2.2.2)) er998)).1)
            refine xy_V1 (nl := 4) (sm := r973.2.2.2.1.2.2.2.2.2.2.1) (sn := r973.2.2.2.1.2.2.2.2.2.2.2) (tm := r998.2.2.2.1.2.2.2.2.2.2.1) (tn := r998.2.2.2.1.2.2.2.2.2.2.2) (hp.1 hb (s := (r973.2.1, (r973.2.2.1.1, r970.2.1.2.1, r973.2.2.1.2.2), r973.2.2.2)) er998) rfl rfl hm974 (fun _ => rfl) (fun _ => rfl) (fun _ => rfl) (fun _ => dM_bound_174) (fun _ R => kM_249 R) (fun _ => rfl) ⟨by omega, by omega⟩ rfl rfl rfl (fun _ => rfl) (Nat.le_of_ble_eq_true rfl) ?_
            obtain ⟨g1001, hF⟩ := xg_g hF
            obtain ⟨r1002, er1002, hF⟩ := xg_b hF
            have hm1003 : m0 ≤ r1002.2.2.1.2.2.2.2.2.2.1 ∧ n0 ≤ r1002.2.2.1.2.2.2.2.2.2.2 := xy_le hm999 (show r998.2.2.2.1.2.2.2.2.2.2.1 ≤ r1002.2.2.1.2.2.2.2.2.2.1 ∧ r998.2.2.2.1.2.2.2.2.2.2.2 ≤ r1002.2.2.1.2.2.2.2.2.2.2 from (CN_add (w := w) (h := h) hb (s := r998.2) er1002).1)
            refine xy_V0 (nl := 2) (sm := r998.2.2.2.1.2.2.2.2.2.2.1) (sn := r998.2.2.2.1.2.2.2.2.2.2.2) (tm := r1002.2.2.1.2.2.2.2.2.2.1) (tn := r1002.2.2.1.2.2.2.2.2.2.2) (CN_add hb (s := r998.2) er1002) rfl rfl hm999 (fun _ => rfl) (fun _ => rfl) (fun _ => rfl) (fun _ => dM_bound_177) (fun _ R => kM_257 R) (fun _ => rfl) ⟨by omega, by omega⟩ rfl rfl (mV_n g1001) (fun _ => rfl) (Nat.le_of_ble_eq_true rfl) ?_
            refine xy_r (xw_aload_n dM_bound_180 rfl) ?_
            refine xy_r (xw_bipush (44) dM_bound_181 (by decide)) ?_
            obtain ⟨r1005, er1005, hF⟩ := xg_b hF
            have hm1006 : m0 ≤ r1005.2.2.2.1.2.2.2.2.2.2.1 ∧ n0 ≤ r1005.2.2.2.1.2.2.2.2.2.2.2 := xy_le hm1003 (show r1002.2.2.1.2.2.2.2.2.2.1 ≤ r1005.2.2.2.1.2.2.2.2.2.2.1 ∧ r1002.2.2.1.2.2.2.2.2.2.2 ≤ r1005.2.2.2.1.2.2.2.2.2.2.2 from (CM_next (w := w) (h := h) hb (s := r1002) er1005).1)
            refine xy_V1 (nl := 2) (sm := r1002.2.2.1.2.2.2.2.2.2.1) (sn := r1002.2.2.1.2.2.2.2.2.2.2) (tm := r1005.2.2.2.1.2.2.2.2.2.2.1) (tn := r1005.2.2.2.1.2.2.2.2.2.2.2) (CM_next hb (s := r1002) er1005) rfl rfl hm1003 (fun _ => rfl) (fun _ => rfl) (fun _ => rfl) (fun _ => dM_bound_183) (fun _ R => kM_236 R) (fun _ => rfl) ⟨by omega, by omega⟩ rfl rfl rfl (fun _ => rfl) (Nat.le_of_ble_eq_true rfl) ?_
            refine xy_brn (xw_if_eqB 211 dM_bound_186 (by decide)) (fun c1008 => ?_) (fun c1008 => ?_)
            · replace hF := xg_f c1008 hF
              obtain rfl := Option.some.inj hF
              exact xy_end (xw_return dM_bound_211 rfl (Nat.le_refl _) (Nat.le_refl _) ⟨rfl, rfl⟩)
            · replace hF := xg_t c1008 hF
              refine xy_r (xw_aload_n dM_bound_189 rfl) ?_
              refine xy_r (xw_dup_r dM_bound_190) ?_
              refine xy_r (xw_get dM_bound_191 fM_221 rfl rfl) ?_
              refine xy_r (xw_iconst (1) dM_bound_194 (by decide)) ?_
              refine xy_r (xw_iadd dM_bound_195) ?_
              refine xy_r (xg_put dM_bound_196 fM_221 rfl (by decide) (Nat.le_of_ble_eq_true rfl) (fun _ => rfl) (fun _ => rfl) (mV_o (s' := (r1005.2.1, (r1005.2.2.1.1, (r1005.2.2.1.2.1 + 1), r1005.2.2.1.2.2), r1005.2.2.2)) rfl)) ?_
              refine xy_r (xw_aload_n dM_bound_199 rfl) ?_
              obtain ⟨r1009, er1009, hF⟩ := xg_b hF
              have hm1010 : m0 ≤ r1009.2.2.1.2.2.2.2.2.2.1 ∧ n0 ≤ r1009.2.2.1.2.2.2.2.2.2.2 := xy_le hm1006 (show r1005.2.2.2.1.2.2.2.2.2.2.1 ≤ r1009.2.2.1.2.2.2.2.2.2.1 ∧ r1005.2.2.2.1.2.2.2.2.2.2.2 ≤ r1009.2.2.1.2.2.2.2.2.2.2 from (CM_blanks (w := w) (h := h) hb (s := (r1005.2.1, (r1005.2.2.1.1, (r1005.2.2.1.2.1 + 1), r1005.2.2.1.2.2), r1005.2.2.2)) er1009).1)
              refine xy_V0 (nl := 1) (sm := r1005.2.2.2.1.2.2.2.2.2.2.1) (sn := r1005.2.2.2.1.2.2.2.2.2.2.2) (tm := r1009.2.2.1.2.2.2.2.2.2.1) (tn := r1009.2.2.1.2.2.2.2.2.2.2) (CM_blanks hb (s := (r1005.2.1, (r1005.2.2.1.1, (r1005.2.2.1.2.1 + 1), r1005.2.2.1.2.2), r1005.2.2.2)) er1009) rfl rfl hm1006 (fun _ => rfl) (fun _ => rfl) (fun _ => rfl) (fun _ => dM_bound_200) (fun _ R => kM_233 R) (fun _ => rfl) ⟨by omega, by omega⟩ rfl rfl rfl (fun _ => rfl) (Nat.le_of_ble_eq_true rfl) ?_
              refine xy_r (xw_aload_n dM_bound_203 rfl) ?_
              refine xy_r (xw_aload_n dM_bound_204 rfl) ?_
              refine xy_r (xw_get dM_bound_205 fM_221 rfl rfl) ?_
              rcases xg_o hF with ⟨r1012, er1012, hF⟩ | ⟨r1012, er1012, hF⟩
              · have hm1013 : m0 ≤ r1012.2.2.2.1.2.2.2.2.2.2.1 ∧ n0 ≤ r1012.2.2.2.1.2.2.2.2.2.2.2 := xy_le hm1010 (show r1009.2.2.1.2.2.2.2.2.2.1 ≤ r1012.2.2.2.1.2.2.2.2.2.2.1 ∧ r1009.2.2.1.2.2.2.2.2.2.2 ≤ r1012.2.2.2.1.2.2.2.2.2.2.2 from (CM_bad (w := w) (h := h) hb (s := r1009) er1012).1)
                refine xy_V0 (nl := 2) (sm := r1009.2.2.1.2.2.2.2.2.2.1) (sn := r1009.2.2.1.2.2.2.2.2.2.2) (tm := r1012.2.2.2.1.2.2.2.2.2.2.1) (tn := r1012.2.2.2.1.2.2.2.2.2.2.2) (CM_bad hb (s := r1009) er1012) rfl rfl hm1010 (fun _ => rfl) (fun _ => rfl) (fun _ => rfl) (fun _ => dM_bound_208) (fun _ R => kM_239 R) (fun _ => rfl) ⟨by omega, by omega⟩ rfl rfl rfl (fun _ => rfl) (Nat.le_of_ble_eq_true rfl) ?_
                obtain rfl := Option.some.inj hF
                exact xy_end (xw_return dM_bound_211 rfl (Nat.le_refl _) (Nat.le_refl _) ⟨rfl, rfl⟩)
              · subst hF
                exact xy_Vt (nl := 2) (sm := r1009.2.2.1.2.2.2.2.2.2.1) (sn := r1009.2.2.1.2.2.2.2.2.2.2) (tm := r1012.2.2.2.1.2.2.2.2.2.2.1) (tn := r1012.2.2.2.1.2.2.2.2.2.2.2) (CM_bad hb (s := r1009) er1012) rfl rfl hm1010 (fun _ => rfl) (fun _ => rfl) (fun _ => rfl) (fun _ => dM_bound_208) (fun _ R => kM_239 R) (fun _ => rfl) ⟨by omega, by omega⟩ rfl rfl rfl (fun _ => rfl) (Nat.le_of_ble_eq_true rfl) ⟨rfl, rfl⟩
          · subst hF
            exact xy_Vt (nl := 4) (sm := r973.2.2.2.1.2.2.2.2.2.2.1) (sn := r973.2.2.2.1.2.2.2.2.2.2.2) (tm := r998.2.2.2.1.2.2.2.2.2.2.1) (tn := r998.2.2.2.1.2.2.2.2.2.2.2) (hp.1 hb (s := (r973.2.1, (r973.2.2.1.1, r970.2.1.2.1, r973.2.2.1.2.2), r973.2.2.2)) er998) rfl rfl hm974 (fun _ => rfl) (fun _ => rfl) (fun _ => rfl) (fun _ => dM_bound_174) (fun _ R => kM_249 R) (fun _ => rfl) ⟨by omega, by omega⟩ rfl rfl rfl (fun _ => rfl) (Nat.le_of_ble_eq_true rfl) ⟨rfl, rfl⟩
        · replace hF := xg_t c996 hF
          refine xy_r (xw_aload_n dM_bound_90 rfl) ?_
          refine xy_r (xw_aload_n dM_bound_91 rfl) ?_
          refine xy_r (xw_get dM_bound_92 fM_221 rfl rfl) ?_
          rcases xg_o hF with ⟨r1015, er1015, hF⟩ | ⟨r1015, er1015, hF⟩
          · have hm1016 : m0 ≤ r1015.2.2.2.1.2.2.2.2.2.2.1 ∧ n0 ≤ r1015.2.2.2.1.2.2.2.2.2.2.2 := xy_le hm974 (show r973.2.2.2.1.2.2.2.2.2.2.1 ≤ r1015.2.2.2.1.2.2.2.2.2.2.1 ∧ r973.2.2.2.1.2.2.2.2.2.2.2 ≤ r1015.2.2.2.1.2.2.2.2.2.2.2 from (CM_bad (w := w) (h := h) hb (s := r973.2) er1015).1)
            refine xy_V0 (nl := 2) (sm := r973.2.2.2.1.2.2.2.2.2.2.1) (sn := r973.2.2.2.1.2.2.2.2.2.2.2) (tm := r1015.2.2.2.1.2.2.2.2.2.2.1) (tn := r1015.2.2.2.1.2.2.2.2.2.2.2) (CM_bad hb (s := r973.2) er1015) rfl rfl hm974 (fun _ => rfl) (fun _ => rfl) (fun _ => rfl) (fun _ => dM_bound_95) (fun _ R => kM_239 R) (fun _ => rfl) ⟨by omega, by omega⟩ rfl rfl rfl (fun _ => rfl) (Nat.le_of_ble_eq_true rfl) ?_
            refine xy_r (xw_iload dM_bound_98 rfl) ?_
            refine xy_r (fun k9 => xw_if_ne 112 dM_bound_100 (by decide) (fun q => absurd q (show ¬ (¬ (0 : Int32) = 0) by decide)) (fun _ => k9)) ?_
            refine xy_r (xw_aload_n dM_bound_103 rfl) ?_
            refine xy_r (xw_iload dM_bound_104 rfl) ?_
            refine xy_r (xg_put dM_bound_106 fM_221 rfl (by decide) (Nat.le_of_ble_eq_true rfl) (fun _ => rfl) (fun _ => rfl) (mV_o (s' := (r1015.2.1, (r1015.2.2.1.1, r970.2.1.2.1, r1015.2.2.1.2.2), r1015.2.2.2)) rfl)) ?_
            refine xy_r (xw_goto 172 dM_bound_109 (by decide)) ?_
            refine xy_r (xw_aload_n dM_bound_172 rfl) ?_
            refine xy_r (xw_aload_n dM_bound_173 rfl) ?_
            rcases xg_o hF with ⟨r1019, er1019, hF⟩ | ⟨r1019, er1019, hF⟩
            · have hm1020 : m0 ≤ r1019.2.2.2.1.2.2.2.2.2.2.1 ∧ n0 ≤ r1019.2.2.2.1.2.2.2.2.2.2.2 := xy_le hm1016 (show r1015.2.2.2.1.2.2.2.2.2.2.1 ≤ r1019.2.2.2.1.2.2.2.2.2.2.1 ∧ r1015.2.2.2.1.2.2.2.2.2.2.2 ≤ r1019.2.2.2.1.2.2.2.2.2.2.2 from ((hp.1 (h := h) hb (s := (r1015.2.1, (r1015.2.2.1.1, r970.2.1.2.1, r1015.2.2.1.2.2), r1015.2.2.2)) er1019)).1)
              refine xy_V1 (nl := 4) (sm := r1015.2.2.2.1.2.2.2.2.2.2.1) (sn := r1015.2.2.2.1.2.2.2.2.2.2.2) (tm := r1019.2.2.2.1.2.2.2.2.2.2.1) (tn := r1019.2.2.2.1.2.2.2.2.2.2.2) (hp.1 hb (s := (r1015.2.1, (r1015.2.2.1.1, r970.2.1.2.1, r1015.2.2.1.2.2), r1015.2.2.2)) er1019) rfl rfl hm1016 (fun _ => rfl) (fun _ => rfl) (fun _ => rfl) (fun _ => dM_bound_174) (fun _ R => kM_249 R) (fun _ => rfl) ⟨by omega, by omega⟩ rfl rfl rfl (fun _ => rfl) (Nat.le_of_ble_eq_true rfl) ?_
              obtain ⟨g1022, hF⟩ := xg_g hF
              obtain ⟨r1023, er1023, hF⟩ := xg_b hF
              have hm1024 : m0 ≤ r1023.2.2.1.2.2.2.2.2.2.1 ∧ n0 ≤ r1023.2.2.1.2.2.2.2.2.2.2 := xy_le hm1020 (show r1019.2.2.2.1.2.2.2.2.2.2.1 ≤ r1023.2.2.1.2.2.2.2.2.2.1 ∧ r1019.2.2.2.1.2.2.2.2.2.2.2 ≤ r1023.2.2.1.2.2.2.2.2.2.2 from (CN_add (w := w) (h := h) hb (s := r1019.2) er1023).1)
              refine xy_V0 (nl := 2) (sm := r1019.2.2.2.1.2.2.2.2.2.2.1) (sn := r1019.2.2.2.1.2.2.2.2.2.2.2) (tm := r1023.2.2.1.2.2.2.2.2.2.1) (tn := r1023.2.2.1.2.2.2.2.2.2.2) (CN_add hb (s := r1019.2) er1023) rfl rfl hm1020 (fun _ => rfl) (fun _ => rfl) (fun _ => rfl) (fun _ => dM_bound_177) (fun _ R => kM_257 R) (fun _ => rfl) ⟨by omega, by omega⟩ rfl rfl (mV_n g1022) (fun _ => rfl) (Nat.le_of_ble_eq_true rfl) ?_
              refine xy_r (xw_aload_n dM_bound_180 rfl) ?_
              refine xy_r (xw_bipush (44) dM_bound_181 (by decide)) ?_
              obtain ⟨r1026, er1026, hF⟩ := xg_b hF
              have hm1027 : m0 ≤ r1026.2.2.2.1.2.2.2.2.2.2.1 ∧ n0 ≤ r1026.2.2.2.1.2.2.2.2.2.2.2 := xy_le hm1024 (show r1023.2.2.1.2.2.2.2.2.2.1 ≤ r1026.2.2.2.1.2.2.2.2.2.2.1 ∧ r1023.2.2.1.2.2.2.2.2.2.2 ≤ r1026.2.2.2.1.2.2.2.2.2.2.2 from (CM_next (w := w) (h := h) hb (s := r1023) er1026).1)
              refine xy_V1 (nl := 2) (sm := r1023.2.2.1.2.2.2.2.2.2.1) (sn := r1023.2.2.1.2.2.2.2.2.2.2) (tm := r1026.2.2.2.1.2.2.2.2.2.2.1) (tn := r1026.2.2.2.1.2.2.2.2.2.2.2) (CM_next hb (s := r1023) er1026) rfl rfl hm1024 (fun _ => rfl) (fun _ => rfl) (fun _ => rfl) (fun _ => dM_bound_183) (fun _ R => kM_236 R) (fun _ => rfl) ⟨by omega, by omega⟩ rfl rfl rfl (fun _ => rfl) (Nat.le_of_ble_eq_true rfl) ?_
              refine xy_brn (xw_if_eqB 211 dM_bound_186 (by decide)) (fun c1029 => ?_) (fun c1029 => ?_)
              · replace hF := xg_f c1029 hF
                obtain rfl := Option.some.inj hF
                exact xy_end (xw_return dM_bound_211 rfl (Nat.le_refl _) (Nat.le_refl _) ⟨rfl, rfl⟩)
              · replace hF := xg_t c1029 hF
                refine xy_r (xw_aload_n dM_bound_189 rfl) ?_
                refine xy_r (xw_dup_r dM_bound_190) ?_
                refine xy_r (xw_get dM_bound_191 fM_221 rfl rfl) ?_
                refine xy_r (xw_iconst (1) dM_bound_194 (by decide)) ?_
                refine xy_r (xw_iadd dM_bound_195) ?_
                refine xy_r (xg_put dM_bound_196 fM_221 rfl (by decide) (Nat.le_of_ble_eq_true rfl) (fun _ => rfl) (fun _ => rfl) (mV_o (s' := (r1026.2.1, (r1026.2.2.1.1, (r1026.2.2.1.2.1 + 1), r1026.2.2.1.2.2), r1026.2.2.2)) rfl)) ?_
                refine xy_r (xw_aload_n dM_bound_199 rfl) ?_
                obtain ⟨r1030, er1030, hF⟩ := xg_b hF
                have hm1031 : m0 ≤ r1030.2.2.1.2.2.2.2.2.2.1 ∧ n0 ≤ r1030.2.2.1.2.2.2.2.2.2.2 := xy_le hm1027 (show r1026.2.2.2.1.2.2.2.2.2.2.1 ≤ r1030.2.2.1.2.2.2.2.2.2.1 ∧ r1026.2.2.2.1.2.2.2.2.2.2.2 ≤ r1030.2.2.1.2.2.2.2.2.2.2 from (CM_blanks (w := w) (h := h) hb (s := (r1026.2.1, (r1026.2.2.1.1, (r1026.2.2.1.2.1 + 1), r1026.2.2.1.2.2), r1026.2.2.2)) er1030).1)
                refine xy_V0 (nl := 1) (sm := r1026.2.2.2.1.2.2.2.2.2.2.1) (sn := r1026.2.2.2.1.2.2.2.2.2.2.2) (tm := r1030.2.2.1.2.2.2.2.2.2.1) (tn := r1030.2.2.1.2.2.2.2.2.2.2) (CM_blanks hb (s := (r1026.2.1, (r1026.2.2.1.1, (r1026.2.2.1.2.1 + 1), r1026.2.2.1.2.2), r1026.2.2.2)) er1030) rfl rfl hm1027 (fun _ => rfl) (fun _ => rfl) (fun _ => rfl) (fun _ => dM_bound_200) (fun _ R => kM_233 R) (fun _ => rfl) ⟨by omega, by omega⟩ rfl rfl rfl (fun _ => rfl) (Nat.le_of_ble_eq_true rfl) ?_
                refine xy_r (xw_aload_n dM_bound_203 rfl) ?_
                refine xy_r (xw_aload_n dM_bound_204 rfl) ?_
                refine xy_r (xw_get dM_bound_205 fM_221 rfl rfl) ?_
                rcases xg_o hF with ⟨r1033, er1033, hF⟩ | ⟨r1033, er1033, hF⟩
                · have hm1034 : m0 ≤ r1033.2.2.2.1.2.2.2.2.2.2.1 ∧ n0 ≤ r1033.2.2.2.1.2.2.2.2.2.2.2 := xy_le hm1031 (show r1030.2.2.1.2.2.2.2.2.2.1 ≤ r1033.2.2.2.1.2.2.2.2.2.2.1 ∧ r1030.2.2.1.2.2.2.2.2.2.2 ≤ r1033.2.2.2.1.2.2.2.2.2.2.2 from (CM_bad (w := w) (h := h) hb (s := r1030) er1033).1)
                  refine xy_V0 (nl := 2) (sm := r1030.2.2.1.2.2.2.2.2.2.1) (sn := r1030.2.2.1.2.2.2.2.2.2.2) (tm := r1033.2.2.2.1.2.2.2.2.2.2.1) (tn := r1033.2.2.2.1.2.2.2.2.2.2.2) (CM_bad hb (s := r1030) er1033) rfl rfl hm1031 (fun _ => rfl) (fun _ => rfl) (fun _ => rfl) (fun _ => dM_bound_208) (fun _ R => kM_239 R) (fun _ => rfl) ⟨by omega, by omega⟩ rfl rfl rfl (fun _ => rfl) (Nat.le_of_ble_eq_true rfl) ?_
                  obtain rfl := Option.some.inj hF
                  exact xy_end (xw_return dM_bound_211 rfl (Nat.le_refl _) (Nat.le_refl _) ⟨rfl, rfl⟩)
                · subst hF
                  exact xy_Vt (nl := 2) (sm := r1030.2.2.1.2.2.2.2.2.2.1) (sn := r1030.2.2.1.2.2.2.2.2.2.2) (tm := r1033.2.2.2.1.2.2.2.2.2.2.1) (tn := r1033.2.2.2.1.2.2.2.2.2.2.2) (CM_bad hb (s := r1030) er1033) rfl rfl hm1031 (fun _ => rfl) (fun _ => rfl) (fun _ => rfl) (fun _ => dM_bound_208) (fun _ R => kM_239 R) (fun _ => rfl) ⟨by omega, by omega⟩ rfl rfl rfl (fun _ => rfl) (Nat.le_of_ble_eq_true rfl) ⟨rfl, rfl⟩
            · subst hF
              exact xy_Vt (nl := 4) (sm := r1015.2.2.2.1.2.2.2.2.2.2.1) (sn := r1015.2.2.2.1.2.2.2.2.2.2.2) (tm := r1019.2.2.2.1.2.2.2.2.2.2.1) (tn := r1019.2.2.2.1.2.2.2.2.2.2.2) (hp.1 hb (s := (r1015.2.1, (r1015.2.2.1.1, r970.2.1.2.1, r1015.2.2.1.2.2), r1015.2.2.2)) er1019) rfl rfl hm1016 (fun _ => rfl) (fun _ => rfl) (fun _ => rfl) (fun _ => dM_bound_174) (fun _ R => kM_249 R) (fun _ => rfl) ⟨by omega, by omega⟩ rfl rfl rfl (fun _ => rfl) (Nat.le_of_ble_eq_true rfl) ⟨rfl, rfl⟩
          · subst hF
            exact xy_Vt (nl := 2) (sm := r973.2.2.2.1.2.2.2.2.2.2.1) (sn := r973.2.2.2.1.2.2.2.2.2.2.2) (tm := r1015.2.2.2.1.2.2.2.2.2.2.1) (tn := r1015.2.2.2.1.2.2.2.2.2.2.2) (CM_bad hb (s := r973.2) er1015) rfl rfl hm974 (fun _ => rfl) (fun _ => rfl) (fun _ => rfl) (fun _ => dM_bound_95) (fun _ R => kM_239 R) (fun _ => rfl) ⟨by omega, by omega⟩ rfl rfl rfl (fun _ => rfl) (Nat.le_of_ble_eq_true rfl) ⟨rfl, rfl⟩
    · replace hF := xg_f c976 hF
      refine xy_r (xw_iload_n dM_bound_28 rfl) ?_
      refine xy_r (xw_iconst (5) dM_bound_29 (by decide)) ?_
      refine xy_br (xw_icmp_ge 80 dM_bound_30 (by decide)) (fun c1036 => ?_) (fun c1036 => ?_)
      · replace hF := xg_t c1036 hF
        refine xy_r (xw_iload_n dM_bound_80 rfl) ?_
        refine xy_r (xw_bipush (34) dM_bound_81 (by decide)) ?_
        refine xy_brn (xw_icmp_ne 98 dM_bound_83 (by decide)) (fun c1037 => ?_) (fun c1037 => ?_)
        · replace hF := xg_f c1037 hF
          refine xy_r (xw_iload dM_bound_98 rfl) ?_
          refine xy_r (fun k9 => xw_if_ne 112 dM_bound_100 (by decide) (fun q => absurd q (show ¬ (¬ (0 : Int32) = 0) by decide)) (fun _ => k9)) ?_
          refine xy_r (xw_aload_n dM_bound_103 rfl) ?_
          refine xy_r (xw_iload dM_bound_104 rfl) ?_
          refine xy_r (xg_put dM_bound_106 fM_221 rfl (by decide) (Nat.le_of_ble_eq_true rfl) (fun _ => rfl) (fun _ => rfl) (mV_o (s' := (r973.2.1, (r973.2.2.1.1, r970.2.1.2.1, r973.2.2.1.2.2), r973.2.2.2)) rfl)) ?_
          refine xy_r (xw_goto 172 dM_bound_109 (by decide)) ?_
          refine xy_r (xw_aload_n dM_bound_172 rfl) ?_
          refine xy_r (xw_aload_n dM_bound_173 rfl) ?_
          rcases xg_o hF with ⟨r1039, er1039, hF⟩ | ⟨r1039, er1039, hF⟩
          · have hm1040 : m0 ≤ r1039.2.2.2.1.2.2.2.2.2.2.1 ∧ n0 ≤ r1039.2.2.2.1.2.2.2.2.2.2.2 := xy_le hm974 (show r973.2.2.2.1.2.2.2.2.2.2.1 ≤ r1039.2.2.2.1.2.2.2.2.2.2.1 ∧ r973.2.2.2.1.2.2.2.2.2.2.2 ≤ r1039.2.2.2.1.2.2.2.2.2.2.2 from ((hp.1 (h := h) hb (s := (r973.2.1, (r973.2.2.1.1, r970.2.1.2.1, r973.2.2.1.2.2), r973.2.2.2)) er1039)).1)
            refine xy_V1 (nl := 4) (sm := r973.2.2.2.1.2.2.2.2.2.2.1) (sn := r973.2.2.2.1.2.2.2.2.2.2.2) (tm := r1039.2.2.2.1.2.2.2.2.2.2.1) (tn := r1039.2.2.2.1.2.2.2.2.2.2.2) (hp.1 hb (s := (r973.2.1, (r973.2.2.1.1, r970.2.1.2.1, r973.2.2.1.2.2), r973.2.2.2)) er1039) rfl rfl hm974 (fun _ => rfl) (fun _ => rfl) (fun _ => rfl) (fun _ => dM_bound_174) (fun _ R => kM_249 R) (fun _ => rfl) ⟨by omega, by omega⟩ rfl rfl rfl (fun _ => rfl) (Nat.le_of_ble_eq_true rfl) ?_
            obtain ⟨g1042, hF⟩ := xg_g hF
            obtain ⟨r1043, er1043, hF⟩ := xg_b hF
            have hm1044 : m0 ≤ r1043.2.2.1.2.2.2.2.2.2.1 ∧ n0 ≤ r1043.2.2.1.2.2.2.2.2.2.2 := xy_le hm1040 (show r1039.2.2.2.1.2.2.2.2.2.2.1 ≤ r1043.2.2.1.2.2.2.2.2.2.1 ∧ r1039.2.2.2.1.2.2.2.2.2.2.2 ≤ r1043.2.2.1.2.2.2.2.2.2.2 from (CN_add (w := w) (h := h) hb (s := r1039.2) er1043).1)
            refine xy_V0 (nl := 2) (sm := r1039.2.2.2.1.2.2.2.2.2.2.1) (sn := r1039.2.2.2.1.2.2.2.2.2.2.2) (tm := r1043.2.2.1.2.2.2.2.2.2.1) (tn := r1043.2.2.1.2.2.2.2.2.2.2) (CN_add hb (s := r1039.2) er1043) rfl rfl hm1040 (fun _ => rfl) (fun _ => rfl) (fun _ => rfl) (fun _ => dM_bound_177) (fun _ R => kM_257 R) (fun _ => rfl) ⟨by omega, by omega⟩ rfl rfl (mV_n g1042) (fun _ => rfl) (Nat.le_of_ble_eq_true rfl) ?_
            refine xy_r (xw_aload_n dM_bound_180 rfl) ?_
            refine xy_r (xw_bipush (44) dM_bound_181 (by decide)) ?_
            obtain ⟨r1046, er1046, hF⟩ := xg_b hF
            have hm1047 : m0 ≤ r1046.2.2.2.1.2.2.2.2.2.2.1 ∧ n0 ≤ r1046.2.2.2.1.2.2.2.2.2.2.2 := xy_le hm1044 (show r1043.2.2.1.2.2.2.2.2.2.1 ≤ r1046.2.2.2.1.2.2.2.2.2.2.1 ∧ r1043.2.2.1.2.2.2.2.2.2.2 ≤ r1046.2.2.2.1.2.2.2.2.2.2.2 from (CM_next (w := w) (h := h) hb (s := r1043) er1046).1)
            refine xy_V1 (nl := 2) (sm := r1043.2.2.1.2.2.2.2.2.2.1) (sn := r1043.2.2.1.2.2.2.2.2.2.2) (tm := r1046.2.2.2.1.2.2.2.2.2.2.1) (tn := r1046.2.2.2.1.2.2.2.2.2.2.2) (CM_next hb (s := r1043) er1046) rfl rfl hm1044 (fun _ => rfl) (fun _ => rfl) (fun _ => rfl) (fun _ => dM_bound_183) (fun _ R => kM_236 R) (fun _ => rfl) ⟨by omega, by omega⟩ rfl rfl rfl (fun _ => rfl) (Nat.le_of_ble_eq_true rfl) ?_
            refine xy_brn (xw_if_eqB 211 dM_bound_186 (by decide)) (fun c1049 => ?_) (fun c1049 => ?_)
            · replace hF := xg_f c1049 hF
              obtain rfl := Option.some.inj hF
              exact xy_end (xw_return dM_bound_211 rfl (Nat.le_refl _) (Nat.le_refl _) ⟨rfl, rfl⟩)
            · replace hF := xg_t c1049 hF
              refine xy_r (xw_aload_n dM_bound_189 rfl) ?_
              refine xy_r (xw_dup_r dM_bound_190) ?_
              refine xy_r (xw_get dM_bound_191 fM_221 rfl rfl) ?_
              refine xy_r (xw_iconst (1) dM_bound_194 (by decide)) ?_
              refine xy_r (xw_iadd dM_bound_195) ?_
              refine xy_r (xg_put dM_bound_196 fM_221 rfl (by decide) (Nat.le_of_ble_eq_true rfl) (fun _ => rfl) (fun _ => rfl) (mV_o (s' := (r1046.2.1, (r1046.2.2.1.1, (r1046.2.2.1.2.1 + 1), r1046.2.2.1.2.2), r1046.2.2.2)) rfl)) ?_
              refine xy_r (xw_aload_n dM_bound_199 rfl) ?_
              obtain ⟨r1050, er1050, hF⟩ := xg_b hF
              have hm1051 : m0 ≤ r1050.2.2.1.2.2.2.2.2.2.1 ∧ n0 ≤ r1050.2.2.1.2.2.2.2.2.2.2 := xy_le hm1047 (show r1046.2.2.2.1.2.2.2.2.2.2.1 ≤ r1050.2.2.1.2.2.2.2.2.2.1 ∧ r1046.2.2.2.1.2.2.2.2.2.2.2 ≤ r1050.2.2.1.2.2.2.2.2.2.2 from (CM_blanks (w := w) (h := h) hb (s := (r1046.2.1, (r1046.2.2.1.1, (r1046.2.2.1.2.1 + 1), r1046.2.2.1.2.2), r1046.2.2.2)) er1050).1)
              refine xy_V0 (nl := 1) (sm := r1046.2.2.2.1.2.2.2.2.2.2.1) (sn := r1046.2.2.2.1.2.2.2.2.2.2.2) (tm := r1050.2.2.1.2.2.2.2.2.2.1) (tn := r1050.2.2.1.2.2.2.2.2.2.2) (CM_blanks hb (s := (r1046.2.1, (r1046.2.2.1.1, (r1046.2.2.1.2.1 + 1), r1046.2.2.1.2.2), r1046.2.2.2)) er1050) rfl rfl hm1047 (fun _ => rfl) (fun _ => rfl) (fun _ => rfl) (fun _ => dM_bound_200) (fun _ R => kM_233 R) (fun _ => rfl) ⟨by omega, by omega⟩ rfl rfl rfl (fun _ => rfl) (Nat.le_of_ble_eq_true rfl) ?_
              refine xy_r (xw_aload_n dM_bound_203 rfl) ?_
              refine xy_r (xw_aload_n dM_bound_204 rfl) ?_
              refine xy_r (xw_get dM_bound_205 fM_221 rfl rfl) ?_
              rcases xg_o hF with ⟨r1053, er1053, hF⟩ | ⟨r1053, er1053, hF⟩
              · have hm1054 : m0 ≤ r1053.2.2.2.1.2.2.2.2.2.2.1 ∧ n0 ≤ r1053.2.2.2.1.2.2.2.2.2.2.2 := xy_le hm1051 (show r1050.2.2.1.2.2.2.2.2.2.1 ≤ r1053.2.2.2.1.2.2.2.2.2.2.1 ∧ r1050.2.2.1.2.2.2.2.2.2.2 ≤ r1053.2.2.2.1.2.2.2.2.2.2.2 from (CM_bad (w := w) (h := h) hb (s := r1050) er1053).1)
                refine xy_V0 (nl := 2) (sm := r1050.2.2.1.2.2.2.2.2.2.1) (sn := r1050.2.2.1.2.2.2.2.2.2.2) (tm := r1053.2.2.2.1.2.2.2.2.2.2.1) (tn := r1053.2.2.2.1.2.2.2.2.2.2.2) (CM_bad hb (s := r1050) er1053) rfl rfl hm1051 (fun _ => rfl) (fun _ => rfl) (fun _ => rfl) (fun _ => dM_bound_208) (fun _ R => kM_239 R) (fun _ => rfl) ⟨by omega, by omega⟩ rfl rfl rfl (fun _ => rfl) (Nat.le_of_ble_eq_true rfl) ?_
                obtain rfl := Option.some.inj hF
                exact xy_end (xw_return dM_bound_211 rfl (Nat.le_refl _) (Nat.le_refl _) ⟨rfl, rfl⟩)
              · subst hF
                exact xy_Vt (nl := 2) (sm := r1050.2.2.1.2.2.2.2.2.2.1) (sn := r1050.2.2.1.2.2.2.2.2.2.2) (tm := r1053.2.2.2.1.2.2.2.2.2.2.1) (tn := r1053.2.2.2.1.2.2.2.2.2.2.2) (CM_bad hb (s := r1050) er1053) rfl rfl hm1051 (fun _ => rfl) (fun _ => rfl) (fun _ => rfl) (fun _ => dM_bound_208) (fun _ R => kM_239 R) (fun _ => rfl) ⟨by omega, by omega⟩ rfl rfl rfl (fun _ => rfl) (Nat.le_of_ble_eq_true rfl) ⟨rfl, rfl⟩
          · subst hF
            exact xy_Vt (nl := 4) (sm := r973.2.2.2.1.2.2.2.2.2.2.1) (sn := r973.2.2.2.1.2.2.2.2.2.2.2) (tm := r1039.2.2.2.1.2.2.2.2.2.2.1) (tn := r1039.2.2.2.1.2.2.2.2.2.2.2) (hp.1 hb (s := (r973.2.1, (r973.2.2.1.1, r970.2.1.2.1, r973.2.2.1.2.2), r973.2.2.2)) er1039) rfl rfl hm974 (fun _ => rfl) (fun _ => rfl) (fun _ => rfl) (fun _ => dM_bound_174) (fun _ R => kM_249 R) (fun _ => rfl) ⟨by omega, by omega⟩ rfl rfl rfl (fun _ => rfl) (Nat.le_of_ble_eq_true rfl) ⟨rfl, rfl⟩
        · replace hF := xg_t c1037 hF
          refine xy_r (xw_iload_n dM_bound_86 rfl) ?_
          refine xy_brn (xw_if_ne 98 dM_bound_87 (by decide)) (fun c1056 => ?_) (fun c1056 => ?_)
          · replace hF := xg_f c1056 hF
            refine xy_r (xw_iload dM_bound_98 rfl) ?_
            refine xy_r (fun k9 => xw_if_ne 112 dM_bound_100 (by decide) (fun q => absurd q (show ¬ (¬ (0 : Int32) = 0) by decide)) (fun _ => k9)) ?_
            refine xy_r (xw_aload_n dM_bound_103 rfl) ?_
            refine xy_r (xw_iload dM_bound_104 rfl) ?_
            refine xy_r (xg_put dM_bound_106 fM_221 rfl (by decide) (Nat.le_of_ble_eq_true rfl) (fun _ => rfl) (fun _ => rfl) (mV_o (s' := (r973.2.1, (r973.2.2.1.1, r970.2.1.2.1, r973.2.2.1.2.2), r973.2.2.2)) rfl)) ?_
            refine xy_r (xw_goto 172 dM_bound_109 (by decide)) ?_
            refine xy_r (xw_aload_n dM_bound_172 rfl) ?_
            refine xy_r (xw_aload_n dM_bound_173 rfl) ?_
            rcases xg_o hF with ⟨r1058, er1058, hF⟩ | ⟨r1058, er1058, hF⟩
            · have hm1059 : m0 ≤ r1058.2.2.2.1.2.2.2.2.2.2.1 ∧ n0 ≤ r1058.2.2.2.1.2.2.2.2.2.2.2 := xy_le hm974 (show r973.2.2.2.1.2.2.2.2.2.2.1 ≤ r1058.2.2.2.1.2.2.2.2.2.2.1 ∧ r973.2.2.2.1.2.2.2.2.2.2.2 ≤ r1058.2.2.2.1.2.2.2.2.2.2.2 from ((hp.1 (h := h) hb (s := (r973.2.1, (r973.2.2.1.1, r970.2.1.2.1, r973.2.2.1.2.2), r973.2.2.2)) er1058)).1)
              refine xy_V1 (nl := 4) (sm := r973.2.2.2.1.2.2.2.2.2.2.1) (sn := r973.2.2.2.1.2.2.2.2.2.2.2) (tm := r1058.2.2.2.1.2.2.2.2.2.2.1) (tn := r1058.2.2.2.1.2.2.2.2.2.2.2) (hp.1 hb (s := (r973.2.1, (r973.2.2.1.1, r970.2.1.2.1, r973.2.2.1.2.2), r973.2.2.2)) er1058) rfl rfl hm974 (fun _ => rfl) (fun _ => rfl) (fun _ => rfl) (fun _ => dM_bound_174) (fun _ R => kM_249 R) (fun _ => rfl) ⟨by omega, by omega⟩ rfl rfl rfl (fun _ => rfl) (Nat.le_of_ble_eq_true rfl) ?_
              obtain ⟨g1061, hF⟩ := xg_g hF
              obtain ⟨r1062, er1062, hF⟩ := xg_b hF
              have hm1063 : m0 ≤ r1062.2.2.1.2.2.2.2.2.2.1 ∧ n0 ≤ r1062.2.2.1.2.2.2.2.2.2.2 := xy_le hm1059 (show r1058.2.2.2.1.2.2.2.2.2.2.1 ≤ r1062.2.2.1.2.2.2.2.2.2.1 ∧ r1058.2.2.2.1.2.2.2.2.2.2.2 ≤ r1062.2.2.1.2.2.2.2.2.2.2 from (CN_add (w := w) (h := h) hb (s := r1058.2) er1062).1)
              refine xy_V0 (nl := 2) (sm := r1058.2.2.2.1.2.2.2.2.2.2.1) (sn := r1058.2.2.2.1.2.2.2.2.2.2.2) (tm := r1062.2.2.1.2.2.2.2.2.2.1) (tn := r1062.2.2.1.2.2.2.2.2.2.2) (CN_add hb (s := r1058.2) er1062) rfl rfl hm1059 (fun _ => rfl) (fun _ => rfl) (fun _ => rfl) (fun _ => dM_bound_177) (fun _ R => kM_257 R) (fun _ => rfl) ⟨by omega, by omega⟩ rfl rfl (mV_n g1061) (fun _ => rfl) (Nat.le_of_ble_eq_true rfl) ?_
              refine xy_r (xw_aload_n dM_bound_180 rfl) ?_
              refine xy_r (xw_bipush (44) dM_bound_181 (by decide)) ?_
              obtain ⟨r1065, er1065, hF⟩ := xg_b hF
              have hm1066 : m0 ≤ r1065.2.2.2.1.2.2.2.2.2.2.1 ∧ n0 ≤ r1065.2.2.2.1.2.2.2.2.2.2.2 := xy_le hm1063 (show r1062.2.2.1.2.2.2.2.2.2.1 ≤ r1065.2.2.2.1.2.2.2.2.2.2.1 ∧ r1062.2.2.1.2.2.2.2.2.2.2 ≤ r1065.2.2.2.1.2.2.2.2.2.2.2 from (CM_next (w := w) (h := h) hb (s := r1062) er1065).1)
              refine xy_V1 (nl := 2) (sm := r1062.2.2.1.2.2.2.2.2.2.1) (sn := r1062.2.2.1.2.2.2.2.2.2.2) (tm := r1065.2.2.2.1.2.2.2.2.2.2.1) (tn := r1065.2.2.2.1.2.2.2.2.2.2.2) (CM_next hb (s := r1062) er1065) rfl rfl hm1063 (fun _ => rfl) (fun _ => rfl) (fun _ => rfl) (fun _ => dM_bound_183) (fun _ R => kM_236 R) (fun _ => rfl) ⟨by omega, by omega⟩ rfl rfl rfl (fun _ => rfl) (Nat.le_of_ble_eq_true rfl) ?_
              refine xy_brn (xw_if_eqB 211 dM_bound_186 (by decide)) (fun c1068 => ?_) (fun c1068 => ?_)
              · replace hF := xg_f c1068 hF
                obtain rfl := Option.some.inj hF
                exact xy_end (xw_return dM_bound_211 rfl (Nat.le_refl _) (Nat.le_refl _) ⟨rfl, rfl⟩)
              · replace hF := xg_t c1068 hF
                refine xy_r (xw_aload_n dM_bound_189 rfl) ?_
                refine xy_r (xw_dup_r dM_bound_190) ?_
                refine xy_r (xw_get dM_bound_191 fM_221 rfl rfl) ?_
                refine xy_r (xw_iconst (1) dM_bound_194 (by decide)) ?_
                refine xy_r (xw_iadd dM_bound_195) ?_
                refine xy_r (xg_put dM_bound_196 fM_221 rfl (by decide) (Nat.le_of_ble_eq_true rfl) (fun _ => rfl) (fun _ => rfl) (mV_o (s' := (r1065.2.1, (r1065.2.2.1.1, (r1065.2.2.1.2.1 + 1), r1065.2.2.1.2.2), r1065.2.2.2)) rfl)) ?_
                refine xy_r (xw_aload_n dM_bound_199 rfl) ?_
                obtain ⟨r1069, er1069, hF⟩ := xg_b hF
                have hm1070 : m0 ≤ r1069.2.2.1.2.2.2.2.2.2.1 ∧ n0 ≤ r1069.2.2.1.2.2.2.2.2.2.2 := xy_le hm1066 (show r1065.2.2.2.1.2.2.2.2.2.2.1 ≤ r1069.2.2.1.2.2.2.2.2.2.1 ∧ r1065.2.2.2.1.2.2.2.2.2.2.2 ≤ r1069.2.2.1.2.2.2.2.2.2.2 from (CM_blanks (w := w) (h := h) hb (s := (r1065.2.1, (r1065.2.2.1.1, (r1065.2.2.1.2.1 + 1), r1065.2.2.1.2.2), r1065.2.2.2)) er1069).1)
                refine xy_V0 (nl := 1) (sm := r1065.2.2.2.1.2.2.2.2.2.2.1) (sn := r1065.2.2.2.1.2.2.2.2.2.2.2) (tm := r1069.2.2.1.2.2.2.2.2.2.1) (tn := r1069.2.2.1.2.2.2.2.2.2.2) (CM_blanks hb (s := (r1065.2.1, (r1065.2.2.1.1, (r1065.2.2.1.2.1 + 1), r1065.2.2.1.2.2), r1065.2.2.2)) er1069) rfl rfl hm1066 (fun _ => rfl) (fun _ => rfl) (fun _ => rfl) (fun _ => dM_bound_200) (fun _ R => kM_233 R) (fun _ => rfl) ⟨by omega, by omega⟩ rfl rfl rfl (fun _ => rfl) (Nat.le_of_ble_eq_true rfl) ?_
                refine xy_r (xw_aload_n dM_bound_203 rfl) ?_
                refine xy_r (xw_aload_n dM_bound_204 rfl) ?_
                refine xy_r (xw_get dM_bound_205 fM_221 rfl rfl) ?_
                rcases xg_o hF with ⟨r1072, er1072, hF⟩ | ⟨r1072, er1072, hF⟩
                · have hm1073 : m0 ≤ r1072.2.2.2.1.2.2.2.2.2.2.1 ∧ n0 ≤ r1072.2.2.2.1.2.2.2.2.2.2.2 := xy_le hm1070 (show r1069.2.2.1.2.2.2.2.2.2.1 ≤ r1072.2.2.2.1.2.2.2.2.2.2.1 ∧ r1069.2.2.1.2.2.2.2.2.2.2 ≤ r1072.2.2.2.1.2.2.2.2.2.2.2 from (CM_bad (w := w) (h := h) hb (s := r1069) er1072).1)
                  refine xy_V0 (nl := 2) (sm := r1069.2.2.1.2.2.2.2.2.2.1) (sn := r1069.2.2.1.2.2.2.2.2.2.2) (tm := r1072.2.2.2.1.2.2.2.2.2.2.1) (tn := r1072.2.2.2.1.2.2.2.2.2.2.2) (CM_bad hb (s := r1069) er1072) rfl rfl hm1070 (fun _ => rfl) (fun _ => rfl) (fun _ => rfl) (fun _ => dM_bound_208) (fun _ R => kM_239 R) (fun _ => rfl) ⟨by omega, by omega⟩ rfl rfl rfl (fun _ => rfl) (Nat.le_of_ble_eq_true rfl) ?_
                  obtain rfl := Option.some.inj hF
                  exact xy_end (xw_return dM_bound_211 rfl (Nat.le_refl _) (Nat.le_refl _) ⟨rfl, rfl⟩)
                · subst hF
                  exact xy_Vt (nl := 2) (sm := r1069.2.2.1.2.2.2.2.2.2.1) (sn := r1069.2.2.1.2.2.2.2.2.2.2) (tm := r1072.2.2.2.1.2.2.2.2.2.2.1) (tn := r1072.2.2.2.1.2.2.2.2.2.2.2) (CM_bad hb (s := r1069) er1072) rfl rfl hm1070 (fun _ => rfl) (fun _ => rfl) (fun _ => rfl) (fun _ => dM_bound_208) (fun _ R => kM_239 R) (fun _ => rfl) ⟨by omega, by omega⟩ rfl rfl rfl (fun _ => rfl) (Nat.le_of_ble_eq_true rfl) ⟨rfl, rfl⟩
            · subst hF
              exact xy_Vt (nl := 4) (sm := r973.2.2.2.1.2.2.2.2.2.2.1) (sn := r973.2.2.2.1.2.2.2.2.2.2.2) (tm := r1058.2.2.2.1.2.2.2.2.2.2.1) (tn := r1058.2.2.2.1.2.2.2.2.2.2.2) (hp.1 hb (s := (r973.2.1, (r973.2.2.1.1, r970.2.1.2.1, r973.2.2.1.2.2), r973.2.2.2)) er1058) rfl rfl hm974 (fun _ => rfl) (fun _ => rfl) (fun _ => rfl) (fun _ => dM_bound_174) (fun _ R => kM_249 R) (fun _ => rfl) ⟨by omega, by omega⟩ rfl rfl rfl (fun _ => rfl) (Nat.le_of_ble_eq_true rfl) ⟨rfl, rfl⟩
          · replace hF := xg_t c1056 hF
            refine xy_r (xw_aload_n dM_bound_90 rfl) ?_
            refine xy_r (xw_aload_n dM_bound_91 rfl) ?_
            refine xy_r (xw_get dM_bound_92 fM_221 rfl rfl) ?_
            rcases xg_o hF with ⟨r1075, er1075, hF⟩ | ⟨r1075, er1075, hF⟩
            · have hm1076 : m0 ≤ r1075.2.2.2.1.2.2.2.2.2.2.1 ∧ n0 ≤ r1075.2.2.2.1.2.2.2.2.2.2.2 := xy_le hm974 (show r973.2.2.2.1.2.2.2.2.2.2.1 ≤ r1075.2.2.2.1.2.2.2.2.2.2.1 ∧ r973.2.2.2.1.2.2.2.2.2.2.2 ≤ r1075.2.2.2.1.2.2.2.2.2.2.2 from (CM_bad (w := w) (h := h) hb (s := r973.2) er1075).1)
              refine xy_V0 (nl := 2) (sm := r973.2.2.2.1.2.2.2.2.2.2.1) (sn := r973.2.2.2.1.2.2.2.2.2.2.2) (tm := r1075.2.2.2.1.2.2.2.2.2.2.1) (tn := r1075.2.2.2.1.2.2.2.2.2.2.2) (CM_bad hb (s := r973.2) er1075) rfl rfl hm974 (fun _ => rfl) (fun _ => rfl) (fun _ => rfl) (fun _ => dM_bound_95) (fun _ R => kM_239 R) (fun _ => rfl) ⟨by omega, by omega⟩ rfl rfl rfl (fun _ => rfl) (Nat.le_of_ble_eq_true rfl) ?_
              refine xy_r (xw_iload dM_bound_98 rfl) ?_
              refine xy_r (fun k9 => xw_if_ne 112 dM_bound_100 (by decide) (fun q => absurd q (show ¬ (¬ (0 : Int32) = 0) by decide)) (fun _ => k9)) ?_
              refine xy_r (xw_aload_n dM_bound_103 rfl) ?_
              refine xy_r (xw_iload dM_bound_104 rfl) ?_
              refine xy_r (xg_put dM_bound_106 fM_221 rfl (by decide) (Nat.le_of_ble_eq_true rfl) (fun _ => rfl) (fun _ => rfl) (mV_o (s' := (r1075.2.1, (r1075.2.2.1.1, r970.2.1.2.1, r1075.2.2.1.2.2), r1075.2.2.2)) rfl)) ?_
              refine xy_r (xw_goto 172 dM_bound_109 (by decide)) ?_
              refine xy_r (xw_aload_n dM_bound_172 rfl) ?_
              refine xy_r (xw_aload_n dM_bound_173 rfl) ?_
              rcases xg_o hF with ⟨r1079, er1079, hF⟩ | ⟨r1079, er1079, hF⟩
              · have hm1080 : m0 ≤ r1079.2.2.2.1.2.2.2.2.2.2.1 ∧ n0 ≤ r1079.2.2.2.1.2.2.2.2.2.2.2 := xy_le hm1076 (show r1075.2.2.2.1.2.2.2.2.2.2.1 ≤ r1079.2.2.2.1.2.2.2.2.2.2.1 ∧ r1075.2.2.2.1.2.2.2.2.2.2.2 ≤ r1079.2.2.2.1.2.2.2.2.2.2.2 from ((hp.1 (h := h) hb (s := (r1075.2.1, (r1075.2.2.1.1, r970.2.1.2.1, r1075.2.2.1.2.2), r1075.2.2.2)) er1079)).1)
                refine xy_V1 (nl := 4) (sm := r1075.2.2.2.1.2.2.2.2.2.2.1) (sn := r1075.2.2.2.1.2.2.2.2.2.2.2) (tm := r1079.2.2.2.1.2.2.2.2.2.2.1) (tn := r1079.2.2.2.1.2.2.2.2.2.2.2) (hp.1 hb (s := (r1075.2.1, (r1075.2.2.1.1, r970.2.1.2.1, r1075.2.2.1.2.2), r1075.2.2.2)) er1079) rfl rfl hm1076 (fun _ => rfl) (fun _ => rfl) (fun _ => rfl) (fun _ => dM_bound_174) (fun _ R => kM_249 R) (fun _ => rfl) ⟨by omega, by omega⟩ rfl rfl rfl (fun _ => rfl) (Nat.le_of_ble_eq_true rfl) ?_
                obtain ⟨g1082, hF⟩ := xg_g hF
                obtain ⟨r1083, er1083, hF⟩ := xg_b hF
                have hm1084 : m0 ≤ r1083.2.2.1.2.2.2.2.2.2.1 ∧ n0 ≤ r1083.2.2.1.2.2.2.2.2.2.2 := xy_le hm1080 (show r1079.2.2.2.1.2.2.2.2.2.2.1 ≤ r1083.2.2.1.2.2.2.2.2.2.1 ∧ r1079.2.2.2.1.2.2.2.2.2.2.2 ≤ r1083.2.2.1.2.2.2.2.2.2.2 from (CN_add (w := w) (h := h) hb (s := r1079.2) er1083).1)
                refine xy_V0 (nl := 2) (sm := r1079.2.2.2.1.2.2.2.2.2.2.1) (sn := r1079.2.2.2.1.2.2.2.2.2.2.2) (tm := r1083.2.2.1.2.2.2.2.2.2.1) (tn := r1083.2.2.1.2.2.2.2.2.2.2) (CN_add hb (s := r1079.2) er1083) rfl rfl hm1080 (fun _ => rfl) (fun _ => rfl) (fun _ => rfl) (fun _ => dM_bound_177) (fun _ R => kM_257 R) (fun _ => rfl) ⟨by omega, by omega⟩ rfl rfl (mV_n g1082) (fun _ => rfl) (Nat.le_of_ble_eq_true rfl) ?_
                refine xy_r (xw_aload_n dM_bound_180 rfl) ?_
                refine xy_r (xw_bipush (44) dM_bound_181 (by decide)) ?_
                obtain ⟨r1086, er1086, hF⟩ := xg_b hF
                have hm1087 : m0 ≤ r1086.2.2.2.1.2.2.2.2.2.2.1 ∧ n0 ≤ r1086.2.2.2.1.2.2.2.2.2.2.2 := xy_le hm1084 (show r1083.2.2.1.2.2.2.2.2.2.1 ≤ r1086.2.2.2.1.2.2.2.2.2.2.1 ∧ r1083.2.2.1.2.2.2.2.2.2.2 ≤ r1086.2.2.2.1.2.2.2.2.2.2.2 from (CM_next (w := w) (h := h) hb (s := r1083) er1086).1)
                refine xy_V1 (nl := 2) (sm := r1083.2.2.1.2.2.2.2.2.2.1) (sn := r1083.2.2.1.2.2.2.2.2.2.2) (tm := r1086.2.2.2.1.2.2.2.2.2.2.1) (tn := r1086.2.2.2.1.2.2.2.2.2.2.2) (CM_next hb (s := r1083) er1086) rfl rfl hm1084 (fun _ => rfl) (fun _ => rfl) (fun _ => rfl) (fun _ => dM_bound_183) (fun _ R => kM_236 R) (fun _ => rfl) ⟨by omega, by omega⟩ rfl rfl rfl (fun _ => rfl) (Nat.le_of_ble_eq_true rfl) ?_
                refine xy_brn (xw_if_eqB 211 dM_bound_186 (by decide)) (fun c1089 => ?_) (fun c1089 => ?_)
                · replace hF := xg_f c1089 hF
                  obtain rfl := Option.some.inj hF
                  exact xy_end (xw_return dM_bound_211 rfl (Nat.le_refl _) (Nat.le_refl _) ⟨rfl, rfl⟩)
                · replace hF := xg_t c1089 hF
                  refine xy_r (xw_aload_n dM_bound_189 rfl) ?_
                  refine xy_r (xw_dup_r dM_bound_190) ?_
                  refine xy_r (xw_get dM_bound_191 fM_221 rfl rfl) ?_
                  refine xy_r (xw_iconst (1) dM_bound_194 (by decide)) ?_
                  refine xy_r (xw_iadd dM_bound_195) ?_
                  refine xy_r (xg_put dM_bound_196 fM_221 rfl (by decide) (Nat.le_of_ble_eq_true rfl) (fun _ => rfl) (fun _ => rfl) (mV_o (s' := (r1086.2.1, (r1086.2.2.1.1, (r1086.2.2.1.2.1 + 1), r1086.2.2.1.2.2), r1086.2.2.2)) rfl)) ?_
                  refine xy_r (xw_aload_n dM_bound_199 rfl) ?_
                  obtain ⟨r1090, er1090, hF⟩ := xg_b hF
                  have hm1091 : m0 ≤ r1090.2.2.1.2.2.2.2.2.2.1 ∧ n0 ≤ r1090.2.2.1.2.2.2.2.2.2.2 := xy_le hm1087 (show r1086.2.2.2.1.2.2.2.2.2.2.1 ≤ r1090.2.2.1.2.2.2.2.2.2.1 ∧ r1086.2.2.2.1.2.2.2.2.2.2.2 ≤ r1090.2.2.1.2.2.2.2.2.2.2 from (CM_blanks (w := w) (h := h) hb (s := (r1086.2.1, (r1086.2.2.1.1, (r1086.2.2.1.2.1 + 1), r1086.2.2.1.2.2), r1086.2.2.2)) er1090).1)
                  refine xy_V0 (nl := 1) (sm := r1086.2.2.2.1.2.2.2.2.2.2.1) (sn := r1086.2.2.2.1.2.2.2.2.2.2.2) (tm := r1090.2.2.1.2.2.2.2.2.2.1) (tn := r1090.2.2.1.2.2.2.2.2.2.2) (CM_blanks hb (s := (r1086.2.1, (r1086.2.2.1.1, (r1086.2.2.1.2.1 + 1), r1086.2.2.1.2.2), r1086.2.2.2)) er1090) rfl rfl hm1087 (fun _ => rfl) (fun _ => rfl) (fun _ => rfl) (fun _ => dM_bound_200) (fun _ R => kM_233 R) (fun _ => rfl) ⟨by omega, by omega⟩ rfl rfl rfl (fun _ => rfl) (Nat.le_of_ble_eq_true rfl) ?_
                  refine xy_r (xw_aload_n dM_bound_203 rfl) ?_
                  refine xy_r (xw_aload_n dM_bound_204 rfl) ?_
                  refine xy_r (xw_get dM_bound_205 fM_221 rfl rfl) ?_
                  rcases xg_o hF with ⟨r1093, er1093, hF⟩ | ⟨r1093, er1093, hF⟩
                  · have hm1094 : m0 ≤ r1093.2.2.2.1.2.2.2.2.2.2.1 ∧ n0 ≤ r1093.2.2.2.1.2.2.2.2.2.2.2 := xy_le hm1091 (show r1090.2.2.1.2.2.2.2.2.2.1 ≤ r1093.2.2.2.1.2.2.2.2.2.2.1 ∧ r1090.2.2.1.2.2.2.2.2.2.2 ≤ r1093.2.2.2.1.2.2.2.2.2.2.2 from (CM_bad (w := w) (h := h) hb (s := r1090) er1093).1)
                    refine xy_V0 (nl := 2) (sm := r1090.2.2.1.2.2.2.2.2.2.1) (sn := r1090.2.2.1.2.2.2.2.2.2.2) (tm := r1093.2.2.2.1.2.2.2.2.2.2.1) (tn := r1093.2.2.2.1.2.2.2.2.2.2.2) (CM_bad hb (s := r1090) er1093) rfl rfl hm1091 (fun _ => rfl) (fun _ => rfl) (fun _ => rfl) (fun _ => dM_bound_208) (fun _ R => kM_239 R) (fun _ => rfl) ⟨by omega, by omega⟩ rfl rfl rfl (fun _ => rfl) (Nat.le_of_ble_eq_true rfl) ?_
                    obtain rfl := Option.some.inj hF
                    exact xy_end (xw_return dM_bound_211 rfl (Nat.le_refl _) (Nat.le_refl _) ⟨rfl, rfl⟩)
                  · subst hF
                    exact xy_Vt (nl := 2) (sm := r1090.2.2.1.2.2.2.2.2.2.1) (sn := r1090.2.2.1.2.2.2.2.2.2.2) (tm := r1093.2.2.2.1.2.2.2.2.2.2.1) (tn := r1093.2.2.2.1.2.2.2.2.2.2.2) (CM_bad hb (s := r1090) er1093) rfl rfl hm1091 (fun _ => rfl) (fun _ => rfl) (fun _ => rfl) (fun _ => dM_bound_208) (fun _ R => kM_239 R) (fun _ => rfl) ⟨by omega, by omega⟩ rfl rfl rfl (fun _ => rfl) (Nat.le_of_ble_eq_true rfl) ⟨rfl, rfl⟩
              · subst hF
                exact xy_Vt (nl := 4) (sm := r1075.2.2.2.1.2.2.2.2.2.2.1) (sn := r1075.2.2.2.1.2.2.2.2.2.2.2) (tm := r1079.2.2.2.1.2.2.2.2.2.2.1) (tn := r1079.2.2.2.1.2.2.2.2.2.2.2) (hp.1 hb (s := (r1075.2.1, (r1075.2.2.1.1, r970.2.1.2.1, r1075.2.2.1.2.2), r1075.2.2.2)) er1079) rfl rfl hm1076 (fun _ => rfl) (fun _ => rfl) (fun _ => rfl) (fun _ => dM_bound_174) (fun _ R => kM_249 R) (fun _ => rfl) ⟨by omega, by omega⟩ rfl rfl rfl (fun _ => rfl) (Nat.le_of_ble_eq_true rfl) ⟨rfl, rfl⟩
            · subst hF
              exact xy_Vt (nl := 2) (sm := r973.2.2.2.1.2.2.2.2.2.2.1) (sn := r973.2.2.2.1.2.2.2.2.2.2.2) (tm := r1075.2.2.2.1.2.2.2.2.2.2.1) (tn := r1075.2.2.2.1.2.2.2.2.2.2.2) (CM_bad hb (s := r973.2) er1075) rfl rfl hm974 (fun _ => rfl) (fun _ => rfl) (fun _ => rfl) (fun _ => dM_bound_95) (fun _ R => kM_239 R) (fun _ => rfl) ⟨by omega, by omega⟩ rfl rfl rfl (fun _ => rfl) (Nat.le_of_ble_eq_true rfl) ⟨rfl, rfl⟩
      · replace hF := xg_f c1036 hF
        refine xy_r (xw_aload_n dM_bound_33 rfl) ?_
        refine xy_r (xw_dup_r dM_bound_34) ?_
        refine xy_r (xw_get dM_bound_35 fM_221 rfl rfl) ?_
        refine xy_r (xw_aload_n dM_bound_38 rfl) ?_
        obtain ⟨r1096, er1096, hF⟩ := xg_b hF
        refine xy_q (fun hq => xg_V1 (k1 := _) (n1 := _) (CM_wordLength er1096) rfl rfl rfl dM_bound_39 (kM_317 _) (xZP (Nat.le_of_ble_eq_true rfl) (Nat.le_of_ble_eq_true rfl)) rfl rfl rfl rfl (Nat.le_of_ble_eq_true rfl) (Nat.le_refl _) (Nat.le_refl _) (Nat.sub_le_sub_right hq.1 _) (Nat.sub_le_sub_right hq.2 _)) ?_
        refine xy_r (xw_iadd dM_bound_42) ?_
        refine xy_r (xg_put dM_bound_43 fM_221 rfl (by decide) (Nat.le_of_ble_eq_true rfl) (fun _ => rfl) (fun _ => rfl) (mV_o (s' := (r973.2.1, (r973.2.2.1.1, (r973.2.2.1.2.1 + r1096), r973.2.2.1.2.2), r973.2.2.2)) rfl)) ?_
        refine xy_r (xw_aload_n dM_bound_46 rfl) ?_
        refine xy_r (xw_bipush (44) dM_bound_47 (by decide)) ?_
        obtain ⟨r1097, er1097, hF⟩ := xg_b hF
        have hm1098 : m0 ≤ r1097.2.2.2.1.2.2.2.2.2.2.1 ∧ n0 ≤ r1097.2.2.2.1.2.2.2.2.2.2.2 := xy_le hm974 (show r973.2.2.2.1.2.2.2.2.2.2.1 ≤ r1097.2.2.2.1.2.2.2.2.2.2.1 ∧ r973.2.2.2.1.2.2.2.2.2.2.2 ≤ r1097.2.2.2.1.2.2.2.2.2.2.2 from (CM_next (w := w) (h := h) hb (s := (r973.2.1, (r973.2.2.1.1, (r973.2.2.1.2.1 + r1096), r973.2.2.1.2.2), r973.2.2.2)) er1097).1)
        refine xy_V1 (nl := 2) (sm := r973.2.2.2.1.2.2.2.2.2.2.1) (sn := r973.2.2.2.1.2.2.2.2.2.2.2) (tm := r1097.2.2.2.1.2.2.2.2.2.2.1) (tn := r1097.2.2.2.1.2.2.2.2.2.2.2) (CM_next hb (s := (r973.2.1, (r973.2.2.1.1, (r973.2.2.1.2.1 + r1096), r973.2.2.1.2.2), r973.2.2.2)) er1097) rfl rfl hm974 (fun _ => rfl) (fun _ => rfl) (fun _ => rfl) (fun _ => dM_bound_49) (fun _ R => kM_236 R) (fun _ => rfl) ⟨by omega, by omega⟩ rfl rfl rfl (fun _ => rfl) (Nat.le_of_ble_eq_true rfl) ?_
        refine xy_r (xw_istore dM_bound_52 (Nat.le_of_ble_eq_true rfl)) ?_
        refine xy_r (xw_Ln (L' := [some (.ref 2000), some (.ref (xn l1)), some (.int l2), some (.int l3), some (.int r970.2.1.2.1), some (.long r973.1), none, some (.int (xb r1097.1)), none]) rfl) ?_
        refine xy_r (xw_iload dM_bound_54 rfl) ?_
        refine xy_br (xw_if_neB 98 dM_bound_56 (by decide)) (fun c1100 => ?_) (fun c1100 => ?_)
        · replace hF := xg_t c1100 hF
          refine xy_r (xw_iload dM_bound_98 rfl) ?_
          refine xy_br (xw_if_neB 112 dM_bound_100 (by decide)) (fun c1101 => ?_) (fun c1101 => ?_)
          · replace hF := xg_t c1101 hF
            refine xy_r (xw_aload_n dM_bound_112 rfl) ?_
            refine xy_r (xw_bipush (6) dM_bound_113 (by decide)) ?_
            obtain ⟨r1102, er1102, hF⟩ := xg_b hF
            have hm1103 : m0 ≤ r1102.2.2.2.1.2.2.2.2.2.2.1 ∧ n0 ≤ r1102.2.2.2.1.2.2.2.2.2.2.2 := xy_le hm1098 (show r1097.2.2.2.1.2.2.2.2.2.2.1 ≤ r1102.2.2.2.1.2.2.2.2.2.2.1 ∧ r1097.2.2.2.1.2.2.2.2.2.2.2 ≤ r1102.2.2.2.1.2.2.2.2.2.2.2 from (CM_node (w := w) (h := h) hb (s := r1097.2) er1102).1)
            refine xy_V1 (nl := 4) (sm := r1097.2.2.2.1.2.2.2.2.2.2.1) (sn := r1097.2.2.2.1.2.2.2.2.2.2.2) (tm := r1102.2.2.2.1.2.2.2.2.2.2.1) (tn := r1102.2.2.2.1.2.2.2.2.2.2.2) (CM_node hb (s := r1097.2) er1102) rfl rfl hm1098 (fun _ => rfl) (fun _ => rfl) (fun _ => rfl) (fun _ => dM_bound_115) (fun _ R => kM_253 R) (fun _ => rfl) ⟨by omega, by omega⟩ rfl rfl rfl (fun _ => rfl) (Nat.le_of_ble_eq_true rfl) ?_
            refine xy_r (xw_astore dM_bound_118 (Nat.le_of_ble_eq_true rfl)) ?_
            refine xy_r (xw_Ln (L' := [some (.ref 2000), some (.ref (xn l1)), some (.int l2), some (.int l3), some (.int r970.2.1.2.1), some (.long r973.1), none, some (.int (xb r1097.1)), some (.ref (xn r1102.1))]) rfl) ?_
            refine xy_r (xw_aload dM_bound_120 rfl) ?_
            refine xy_r (xw_lload dM_bound_122 rfl) ?_
            obtain ⟨g1105, hF⟩ := xg_g hF
            refine xy_r (xg_put dM_bound_124 fM_201 (mV_n g1105) (xn_le _) (Nat.le_of_ble_eq_true rfl) (fun _ => rfl) (fun _ => rfl) (mV_e (s' := (r1102.2.1, r1102.2.2.1, (r1102.2.2.2.1.1, r1102.2.2.2.1.2.1, r1102.2.2.2.1.2.2.1, r1102.2.2.2.1.2.2.2.1, r1102.2.2.2.1.2.2.2.2.1, (va_up r1102.2.2.2.1.2.2.2.2.2.1 r1102.1 (nNumber (r1102.2.2.2.1.2.2.2.2.2.1 r1102.1) r973.1)), r1102.2.2.2.1.2.2.2.2.2.2), r1102.2.2.2.2)) (mV_pn (q := (nNumber (r1102.2.2.2.1.2.2.2.2.2.1 r1102.1) r973.1)) g1105) rfl)) ?_
            refine xy_r (xw_aload_n dM_bound_127 rfl) ?_
            refine xy_r (xw_aload dM_bound_128 rfl) ?_
            obtain ⟨g1106, hF⟩ := xg_g hF
            obtain ⟨r1107, er1107, hF⟩ := xg_b hF
            have hm1108 : m0 ≤ r1107.2.2.1.2.2.2.2.2.2.1 ∧ n0 ≤ r1107.2.2.1.2.2.2.2.2.2.2 := xy_le hm1103 (show r1102.2.2.2.1.2.2.2.2.2.2.1 ≤ r1107.2.2.1.2.2.2.2.2.2.1 ∧ r1102.2.2.2.1.2.2.2.2.2.2.2 ≤ r1107.2.2.1.2.2.2.2.2.2.2 from (CN_add (w := w) (h := h) hb (s := (r1102.2.1, r1102.2.2.1, (r1102.2.2.2.1.1, r1102.2.2.2.1.2.1, r1102.2.2.2.1.2.2.1, r1102.2.2.2.1.2.2.2.1, r1102.2.2.2.1.2.2.2.2.1, (va_up r1102.2.2.2.1.2.2.2.2.2.1 r1102.1 (nNumber (r1102.2.2.2.1.2.2.2.2.2.1 r1102.1) r973.1)), r1102.2.2.2.1.2.2.2.2.2.2), r1102.2.2.2.2)) er1107).1)
            refine xy_V0 (nl := 2) (sm := r1102.2.2.2.1.2.2.2.2.2.2.1) (sn := r1102.2.2.2.1.2.2.2.2.2.2.2) (tm := r1107.2.2.1.2.2.2.2.2.2.1) (tn := r1107.2.2.1.2.2.2.2.2.2.2) (CN_add hb (s := (r1102.2.1, r1102.2.2.1, (r1102.2.2.2.1.1, r1102.2.2.2.1.2.1, r1102.2.2.2.1.2.2.1, r1102.2.2.2.1.2.2.2.1, r1102.2.2.2.1.2.2.2.2.1, (va_up r1102.2.2.2.1.2.2.2.2.2.1 r1102.1 (nNumber (r1102.2.2.2.1.2.2.2.2.2.1 r1102.1) r973.1)), r1102.2.2.2.1.2.2.2.2.2.2), r1102.2.2.2.2)) er1107) rfl rfl hm1103 (fun _ => rfl) (fun _ => rfl) (fun _ => rfl) (fun _ => dM_bound_130) (fun _ R => kM_257 R) (fun _ => rfl) ⟨by omega, by omega⟩ rfl rfl (mV_n g1106) (fun _ => rfl) (Nat.le_of_ble_eq_true rfl) ?_
            refine xy_r (xw_iinc ((l3 + 1)) dM_bound_133 rfl rfl (Nat.le_of_ble_eq_true rfl)) ?_
            refine xy_r (xw_Ln (L' := [some (.ref 2000), some (.ref (xn l1)), some (.int l2), some (.int (l3 + 1)), some (.int r970.2.1.2.1), some (.long r973.1), none, some (.int (xb r1097.1)), some (.ref (xn r1102.1))]) rfl) ?_
            refine xy_r (xw_aload_n dM_bound_136 rfl) ?_
            refine xy_r (xw_dup_r dM_bound_137) ?_
            refine xy_r (xw_get dM_bound_138 fM_221 rfl rfl) ?_
            refine xy_r (xw_iconst (1) dM_bound_141 (by decide)) ?_
            refine xy_r (xw_iadd dM_bound_142) ?_
            refine xy_r (xg_put dM_bound_143 fM_221 rfl (by decide) (Nat.le_of_ble_eq_true rfl) (fun _ => rfl) (fun _ => rfl) (mV_o (s' := (r1107.1, (r1107.2.1.1, (r1107.2.1.2.1 + 1), r1107.2.1.2.2), r1107.2.2)) rfl)) ?_
            refine xy_r (xw_iload_n dM_bound_146 rfl) ?_
            refine xy_r (xw_bipush (35) dM_bound_147 (by decide)) ?_
            refine xy_brn (xw_icmp_ne 155 dM_bound_149 (by decide)) (fun c1110 => ?_) (fun c1110 => ?_)
            · replace hF := xg_f c1110 hF
              refine xy_r (xw_aload_n dM_bound_155 rfl) ?_
              refine xy_r (xw_aload_n dM_bound_156 rfl) ?_
              rcases xg_o hF with ⟨r1111, er1111, hF⟩ | ⟨r1111, er1111, hF⟩
              · have hm1112 : m0 ≤ r1111.2.2.2.1.2.2.2.2.2.2.1 ∧ n0 ≤ r1111.2.2.2.1.2.2.2.2.2.2.2 := xy_le hm1108 (show r1107.2.2.1.2.2.2.2.2.2.1 ≤ r1111.2.2.2.1.2.2.2.2.2.2.1 ∧ r1107.2.2.1.2.2.2.2.2.2.2 ≤ r1111.2.2.2.1.2.2.2.2.2.2.2 from ((hp.1 (h := h) hb (s := (r1107.1, (r1107.2.1.1, (r1107.2.1.2.1 + 1), r1107.2.1.2.2), r1107.2.2)) er1111)).1)
                refine xy_V1 (nl := 4) (sm := r1107.2.2.1.2.2.2.2.2.2.1) (sn := r1107.2.2.1.2.2.2.2.2.2.2) (tm := r1111.2.2.2.1.2.2.2.2.2.2.1) (tn := r1111.2.2.2.1.2.2.2.2.2.2.2) (hp.1 hb (s := (r1107.1, (r1107.2.1.1, (r1107.2.1.2.1 + 1), r1107.2.1.2.2), r1107.2.2)) er1111) rfl rfl hm1108 (fun _ => rfl) (fun _ => rfl) (fun _ => rfl) (fun _ => dM_bound_157) (fun _ R => kM_249 R) (fun _ => rfl) ⟨by omega, by omega⟩ rfl rfl rfl (fun _ => rfl) (Nat.le_of_ble_eq_true rfl) ?_
                obtain ⟨g1114, hF⟩ := xg_g hF
                obtain ⟨r1115, er1115, hF⟩ := xg_b hF
                have hm1116 : m0 ≤ r1115.2.2.1.2.2.2.2.2.2.1 ∧ n0 ≤ r1115.2.2.1.2.2.2.2.2.2.2 := xy_le hm1112 (show r1111.2.2.2.1.2.2.2.2.2.2.1 ≤ r1115.2.2.1.2.2.2.2.2.2.1 ∧ r1111.2.2.2.1.2.2.2.2.2.2.2 ≤ r1115.2.2.1.2.2.2.2.2.2.2 from (CN_add (w := w) (h := h) hb (s := r1111.2) er1115).1)
                refine xy_V0 (nl := 2) (sm := r1111.2.2.2.1.2.2.2.2.2.2.1) (sn := r1111.2.2.2.1.2.2.2.2.2.2.2) (tm := r1115.2.2.1.2.2.2.2.2.2.1) (tn := r1115.2.2.1.2.2.2.2.2.2.2) (CN_add hb (s := r1111.2) er1115) rfl rfl hm1112 (fun _ => rfl) (fun _ => rfl) (fun _ => rfl) (fun _ => dM_bound_160) (fun _ R => kM_257 R) (fun _ => rfl) ⟨by omega, by omega⟩ rfl rfl (mV_n g1114) (fun _ => rfl) (Nat.le_of_ble_eq_true rfl) ?_
                refine xy_r (xw_aload_n dM_bound_163 rfl) ?_
                refine xy_r (xw_bipush (44) dM_bound_164 (by decide)) ?_
                rcases xg_o hF with ⟨r1118, er1118, hF⟩ | ⟨r1118, er1118, hF⟩
                · have hm1119 : m0 ≤ r1118.2.2.2.1.2.2.2.2.2.2.1 ∧ n0 ≤ r1118.2.2.2.1.2.2.2.2.2.2.2 := xy_le hm1116 (show r1115.2.2.1.2.2.2.2.2.2.1 ≤ r1118.2.2.2.1.2.2.2.2.2.2.1 ∧ r1115.2.2.1.2.2.2.2.2.2.2 ≤ r1118.2.2.2.1.2.2.2.2.2.2.2 from (CM_expect (w := w) (h := h) hb (s := r1115) er1118).1)
                  refine xy_V0 (nl := 2) (sm := r1115.2.2.1.2.2.2.2.2.2.1) (sn := r1115.2.2.1.2.2.2.2.2.2.2) (tm := r1118.2.2.2.1.2.2.2.2.2.2.1) (tn := r1118.2.2.2.1.2.2.2.2.2.2.2) (CM_expect hb (s := r1115) er1118) rfl rfl hm1116 (fun _ => rfl) (fun _ => rfl) (fun _ => rfl) (fun _ => dM_bound_166) (fun _ R => kM_246 R) (fun _ => rfl) ⟨by omega, by omega⟩ rfl rfl rfl (fun _ => rfl) (Nat.le_of_ble_eq_true rfl) ?_
                  refine xy_r (xw_goto 2 dM_bound_169 (by decide)) ?_
                  refine xy_r (xw_drop (L' := [some (.ref 2000), some (.ref (xn l1)), some (.int l2), some (.int (l3 + 1)), none, none, none, none, none]) ⟨rfl, ⟨rfl, ⟨rfl, ⟨rfl, trivial⟩⟩⟩⟩) ?_
                  exact ih (s := r1118.2) hm1119 hF
                · subst hF
                  exact xy_Vt (nl := 2) (sm := r1115.2.2.1.2.2.2.2.2.2.1) (sn := r1115.2.2.1.2.2.2.2.2.2.2) (tm := r1118.2.2.2.1.2.2.2.2.2.2.1) (tn := r1118.2.2.2.1.2.2.2.2.2.2.2) (CM_expect hb (s := r1115) er1118) rfl rfl hm1116 (fun _ => rfl) (fun _ => rfl) (fun _ => rfl) (fun _ => dM_bound_166) (fun _ R => kM_246 R) (fun _ => rfl) ⟨by omega, by omega⟩ rfl rfl rfl (fun _ => rfl) (Nat.le_of_ble_eq_true rfl) ⟨rfl, rfl⟩
              · subst hF
                exact xy_Vt (nl := 4) (sm := r1107.2.2.1.2.2.2.2.2.2.1) (sn := r1107.2.2.1.2.2.2.2.2.2.2) (tm := r1111.2.2.2.1.2.2.2.2.2.2.1) (tn := r1111.2.2.2.1.2.2.2.2.2.2.2) (hp.1 hb (s := (r1107.1, (r1107.2.1.1, (r1107.2.1.2.1 + 1), r1107.2.1.2.2), r1107.2.2)) er1111) rfl rfl hm1108 (fun _ => rfl) (fun _ => rfl) (fun _ => rfl) (fun _ => dM_bound_157) (fun _ R => kM_249 R) (fun _ => rfl) ⟨by omega, by omega⟩ rfl rfl rfl (fun _ => rfl) (Nat.le_of_ble_eq_true rfl) ⟨rfl, rfl⟩
            · replace hF := xg_t c1110 hF
              refine xy_r (xw_goto 2 dM_bound_152 (by decide)) ?_
              refine xy_r (xw_drop (L' := [some (.ref 2000), some (.ref (xn l1)), some (.int l2), some (.int (l3 + 1)), none, none, none, none, none]) ⟨rfl, ⟨rfl, ⟨rfl, ⟨rfl, trivial⟩⟩⟩⟩) ?_
              exact ih (s := (r1107.1, (r1107.2.1.1, (r1107.2.1.2.1 + 1), r1107.2.1.2.2), r1107.2.2)) hm1108 hF
          · replace hF := xg_f c1101 hF
            refine xy_r (xw_aload_n dM_bound_103 rfl) ?_
            refine xy_r (xw_iload dM_bound_104 rfl) ?_
            refine xy_r (xg_put dM_bound_106 fM_221 rfl (by decide) (Nat.le_of_ble_eq_true rfl) (fun _ => rfl) (fun _ => rfl) (mV_o (s' := (r1097.2.1, (r1097.2.2.1.1, r970.2.1.2.1, r1097.2.2.1.2.2), r1097.2.2.2)) rfl)) ?_
            refine xy_r (xw_goto 172 dM_bound_109 (by decide)) ?_
            refine xy_r (xw_aload_n dM_bound_172 rfl) ?_
            refine xy_r (xw_aload_n dM_bound_173 rfl) ?_
            rcases xg_o hF with ⟨r1121, er1121, hF⟩ | ⟨r1121, er1121, hF⟩
            · have hm1122 : m0 ≤ r1121.2.2.2.1.2.2.2.2.2.2.1 ∧ n0 ≤ r1121.2.2.2.1.2.2.2.2.2.2.2 := xy_le hm1098 (show r1097.2.2.2.1.2.2.2.2.2.2.1 ≤ r1121.2.2.2.1.2.2.2.2.2.2.1 ∧ r1097.2.2.2.1.2.2.2.2.2.2.2 ≤ r1121.2.2.2.1.2.2.2.2.2.2.2 from ((hp.1 (h := h) hb (s := (r1097.2.1, (r1097.2.2.1.1, r970.2.1.2.1, r1097.2.2.1.2.2), r1097.2.2.2)) er1121)).1)
              refine xy_V1 (nl := 4) (sm := r1097.2.2.2.1.2.2.2.2.2.2.1) (sn := r1097.2.2.2.1.2.2.2.2.2.2.2) (tm := r1121.2.2.2.1.2.2.2.2.2.2.1) (tn := r1121.2.2.2.1.2.2.2.2.2.2.2) (hp.1 hb (s := (r1097.2.1, (r1097.2.2.1.1, r970.2.1.2.1, r1097.2.2.1.2.2), r1097.2.2.2)) er1121) rfl rfl hm1098 (fun _ => rfl) (fun _ => rfl) (fun _ => rfl) (fun _ => dM_bound_174) (fun _ R => kM_249 R) (fun _ => rfl) ⟨by omega, by omega⟩ rfl rfl rfl (fun _ => rfl) (Nat.le_of_ble_eq_true rfl) ?_
              obtain ⟨g1124, hF⟩ := xg_g hF
              obtain ⟨r1125, er1125, hF⟩ := xg_b hF
              have hm1126 : m0 ≤ r1125.2.2.1.2.2.2.2.2.2.1 ∧ n0 ≤ r1125.2.2.1.2.2.2.2.2.2.2 := xy_le hm1122 (show r1121.2.2.2.1.2.2.2.2.2.2.1 ≤ r1125.2.2.1.2.2.2.2.2.2.1 ∧ r1121.2.2.2.1.2.2.2.2.2.2.2 ≤ r1125.2.2.1.2.2.2.2.2.2.2 from (CN_add (w := w) (h := h) hb (s := r1121.2) er1125).1)
              refine xy_V0 (nl := 2) (sm := r1121.2.2.2.1.2.2.2.2.2.2.1) (sn := r1121.2.2.2.1.2.2.2.2.2.2.2) (tm := r1125.2.2.1.2.2.2.2.2.2.1) (tn := r1125.2.2.1.2.2.2.2.2.2.2) (CN_add hb (s := r1121.2) er1125) rfl rfl hm1122 (fun _ => rfl) (fun _ => rfl) (fun _ => rfl) (fun _ => dM_bound_177) (fun _ R => kM_257 R) (fun _ => rfl) ⟨by omega, by omega⟩ rfl rfl (mV_n g1124) (fun _ => rfl) (Nat.le_of_ble_eq_true rfl) ?_
              refine xy_r (xw_aload_n dM_bound_180 rfl) ?_
              refine xy_r (xw_bipush (44) dM_bound_181 (by decide)) ?_
              obtain ⟨r1128, er1128, hF⟩ := xg_b hF
              have hm1129 : m0 ≤ r1128.2.2.2.1.2.2.2.2.2.2.1 ∧ n0 ≤ r1128.2.2.2.1.2.2.2.2.2.2.2 := xy_le hm1126 (show r1125.2.2.1.2.2.2.2.2.2.1 ≤ r1128.2.2.2.1.2.2.2.2.2.2.1 ∧ r1125.2.2.1.2.2.2.2.2.2.2 ≤ r1128.2.2.2.1.2.2.2.2.2.2.2 from (CM_next (w := w) (h := h) hb (s := r1125) er1128).1)
              refine xy_V1 (nl := 2) (sm := r1125.2.2.1.2.2.2.2.2.2.1) (sn := r1125.2.2.1.2.2.2.2.2.2.2) (tm := r1128.2.2.2.1.2.2.2.2.2.2.1) (tn := r1128.2.2.2.1.2.2.2.2.2.2.2) (CM_next hb (s := r1125) er1128) rfl rfl hm1126 (fun _ => rfl) (fun _ => rfl) (fun _ => rfl) (fun _ => dM_bound_183) (fun _ R => kM_236 R) (fun _ => rfl) ⟨by omega, by omega⟩ rfl rfl rfl (fun _ => rfl) (Nat.le_of_ble_eq_true rfl) ?_
              refine xy_brn (xw_if_eqB 211 dM_bound_186 (by decide)) (fun c1131 => ?_) (fun c1131 => ?_)
              · replace hF := xg_f c1131 hF
                obtain rfl := Option.some.inj hF
                exact xy_end (xw_return dM_bound_211 rfl (Nat.le_refl _) (Nat.le_refl _) ⟨rfl, rfl⟩)
              · replace hF := xg_t c1131 hF
                refine xy_r (xw_aload_n dM_bound_189 rfl) ?_
                refine xy_r (xw_dup_r dM_bound_190) ?_
                refine xy_r (xw_get dM_bound_191 fM_221 rfl rfl) ?_
                refine xy_r (xw_iconst (1) dM_bound_194 (by decide)) ?_
                refine xy_r (xw_iadd dM_bound_195) ?_
                refine xy_r (xg_put dM_bound_196 fM_221 rfl (by decide) (Nat.le_of_ble_eq_true rfl) (fun _ => rfl) (fun _ => rfl) (mV_o (s' := (r1128.2.1, (r1128.2.2.1.1, (r1128.2.2.1.2.1 + 1), r1128.2.2.1.2.2), r1128.2.2.2)) rfl)) ?_
                refine xy_r (xw_aload_n dM_bound_199 rfl) ?_
                obtain ⟨r1132, er1132, hF⟩ := xg_b hF
                have hm1133 : m0 ≤ r1132.2.2.1.2.2.2.2.2.2.1 ∧ n0 ≤ r1132.2.2.1.2.2.2.2.2.2.2 := xy_le hm1129 (show r1128.2.2.2.1.2.2.2.2.2.2.1 ≤ r1132.2.2.1.2.2.2.2.2.2.1 ∧ r1128.2.2.2.1.2.2.2.2.2.2.2 ≤ r1132.2.2.1.2.2.2.2.2.2.2 from (CM_blanks (w := w) (h := h) hb (s := (r1128.2.1, (r1128.2.2.1.1, (r1128.2.2.1.2.1 + 1), r1128.2.2.1.2.2), r1128.2.2.2)) er1132).1)
                refine xy_V0 (nl := 1) (sm := r1128.2.2.2.1.2.2.2.2.2.2.1) (sn := r1128.2.2.2.1.2.2.2.2.2.2.2) (tm := r1132.2.2.1.2.2.2.2.2.2.1) (tn := r1132.2.2.1.2.2.2.2.2.2.2) (CM_blanks hb (s := (r1128.2.1, (r1128.2.2.1.1, (r1128.2.2.1.2.1 + 1), r1128.2.2.1.2.2), r1128.2.2.2)) er1132) rfl rfl hm1129 (fun _ => rfl) (fun _ => rfl) (fun _ => rfl) (fun _ => dM_bound_200) (fun _ R => kM_233 R) (fun _ => rfl) ⟨by omega, by omega⟩ rfl rfl rfl (fun _ => rfl) (Nat.le_of_ble_eq_true rfl) ?_
                refine xy_r (xw_aload_n dM_bound_203 rfl) ?_
                refine xy_r (xw_aload_n dM_bound_204 rfl) ?_
                refine xy_r (xw_get dM_bound_205 fM_221 rfl rfl) ?_
                rcases xg_o hF with ⟨r1135, er1135, hF⟩ | ⟨r1135, er1135, hF⟩
                · have hm1136 : m0 ≤ r1135.2.2.2.1.2.2.2.2.2.2.1 ∧ n0 ≤ r1135.2.2.2.1.2.2.2.2.2.2.2 := xy_le hm1133 (show r1132.2.2.1.2.2.2.2.2.2.1 ≤ r1135.2.2.2.1.2.2.2.2.2.2.1 ∧ r1132.2.2.1.2.2.2.2.2.2.2 ≤ r1135.2.2.2.1.2.2.2.2.2.2.2 from (CM_bad (w := w) (h := h) hb (s := r1132) er1135).1)
                  refine xy_V0 (nl := 2) (sm := r1132.2.2.1.2.2.2.2.2.2.1) (sn := r1132.2.2.1.2.2.2.2.2.2.2) (tm := r1135.2.2.2.1.2.2.2.2.2.2.1) (tn := r1135.2.2.2.1.2.2.2.2.2.2.2) (CM_bad hb (s := r1132) er1135) rfl rfl hm1133 (fun _ => rfl) (fun _ => rfl) (fun _ => rfl) (fun _ => dM_bound_208) (fun _ R => kM_239 R) (fun _ => rfl) ⟨by omega, by omega⟩ rfl rfl rfl (fun _ => rfl) (Nat.le_of_ble_eq_true rfl) ?_
                  obtain rfl := Option.some.inj hF
                  exact xy_end (xw_return dM_bound_211 rfl (Nat.le_refl _) (Nat.le_refl _) ⟨rfl, rfl⟩)
                · subst hF
                  exact xy_Vt (nl := 2) (sm := r1132.2.2.1.2.2.2.2.2.2.1) (sn := r1132.2.2.1.2.2.2.2.2.2.2) (tm := r1135.2.2.2.1.2.2.2.2.2.2.1) (tn := r1135.2.2.2.1.2.2.2.2.2.2.2) (CM_bad hb (s := r1132) er1135) rfl rfl hm1133 (fun _ => rfl) (fun _ => rfl) (fun _ => rfl) (fun _ => dM_bound_208) (fun _ R => kM_239 R) (fun _ => rfl) ⟨by omega, by omega⟩ rfl rfl rfl (fun _ => rfl) (Nat.le_of_ble_eq_true rfl) ⟨rfl, rfl⟩
            · subst hF
              exact xy_Vt (nl := 4) (sm := r1097.2.2.2.1.2.2.2.2.2.2.1) (sn := r1097.2.2.2.1.2.2.2.2.2.2.2) (tm := r1121.2.2.2.1.2.2.2.2.2.2.1) (tn := r1121.2.2.2.1.2.2.2.2.2.2.2) (hp.1 hb (s := (r1097.2.1, (r1097.2.2.1.1, r970.2.1.2.1, r1097.2.2.1.2.2), r1097.2.2.2)) er1121) rfl rfl hm1098 (fun _ => rfl) (fun _ => rfl) (fun _ => rfl) (fun _ => dM_bound_174) (fun _ R => kM_249 R) (fun _ => rfl) ⟨by omega, by omega⟩ rfl rfl rfl (fun _ => rfl) (Nat.le_of_ble_eq_true rfl) ⟨rfl, rfl⟩
        · replace hF := xg_f c1100 hF
          refine xy_r (xw_iload_n dM_bound_59 rfl) ?_
          refine xy_r (xw_bipush (34) dM_bound_60 (by decide)) ?_
          refine xy_brn (xw_icmp_ne 98 dM_bound_62 (by decide)) (fun c1138 => ?_) (fun c1138 => ?_)
          · replace hF := xg_f c1138 hF
            refine xy_r (xw_iload dM_bound_98 rfl) ?_
            refine xy_br (xw_if_neB 112 dM_bound_100 (by decide)) (fun c1139 => ?_) (fun c1139 => ?_)
            · replace hF := xg_t c1139 hF
              refine xy_r (xw_aload_n dM_bound_112 rfl) ?_
              refine xy_r (xw_bipush (6) dM_bound_113 (by decide)) ?_
              obtain ⟨r1140, er1140, hF⟩ := xg_b hF
              have hm1141 : m0 ≤ r1140.2.2.2.1.2.2.2.2.2.2.1 ∧ n0 ≤ r1140.2.2.2.1.2.2.2.2.2.2.2 := xy_le hm1098 (show r1097.2.2.2.1.2.2.2.2.2.2.1 ≤ r1140.2.2.2.1.2.2.2.2.2.2.1 ∧ r1097.2.2.2.1.2.2.2.2.2.2.2 ≤ r1140.2.2.2.1.2.2.2.2.2.2.2 from (CM_node (w := w) (h := h) hb (s := r1097.2) er1140).1)
              refine xy_V1 (nl := 4) (sm := r1097.2.2.2.1.2.2.2.2.2.2.1) (sn := r1097.2.2.2.1.2.2.2.2.2.2.2) (tm := r1140.2.2.2.1.2.2.2.2.2.2.1) (tn := r1140.2.2.2.1.2.2.2.2.2.2.2) (CM_node hb (s := r1097.2) er1140) rfl rfl hm1098 (fun _ => rfl) (fun _ => rfl) (fun _ => rfl) (fun _ => dM_bound_115) (fun _ R => kM_253 R) (fun _ => rfl) ⟨by omega, by omega⟩ rfl rfl rfl (fun _ => rfl) (Nat.le_of_ble_eq_true rfl) ?_
              refine xy_r (xw_astore dM_bound_118 (Nat.le_of_ble_eq_true rfl)) ?_
              refine xy_r (xw_Ln (L' := [some (.ref 2000), some (.ref (xn l1)), some (.int l2), some (.int l3), some (.int r970.2.1.2.1), some (.long r973.1), none, some (.int (xb r1097.1)), some (.ref (xn r1140.1))]) rfl) ?_
              refine xy_r (xw_aload dM_bound_120 rfl) ?_
              refine xy_r (xw_lload dM_bound_122 rfl) ?_
              obtain ⟨g1143, hF⟩ := xg_g hF
              refine xy_r (xg_put dM_bound_124 fM_201 (mV_n g1143) (xn_le _) (Nat.le_of_ble_eq_true rfl) (fun _ => rfl) (fun _ => rfl) (mV_e (s' := (r1140.2.1, r1140.2.2.1, (r1140.2.2.2.1.1, r1140.2.2.2.1.2.1, r1140.2.2.2.1.2.2.1, r1140.2.2.2.1.2.2.2.1, r1140.2.2.2.1.2.2.2.2.1, (va_up r1140.2.2.2.1.2.2.2.2.2.1 r1140.1 (nNumber (r1140.2.2.2.1.2.2.2.2.2.1 r1140.1) r973.1)), r1140.2.2.2.1.2.2.2.2.2.2), r1140.2.2.2.2)) (mV_pn (q := (nNumber (r1140.2.2.2.1.2.2.2.2.2.1 r1140.1) r973.1)) g1143) rfl)) ?_
              refine xy_r (xw_aload_n dM_bound_127 rfl) ?_
              refine xy_r (xw_aload dM_bound_128 rfl) ?_
              obtain ⟨g1144, hF⟩ := xg_g hF
              obtain ⟨r1145, er1145, hF⟩ := xg_b hF
              have hm1146 : m0 ≤ r1145.2.2.1.2.2.2.2.2.2.1 ∧ n0 ≤ r1145.2.2.1.2.2.2.2.2.2.2 := xy_le hm1141 (show r1140.2.2.2.1.2.2.2.2.2.2.1 ≤ r1145.2.2.1.2.2.2.2.2.2.1 ∧ r1140.2.2.2.1.2.2.2.2.2.2.2 ≤ r1145.2.2.1.2.2.2.2.2.2.2 from (CN_add (w := w) (h := h) hb (s := (r1140.2.1, r1140.2.2.1, (r1140.2.2.2.1.1, r1140.2.2.2.1.2.1, r1140.2.2.2.1.2.2.1, r1140.2.2.2.1.2.2.2.1, r1140.2.2.2.1.2.2.2.2.1, (va_up r1140.2.2.2.1.2.2.2.2.2.1 r1140.1 (nNumber (r1140.2.2.2.1.2.2.2.2.2.1 r1140.1) r973.1)), r1140.2.2.2.1.2.2.2.2.2.2), r1140.2.2.2.2)) er1145).1)
              refine xy_V0 (nl := 2) (sm := r1140.2.2.2.1.2.2.2.2.2.2.1) (sn := r1140.2.2.2.1.2.2.2.2.2.2.2) (tm := r1145.2.2.1.2.2.2.2.2.2.1) (tn := r1145.2.2.1.2.2.2.2.2.2.2) (CN_add hb (s := (r1140.2.1, r1140.2.2.1, (r1140.2.2.2.1.1, r1140.2.2.2.1.2.1, r1140.2.2.2.1.2.2.1, r1140.2.2.2.1.2.2.2.1, r1140.2.2.2.1.2.2.2.2.1, (va_up r1140.2.2.2.1.2.2.2.2.2.1 r1140.1 (nNumber (r1140.2.2.2.1.2.2.2.2.2.1 r1140.1) r973.1)), r1140.2.2.2.1.2.2.2.2.2.2), r1140.2.2.2.2)) er1145) rfl rfl hm1141 (fun _ => rfl) (fun _ => rfl) (fun _ => rfl) (fun _ => dM_bound_130) (fun _ R => kM_257 R) (fun _ => rfl) ⟨by omega, by omega⟩ rfl rfl (mV_n g1144) (fun _ => rfl) (Nat.le_of_ble_eq_true rfl) ?_
              refine xy_r (xw_iinc ((l3 + 1)) dM_bound_133 rfl rfl (Nat.le_of_ble_eq_true rfl)) ?_
              refine xy_r (xw_Ln (L' := [some (.ref 2000), some (.ref (xn l1)), some (.int l2), some (.int (l3 + 1)), some (.int r970.2.1.2.1), some (.long r973.1), none, some (.int (xb r1097.1)), some (.ref (xn r1140.1))]) rfl) ?_
              refine xy_r (xw_aload_n dM_bound_136 rfl) ?_
              refine xy_r (xw_dup_r dM_bound_137) ?_
              refine xy_r (xw_get dM_bound_138 fM_221 rfl rfl) ?_
              refine xy_r (xw_iconst (1) dM_bound_141 (by decide)) ?_
              refine xy_r (xw_iadd dM_bound_142) ?_
              refine xy_r (xg_put dM_bound_143 fM_221 rfl (by decide) (Nat.le_of_ble_eq_true rfl) (fun _ => rfl) (fun _ => rfl) (mV_o (s' := (r1145.1, (r1145.2.1.1, (r1145.2.1.2.1 + 1), r1145.2.1.2.2), r1145.2.2)) rfl)) ?_
              refine xy_r (xw_iload_n dM_bound_146 rfl) ?_
              refine xy_r (xw_bipush (35) dM_bound_147 (by decide)) ?_
              refine xy_brn (xw_icmp_ne 155 dM_bound_149 (by decide)) (fun c1148 => ?_) (fun c1148 => ?_)
              · replace hF := xg_f c1148 hF
                refine xy_r (xw_aload_n dM_bound_155 rfl) ?_
                refine xy_r (xw_aload_n dM_bound_156 rfl) ?_
                rcases xg_o hF with ⟨r1149, er1149, hF⟩ | ⟨r1149, er1149, hF⟩
                · have hm1150 : m0 ≤ r1149.2.2.2.1.2.2.2.2.2.2.1 ∧ n0 ≤ r1149.2.2.2.1.2.2.2.2.2.2.2 := xy_le hm1146 (show r1145.2.2.1.2.2.2.2.2.2.1 ≤ r1149.2.2.2.1.2.2.2.2.2.2.1 ∧ r1145.2.2.1.2.2.2.2.2.2.2 ≤ r1149.2.2.2.1.2.2.2.2.2.2.2 from ((hp.1 (h := h) hb (s := (r1145.1, (r1145.2.1.1, (r1145.2.1.2.1 + 1), r1145.2.1.2.2), r1145.2.2)) er1149)).1)
                  refine xy_V1 (nl := 4) (sm := r1145.2.2.1.2.2.2.2.2.2.1) (sn := r1145.2.2.1.2.2.2.2.2.2.2) (tm := r1149.2.2.2.1.2.2.2.2.2.2.1) (tn := r1149.2.2.2.1.2.2.2.2.2.2.2) (hp.1 hb (s := (r1145.1, (r1145.2.1.1, (r1145.2.1.2.1 + 1), r1145.2.1.2.2), r1145.2.2)) er1149) rfl rfl hm1146 (fun _ => rfl) (fun _ => rfl) (fun _ => rfl) (fun _ => dM_bound_157) (fun _ R => kM_249 R) (fun _ => rfl) ⟨by omega, by omega⟩ rfl rfl rfl (fun _ => rfl) (Nat.le_of_ble_eq_true rfl) ?_
                  obtain ⟨g1152, hF⟩ := xg_g hF
                  obtain ⟨r1153, er1153, hF⟩ := xg_b hF
                  have hm1154 : m0 ≤ r1153.2.2.1.2.2.2.2.2.2.1 ∧ n0 ≤ r1153.2.2.1.2.2.2.2.2.2.2 := xy_le hm1150 (show r1149.2.2.2.1.2.2.2.2.2.2.1 ≤ r1153.2.2.1.2.2.2.2.2.2.1 ∧ r1149.2.2.2.1.2.2.2.2.2.2.2 ≤ r1153.2.2.1.2.2.2.2.2.2.2 from (CN_add (w := w) (h := h) hb (s := r1149.2) er1153).1)
                  refine xy_V0 (nl := 2) (sm := r1149.2.2.2.1.2.2.2.2.2.2.1) (sn := r1149.2.2.2.1.2.2.2.2.2.2.2) (tm := r1153.2.2.1.2.2.2.2.2.2.1) (tn := r1153.2.2.1.2.2.2.2.2.2.2) (CN_add hb (s := r1149.2) er1153) rfl rfl hm1150 (fun _ => rfl) (fun _ => rfl) (fun _ => rfl) (fun _ => dM_bound_160) (fun _ R => kM_257 R) (fun _ => rfl) ⟨by omega, by omega⟩ rfl rfl (mV_n g1152) (fun _ => rfl) (Nat.le_of_ble_eq_true rfl) ?_
                  refine xy_r (xw_aload_n dM_bound_163 rfl) ?_
                  refine xy_r (xw_bipush (44) dM_bound_164 (by decide)) ?_
                  rcases xg_o hF with ⟨r1156, er1156, hF⟩ | ⟨r1156, er1156, hF⟩
                  · have hm1157 : m0 ≤ r1156.2.2.2.1.2.2.2.2.2.2.1 ∧ n0 ≤ r1156.2.2.2.1.2.2.2.2.2.2.2 := xy_le hm1154 (show r1153.2.2.1.2.2.2.2.2.2.1 ≤ r1156.2.2.2.1.2.2.2.2.2.2.1 ∧ r1153.2.2.1.2.2.2.2.2.2.2 ≤ r1156.2.2.2.1.2.2.2.2.2.2.2 from (CM_expect (w := w) (h := h) hb (s := r1153) er1156).1)
                    refine xy_V0 (nl := 2) (sm := r1153.2.2.1.2.2.2.2.2.2.1) (sn := r1153.2.2.1.2.2.2.2.2.2.2) (tm := r1156.2.2.2.1.2.2.2.2.2.2.1) (tn := r1156.2.2.2.1.2.2.2.2.2.2.2) (CM_expect hb (s := r1153) er1156) rfl rfl hm1154 (fun _ => rfl) (fun _ => rfl) (fun _ => rfl) (fun _ => dM_bound_166) (fun _ R => kM_246 R) (fun _ => rfl) ⟨by omega, by omega⟩ rfl rfl rfl (fun _ => rfl) (Nat.le_of_ble_eq_true rfl) ?_
                    refine xy_r (xw_goto 2 dM_bound_169 (by decide)) ?_
                    refine xy_r (xw_drop (L' := [some (.ref 2000), some (.ref (xn l1)), some (.int l2), some (.int (l3 + 1)), none, none, none, none, none]) ⟨rfl, ⟨rfl, ⟨rfl, ⟨rfl, trivial⟩⟩⟩⟩) ?_
                    exact ih (s := r1156.2) hm1157 hF
                  · subst hF
                    exact xy_Vt (nl := 2) (sm := r1153.2.2.1.2.2.2.2.2.2.1) (sn := r1153.2.2.1.2.2.2.2.2.2.2) (tm := r1156.2.2.2.1.2.2.2.2.2.2.1) (tn := r1156.2.2.2.1.2.2.2.2.2.2.2) (CM_expect hb (s := r1153) er1156) rfl rfl hm1154 (fun _ => rfl) (fun _ => rfl) (fun _ => rfl) (fun _ => dM_bound_166) (fun _ R => kM_246 R) (fun _ => rfl) ⟨by omega, by omega⟩ rfl rfl rfl (fun _ => rfl) (Nat.le_of_ble_eq_true rfl) ⟨rfl, rfl⟩
                · subst hF
                  exact xy_Vt (nl := 4) (sm := r1145.2.2.1.2.2.2.2.2.2.1) (sn := r1145.2.2.1.2.2.2.2.2.2.2) (tm := r1149.2.2.2.1.2.2.2.2.2.2.1) (tn := r1149.2.2.2.1.2.2.2.2.2.2.2) (hp.1 hb (s := (r1145.1, (r1145.2.1.1, (r1145.2.1.2.1 + 1), r1145.2.1.2.2), r1145.2.2)) er1149) rfl rfl hm1146 (fun _ => rfl) (fun _ => rfl) (fun _ => rfl) (fun _ => dM_bound_157) (fun _ R => kM_249 R) (fun _ => rfl) ⟨by omega, by omega⟩ rfl rfl rfl (fun _ => rfl) (Nat.le_of_ble_eq_true rfl) ⟨rfl, rfl⟩
              · replace hF := xg_t c1148 hF
                refine xy_r (xw_goto 2 dM_bound_152 (by decide)) ?_
                refine xy_r (xw_drop (L' := [some (.ref 2000), some (.ref (xn l1)), some (.int l2), some (.int (l3 + 1)), none, none, none, none, none]) ⟨rfl, ⟨rfl, ⟨rfl, ⟨rfl, trivial⟩⟩⟩⟩) ?_
                exact ih (s := (r1145.1, (r1145.2.1.1, (r1145.2.1.2.1 + 1), r1145.2.1.2.2), r1145.2.2)) hm1146 hF
            · replace hF := xg_f c1139 hF
              refine xy_r (xw_aload_n dM_bound_103 rfl) ?_
              refine xy_r (xw_iload dM_bound_104 rfl) ?_
              refine xy_r (xg_put dM_bound_106 fM_221 rfl (by decide) (Nat.le_of_ble_eq_true rfl) (fun _ => rfl) (fun _ => rfl) (mV_o (s' := (r1097.2.1, (r1097.2.2.1.1, r970.2.1.2.1, r1097.2.2.1.2.2), r1097.2.2.2)) rfl)) ?_
              refine xy_r (xw_goto 172 dM_bound_109 (by decide)) ?_
              refine xy_r (xw_aload_n dM_bound_172 rfl) ?_
              refine xy_r (xw_aload_n dM_bound_173 rfl) ?_
              rcases xg_o hF with ⟨r1159, er1159, hF⟩ | ⟨r1159, er1159, hF⟩
              · have hm1160 : m0 ≤ r1159.2.2.2.1.2.2.2.2.2.2.1 ∧ n0 ≤ r1159.2.2.2.1.2.2.2.2.2.2.2 := xy_le hm1098 (show r1097.2.2.2.1.2.2.2.2.2.2.1 ≤ r1159.2.2.2.1.2.2.2.2.2.2.1 ∧ r1097.2.2.2.1.2.2.2.2.2.2.2 ≤ r1159.2.2.2.1.2.2.2.2.2.2.2 from ((hp.1 (h := h) hb (s := (r1097.2.1, (r1097.2.2.1.1, r970.2.1.2.1, r1097.2.2.1.2.2), r1097.2.2.2)) er1159)).1)
                refine xy_V1 (nl := 4) (sm := r1097.2.2.2.1.2.2.2.2.2.2.1) (sn := r1097.2.2.2.1.2.2.2.2.2.2.2) (tm := r1159.2.2.2.1.2.2.2.2.2.2.1) (tn := r1159.2.2.2.1.2.2.2.2.2.2.2) (hp.1 hb (s := (r1097.2.1, (r1097.2.2.1.1, r970.2.1.2.1, r1097.2.2.1.2.2), r1097.2.2.2)) er1159) rfl rfl hm1098 (fun _ => rfl) (fun _ => rfl) (fun _ => rfl) (fun _ => dM_bound_174) (fun _ R => kM_249 R) (fun _ => rfl) ⟨by omega, by omega⟩ rfl rfl rfl (fun _ => rfl) (Nat.le_of_ble_eq_true rfl) ?_
                obtain ⟨g1162, hF⟩ := xg_g hF
                obtain ⟨r1163, er1163, hF⟩ := xg_b hF
                have hm1164 : m0 ≤ r1163.2.2.1.2.2.2.2.2.2.1 ∧ n0 ≤ r1163.2.2.1.2.2.2.2.2.2.2 := xy_le hm1160 (show r1159.2.2.2.1.2.2.2.2.2.2.1 ≤ r1163.2.2.1.2.2.2.2.2.2.1 ∧ r1159.2.2.2.1.2.2.2.2.2.2.2 ≤ r1163.2.2.1.2.2.2.2.2.2.2 from (CN_add (w := w) (h := h) hb (s := r1159.2) er1163).1)
                refine xy_V0 (nl := 2) (sm := r1159.2.2.2.1.2.2.2.2.2.2.1) (sn := r1159.2.2.2.1.2.2.2.2.2.2.2) (tm := r1163.2.2.1.2.2.2.2.2.2.1) (tn := r1163.2.2.1.2.2.2.2.2.2.2) (CN_add hb (s := r1159.2) er1163) rfl rfl hm1160 (fun _ => rfl) (fun _ => rfl) (fun _ => rfl) (fun _ => dM_bound_177) (fun _ R => kM_257 R) (fun _ => rfl) ⟨by omega, by omega⟩ rfl rfl (mV_n g1162) (fun _ => rfl) (Nat.le_of_ble_eq_true rfl) ?_
                refine xy_r (xw_aload_n dM_bound_180 rfl) ?_
                refine xy_r (xw_bipush (44) dM_bound_181 (by decide)) ?_
                obtain ⟨r1166, er1166, hF⟩ := xg_b hF
                have hm1167 : m0 ≤ r1166.2.2.2.1.2.2.2.2.2.2.1 ∧ n0 ≤ r1166.2.2.2.1.2.2.2.2.2.2.2 := xy_le hm1164 (show r1163.2.2.1.2.2.2.2.2.2.1 ≤ r1166.2.2.2.1.2.2.2.2.2.2.1 ∧ r1163.2.2.1.2.2.2.2.2.2.2 ≤ r1166.2.2.2.1.2.2.2.2.2.2.2 from (CM_next (w := w) (h := h) hb (s := r1163) er1166).1)
                refine xy_V1 (nl := 2) (sm := r1163.2.2.1.2.2.2.2.2.2.1) (sn := r1163.2.2.1.2.2.2.2.2.2.2) (tm := r1166.2.2.2.1.2.2.2.2.2.2.1) (tn := r1166.2.2.2.1.2.2.2.2.2.2.2) (CM_next hb (s := r1163) er1166) rfl rfl hm1164 (fun _ => rfl) (fun _ => rfl) (fun _ => rfl) (fun _ => dM_bound_183) (fun _ R => kM_236 R) (fun _ => rfl) ⟨by omega, by omega⟩ rfl rfl rfl (fun _ => rfl) (Nat.le_of_ble_eq_true rfl) ?_
                refine xy_brn (xw_if_eqB 211 dM_bound_186 (by decide)) (fun c1169 => ?_) (fun c1169 => ?_)
                · replace hF := xg_f c1169 hF
                  obtain rfl := Option.some.inj hF
                  exact xy_end (xw_return dM_bound_211 rfl (Nat.le_refl _) (Nat.le_refl _) ⟨rfl, rfl⟩)
                · replace hF := xg_t c1169 hF
                  refine xy_r (xw_aload_n dM_bound_189 rfl) ?_
                  refine xy_r (xw_dup_r dM_bound_190) ?_
                  refine xy_r (xw_get dM_bound_191 fM_221 rfl rfl) ?_
                  refine xy_r (xw_iconst (1) dM_bound_194 (by decide)) ?_
                  refine xy_r (xw_iadd dM_bound_195) ?_
                  refine xy_r (xg_put dM_bound_196 fM_221 rfl (by decide) (Nat.le_of_ble_eq_true rfl) (fun _ => rfl) (fun _ => rfl) (mV_o (s' := (r1166.2.1, (r1166.2.2.1.1, (r1166.2.2.1.2.1 + 1), r1166.2.2.1.2.2), r1166.2.2.2)) rfl)) ?_
                  refine xy_r (xw_aload_n dM_bound_199 rfl) ?_
                  obtain ⟨r1170, er1170, hF⟩ := xg_b hF
                  have hm1171 : m0 ≤ r1170.2.2.1.2.2.2.2.2.2.1 ∧ n0 ≤ r1170.2.2.1.2.2.2.2.2.2.2 := xy_le hm1167 (show r1166.2.2.2.1.2.2.2.2.2.2.1 ≤ r1170.2.2.1.2.2.2.2.2.2.1 ∧ r1166.2.2.2.1.2.2.2.2.2.2.2 ≤ r1170.2.2.1.2.2.2.2.2.2.2 from (CM_blanks (w := w) (h := h) hb (s := (r1166.2.1, (r1166.2.2.1.1, (r1166.2.2.1.2.1 + 1), r1166.2.2.1.2.2), r1166.2.2.2)) er1170).1)
                  refine xy_V0 (nl := 1) (sm := r1166.2.2.2.1.2.2.2.2.2.2.1) (sn := r1166.2.2.2.1.2.2.2.2.2.2.2) (tm := r1170.2.2.1.2.2.2.2.2.2.1) (tn := r1170.2.2.1.2.2.2.2.2.2.2) (CM_blanks hb (s := (r1166.2.1, (r1166.2.2.1.1, (r1166.2.2.1.2.1 + 1), r1166.2.2.1.2.2), r1166.2.2.2)) er1170) rfl rfl hm1167 (fun _ => rfl) (fun _ => rfl) (fun _ => rfl) (fun _ => dM_bound_200) (fun _ R => kM_233 R) (fun _ => rfl) ⟨by omega, by omega⟩ rfl rfl rfl (fun _ => rfl) (Nat.le_of_ble_eq_true rfl) ?_
                  refine xy_r (xw_aload_n dM_bound_203 rfl) ?_
                  refine xy_r (xw_aload_n dM_bound_204 rfl) ?_
                  refine xy_r (xw_get dM_bound_205 fM_221 rfl rfl) ?_
                  rcases xg_o hF with ⟨r1173, er1173, hF⟩ | ⟨r1173, er1173, hF⟩
                  · have hm1174 : m0 ≤ r1173.2.2.2.1.2.2.2.2.2.2.1 ∧ n0 ≤ r1173.2.2.2.1.2.2.2.2.2.2.2 := xy_le hm1171 (show r1170.2.2.1.2.2.2.2.2.2.1 ≤ r1173.2.2.2.1.2.2.2.2.2.2.1 ∧ r1170.2.2.1.2.2.2.2.2.2.2 ≤ r1173.2.2.2.1.2.2.2.2.2.2.2 from (CM_bad (w := w) (h := h) hb (s := r1170) er1173).1)
                    refine xy_V0 (nl := 2) (sm := r1170.2.2.1.2.2.2.2.2.2.1) (sn := r1170.2.2.1.2.2.2.2.2.2.2) (tm := r1173.2.2.2.1.2.2.2.2.2.2.1) (tn := r1173.2.2.2.1.2.2.2.2.2.2.2) (CM_bad hb (s := r1170) er1173) rfl rfl hm1171 (fun _ => rfl) (fun _ => rfl) (fun _ => rfl) (fun _ => dM_bound_208) (fun _ R => kM_239 R) (fun _ => rfl) ⟨by omega, by omega⟩ rfl rfl rfl (fun _ => rfl) (Nat.le_of_ble_eq_true rfl) ?_
                    obtain rfl := Option.some.inj hF
                    exact xy_end (xw_return dM_bound_211 rfl (Nat.le_refl _) (Nat.le_refl _) ⟨rfl, rfl⟩)
                  · subst hF
                    exact xy_Vt (nl := 2) (sm := r1170.2.2.1.2.2.2.2.2.2.1) (sn := r1170.2.2.1.2.2.2.2.2.2.2) (tm := r1173.2.2.2.1.2.2.2.2.2.2.1) (tn := r1173.2.2.2.1.2.2.2.2.2.2.2) (CM_bad hb (s := r1170) er1173) rfl rfl hm1171 (fun _ => rfl) (fun _ => rfl) (fun _ => rfl) (fun _ => dM_bound_208) (fun _ R => kM_239 R) (fun _ => rfl) ⟨by omega, by omega⟩ rfl rfl rfl (fun _ => rfl) (Nat.le_of_ble_eq_true rfl) ⟨rfl, rfl⟩
              · subst hF
                exact xy_Vt (nl := 4) (sm := r1097.2.2.2.1.2.2.2.2.2.2.1) (sn := r1097.2.2.2.1.2.2.2.2.2.2.2) (tm := r1159.2.2.2.1.2.2.2.2.2.2.1) (tn := r1159.2.2.2.1.2.2.2.2.2.2.2) (hp.1 hb (s := (r1097.2.1, (r1097.2.2.1.1, r970.2.1.2.1, r1097.2.2.1.2.2), r1097.2.2.2)) er1159) rfl rfl hm1098 (fun _ => rfl) (fun _ => rfl) (fun _ => rfl) (fun _ => dM_bound_174) (fun _ R => kM_249 R) (fun _ => rfl) ⟨by omega, by omega⟩ rfl rfl rfl (fun _ => rfl) (Nat.le_of_ble_eq_true rfl) ⟨rfl, rfl⟩
          · replace hF := xg_t c1138 hF
            refine xy_r (xw_iload_n dM_bound_65 rfl) ?_
            refine xy_brn (xw_if_ne 98 dM_bound_66 (by decide)) (fun c1176 => ?_) (fun c1176 => ?_)
            · replace hF := xg_f c1176 hF
              refine xy_r (xw_iload dM_bound_98 rfl) ?_
              refine xy_br (xw_if_neB 112 dM_bound_100 (by decide)) (fun c1177 => ?_) (fun c1177 => ?_)
              · replace hF := xg_t c1177 hF
                refine xy_r (xw_aload_n dM_bound_112 rfl) ?_
                refine xy_r (xw_bipush (6) dM_bound_113 (by decide)) ?_
                obtain ⟨r1178, er1178, hF⟩ := xg_b hF
                have hm1179 : m0 ≤ r1178.2.2.2.1.2.2.2.2.2.2.1 ∧ n0 ≤ r1178.2.2.2.1.2.2.2.2.2.2.2 := xy_le hm1098 (show r1097.2.2.2.1.2.2.2.2.2.2.1 ≤ r1178.2.2.2.1.2.2.2.2.2.2.1 ∧ r1097.2.2.2.1.2.2.2.2.2.2.2 ≤ r1178.2.2.2.1.2.2.2.2.2.2.2 from (CM_node (w := w) (h := h) hb (s := r1097.2) er1178).1)
                refine xy_V1 (nl := 4) (sm := r1097.2.2.2.1.2.2.2.2.2.2.1) (sn := r1097.2.2.2.1.2.2.2.2.2.2.2) (tm := r1178.2.2.2.1.2.2.2.2.2.2.1) (tn := r1178.2.2.2.1.2.2.2.2.2.2.2) (CM_node hb (s := r1097.2) er1178) rfl rfl hm1098 (fun _ => rfl) (fun _ => rfl) (fun _ => rfl) (fun _ => dM_bound_115) (fun _ R => kM_253 R) (fun _ => rfl) ⟨by omega, by omega⟩ rfl rfl rfl (fun _ => rfl) (Nat.le_of_ble_eq_true rfl) ?_
                refine xy_r (xw_astore dM_bound_118 (Nat.le_of_ble_eq_true rfl)) ?_
                refine xy_r (xw_Ln (L' := [some (.ref 2000), some (.ref (xn l1)), some (.int l2), some (.int l3), some (.int r970.2.1.2.1), some (.long r973.1), none, some (.int (xb r1097.1)), some (.ref (xn r1178.1))]) rfl) ?_
                refine xy_r (xw_aload dM_bound_120 rfl) ?_
                refine xy_r (xw_lload dM_bound_122 rfl) ?_
                obtain ⟨g1181, hF⟩ := xg_g hF
                refine xy_r (xg_put dM_bound_124 fM_201 (mV_n g1181) (xn_le _) (Nat.le_of_ble_eq_true rfl) (fun _ => rfl) (fun _ => rfl) (mV_e (s' := (r1178.2.1, r1178.2.2.1, (r1178.2.2.2.1.1, r1178.2.2.2.1.2.1, r1178.2.2.2.1.2.2.1, r1178.2.2.2.1.2.2.2.1, r1178.2.2.2.1.2.2.2.2.1, (va_up r1178.2.2.2.1.2.2.2.2.2.1 r1178.1 (nNumber (r1178.2.2.2.1.2.2.2.2.2.1 r1178.1) r973.1)), r1178.2.2.2.1.2.2.2.2.2.2), r1178.2.2.2.2)) (mV_pn (q := (nNumber (r1178.2.2.2.1.2.2.2.2.2.1 r1178.1) r973.1)) g1181) rfl)) ?_
                refine xy_r (xw_aload_n dM_bound_127 rfl) ?_
                refine xy_r (xw_aload dM_bound_128 rfl) ?_
                obtain ⟨g1182, hF⟩ := xg_g hF
                obtain ⟨r1183, er1183, hF⟩ := xg_b hF
                have hm1184 : m0 ≤ r1183.2.2.1.2.2.2.2.2.2.1 ∧ n0 ≤ r1183.2.2.1.2.2.2.2.2.2.2 := xy_le hm1179 (show r1178.2.2.2.1.2.2.2.2.2.2.1 ≤ r1183.2.2.1.2.2.2.2.2.2.1 ∧ r1178.2.2.2.1.2.2.2.2.2.2.2 ≤ r1183.2.2.1.2.2.2.2.2.2.2 from (CN_add (w := w) (h := h) hb (s := (r1178.2.1, r1178.2.2.1, (r1178.2.2.2.1.1, r1178.2.2.2.1.2.1, r1178.2.2.2.1.2.2.1, r1178.2.2.2.1.2.2.2.1, r1178.2.2.2.1.2.2.2.2.1, (va_up r1178.2.2.2.1.2.2.2.2.2.1 r1178.1 (nNumber (r1178.2.2.2.1.2.2.2.2.2.1 r1178.1) r973.1)), r1178.2.2.2.1.2.2.2.2.2.2), r1178.2.2.2.2)) er1183).1)
                refine xy_V0 (nl := 2) (sm := r1178.2.2.2.1.2.2.2.2.2.2.1) (sn := r1178.2.2.2.1.2.2.2.2.2.2.2) (tm := r1183.2.2.1.2.2.2.2.2.2.1) (tn := r1183.2.2.1.2.2.2.2.2.2.2) (CN_add hb (s := (r1178.2.1, r1178.2.2.1, (r1178.2.2.2.1.1, r1178.2.2.2.1.2.1, r1178.2.2.2.1.2.2.1, r1178.2.2.2.1.2.2.2.1, r1178.2.2.2.1.2.2.2.2.1, (va_up r1178.2.2.2.1.2.2.2.2.2.1 r1178.1 (nNumber (r1178.2.2.2.1.2.2.2.2.2.1 r1178.1) r973.1)), r1178.2.2.2.1.2.2.2.2.2.2), r1178.2.2.2.2)) er1183) rfl rfl hm1179 (fun _ => rfl) (fun _ => rfl) (fun _ => rfl) (fun _ => dM_bound_130) (fun _ R => kM_257 R) (fun _ => rfl) ⟨by omega, by omega⟩ rfl rfl (mV_n g1182) (fun _ => rfl) (Nat.le_of_ble_eq_true rfl) ?_
                refine xy_r (xw_iinc ((l3 + 1)) dM_bound_133 rfl rfl (Nat.le_of_ble_eq_true rfl)) ?_
                refine xy_r (xw_Ln (L' := [some (.ref 2000), some (.ref (xn l1)), some (.int l2), some (.int (l3 + 1)), some (.int r970.2.1.2.1), some (.long r973.1), none, some (.int (xb r1097.1)), some (.ref (xn r1178.1))]) rfl) ?_
                refine xy_r (xw_aload_n dM_bound_136 rfl) ?_
                refine xy_r (xw_dup_r dM_bound_137) ?_
                refine xy_r (xw_get dM_bound_138 fM_221 rfl rfl) ?_
                refine xy_r (xw_iconst (1) dM_bound_141 (by decide)) ?_
                refine xy_r (xw_iadd dM_bound_142) ?_
                refine xy_r (xg_put dM_bound_143 fM_221 rfl (by decide) (Nat.le_of_ble_eq_true rfl) (fun _ => rfl) (fun _ => rfl) (mV_o (s' := (r1183.1, (r1183.2.1.1, (r1183.2.1.2.1 + 1), r1183.2.1.2.2), r1183.2.2)) rfl)) ?_
                refine xy_r (xw_iload_n dM_bound_146 rfl) ?_
                refine xy_r (xw_bipush (35) dM_bound_147 (by decide)) ?_
                refine xy_brn (xw_icmp_ne 155 dM_bound_149 (by decide)) (fun c1186 => ?_) (fun c1186 => ?_)
                · replace hF := xg_f c1186 hF
                  refine xy_r (xw_aload_n dM_bound_155 rfl) ?_
                  refine xy_r (xw_aload_n dM_bound_156 rfl) ?_
                  rcases xg_o hF with ⟨r1187, er1187, hF⟩ | ⟨r1187, er1187, hF⟩
                  · have hm1188 : m0 ≤ r1187.2.2.2.1.2.2.2.2.2.2.1 ∧ n0 ≤ r1187.2.2.2.1.2.2.2.2.2.2.2 := xy_le hm1184 (show r1183.2.2.1.2.2.2.2.2.2.1 ≤ r1187.2.2.2.1.2.2.2.2.2.2.1 ∧ r1183.2.2.1.2.2.2.2.2.2.2 ≤ r1187.2.2.2.1.2.2.2.2.2.2.2 from ((hp.1 (h := h) hb (s := (r1183.1, (r1183.2.1.1, (r1183.2.1.2.1 + 1), r1183.2.1.2.2), r1183.2.2)) er1187)).1)
                    refine xy_V1 (nl := 4) (sm := r1183.2.2.1.2.2.2.2.2.2.1) (sn := r1183.2.2.1.2.2.2.2.2.2.2) (tm := r1187.2.2.2.1.2.2.2.2.2.2.1) (tn := r1187.2.2.2.1.2.2.2.2.2.2.2) (hp.1 hb (s := (r1183.1, (r1183.2.1.1, (r1183.2.1.2.1 + 1), r1183.2.1.2.2), r1183.2.2)) er1187) rfl rfl hm1184 (fun _ => rfl) (fun _ => rfl) (fun _ => rfl) (fun _ => dM_bound_157) (fun _ R => kM_249 R) (fun _ => rfl) ⟨by omega, by omega⟩ rfl rfl rfl (fun _ => rfl) (Nat.le_of_ble_eq_true rfl) ?_
                    obtain ⟨g1190, hF⟩ := xg_g hF
                    obtain ⟨r1191, er1191, hF⟩ := xg_b hF
                    have hm1192 : m0 ≤ r1191.2.2.1.2.2.2.2.2.2.1 ∧ n0 ≤ r1191.2.2.1.2.2.2.2.2.2.2 := xy_le hm1188 (show r1187.2.2.2.1.2.2.2.2.2.2.1 ≤ r1191.2.2.1.2.2.2.2.2.2.1 ∧ r1187.2.2.2.1.2.2.2.2.2.2.2 ≤ r1191.2.2.1.2.2.2.2.2.2.2 from (CN_add (w := w) (h := h) hb (s := r1187.2) er1191).1)
                    refine xy_V0 (nl := 2) (sm := r1187.2.2.2.1.2.2.2.2.2.2.1) (sn := r1187.2.2.2.1.2.2.2.2.2.2.2) (tm := r1191.2.2.1.2.2.2.2.2.2.1) (tn := r1191.2.2.1.2.2.2.2.2.2.2) (CN_add hb (s := r1187.2) er1191) rfl rfl hm1188 (fun _ => rfl) (fun _ => rfl) (fun _ => rfl) (fun _ => dM_bound_160) (fun _ R => kM_257 R) (fun _ => rfl) ⟨by omega, by omega⟩ rfl rfl (mV_n g1190) (fun _ => rfl) (Nat.le_of_ble_eq_true rfl) ?_
                    refine xy_r (xw_aload_n dM_bound_163 rfl) ?_
                    refine xy_r (xw_bipush (44) dM_bound_164 (by decide)) ?_
                    rcases xg_o hF with ⟨r1194, er1194, hF⟩ | ⟨r1194, er1194, hF⟩
                    · have hm1195 : m0 ≤ r1194.2.2.2.1.2.2.2.2.2.2.1 ∧ n0 ≤ r1194.2.2.2.1.2.2.2.2.2.2.2 := xy_le hm1192 (show r1191.2.2.1.2.2.2.2.2.2.1 ≤ r1194.2.2.2.1.2.2.2.2.2.2.1 ∧ r1191.2.2.1.2.2.2.2.2.2.2 ≤ r1194.2.2.2.1.2.2.2.2.2.2.2 from (CM_expect (w := w) (h := h) hb (s := r1191) er1194).1)
                      refine xy_V0 (nl := 2) (sm := r1191.2.2.1.2.2.2.2.2.2.1) (sn := r1191.2.2.1.2.2.2.2.2.2.2) (tm := r1194.2.2.2.1.2.2.2.2.2.2.1) (tn := r1194.2.2.2.1.2.2.2.2.2.2.2) (CM_expect hb (s := r1191) er1194) rfl rfl hm1192 (fun _ => rfl) (fun _ => rfl) (fun _ => rfl) (fun _ => dM_bound_166) (fun _ R => kM_246 R) (fun _ => rfl) ⟨by omega, by omega⟩ rfl rfl rfl (fun _ => rfl) (Nat.le_of_ble_eq_true rfl) ?_
                      refine xy_r (xw_goto 2 dM_bound_169 (by decide)) ?_
                      refine xy_r (xw_drop (L' := [some (.ref 2000), some (.ref (xn l1)), some (.int l2), some (.int (l3 + 1)), none, none, none, none, none]) ⟨rfl, ⟨rfl, ⟨rfl, ⟨rfl, trivial⟩⟩⟩⟩) ?_
                      exact ih (s := r1194.2) hm1195 hF
                    · subst hF
                      exact xy_Vt (nl := 2) (sm := r1191.2.2.1.2.2.2.2.2.2.1) (sn := r1191.2.2.1.2.2.2.2.2.2.2) (tm := r1194.2.2.2.1.2.2.2.2.2.2.1) (tn := r1194.2.2.2.1.2.2.2.2.2.2.2) (CM_expect hb (s := r1191) er1194) rfl rfl hm1192 (fun _ => rfl) (fun _ => rfl) (fun _ => rfl) (fun _ => dM_bound_166) (fun _ R => kM_246 R) (fun _ => rfl) ⟨by omega, by omega⟩ rfl rfl rfl (fun _ => rfl) (Nat.le_of_ble_eq_true rfl) ⟨rfl, rfl⟩
                  · subst hF
                    exact xy_Vt (nl := 4) (sm := r1183.2.2.1.2.2.2.2.2.2.1) (sn := r1183.2.2.1.2.2.2.2.2.2.2) (tm := r1187.2.2.2.1.2.2.2.2.2.2.1) (tn := r1187.2.2.2.1.2.2.2.2.2.2.2) (hp.1 hb (s := (r1183.1, (r1183.2.1.1, (r1183.2.1.2.1 + 1), r1183.2.1.2.2), r1183.2.2)) er1187) rfl rfl hm1184 (fun _ => rfl) (fun _ => rfl) (fun _ => rfl) (fun _ => dM_bound_157) (fun _ R => kM_249 R) (fun _ => rfl) ⟨by omega, by omega⟩ rfl rfl rfl (fun _ => rfl) (Nat.le_of_ble_eq_true rfl) ⟨rfl, rfl⟩
                · replace hF := xg_t c1186 hF
                  refine xy_r (xw_goto 2 dM_bound_152 (by decide)) ?_
                  refine xy_r (xw_drop (L' := [some (.ref 2000), some (.ref (xn l1)), some (.int l2), some (.int (l3 + 1)), none, none, none, none, none]) ⟨rfl, ⟨rfl, ⟨rfl, ⟨rfl, trivial⟩⟩⟩⟩) ?_
                  exact ih (s := (r1183.1, (r1183.2.1.1, (r1183.2.1.2.1 + 1), r1183.2.1.2.2), r1183.2.2)) hm1184 hF
              · replace hF := xg_f c1177 hF
                refine xy_r (xw_aload_n dM_bound_103 rfl) ?_
                refine xy_r (xw_iload dM_bound_104 rfl) ?_
                refine xy_r (xg_put dM_bound_106 fM_221 rfl (by decide) (Nat.le_of_ble_eq_true rfl) (fun _ => rfl) (fun _ => rfl) (mV_o (s' := (r1097.2.1, (r1097.2.2.1.1, r970.2.1.2.1, r1097.2.2.1.2.2), r1097.2.2.2)) rfl)) ?_
                refine xy_r (xw_goto 172 dM_bound_109 (by decide)) ?_
                refine xy_r (xw_aload_n dM_bound_172 rfl) ?_
                refine xy_r (xw_aload_n dM_bound_173 rfl) ?_
                rcases xg_o hF with ⟨r1197, er1197, hF⟩ | ⟨r1197, er1197, hF⟩
                · have hm1198 : m0 ≤ r1197.2.2.2.1.2.2.2.2.2.2.1 ∧ n0 ≤ r1197.2.2.2.1.2.2.2.2.2.2.2 := xy_le hm1098 (show r1097.2.2.2.1.2.2.2.2.2.2.1 ≤ r1197.2.2.2.1.2.2.2.2.2.2.1 ∧ r1097.2.2.2.1.2.2.2.2.2.2.2 ≤ r1197.2.2.2.1.2.2.2.2.2.2.2 from ((hp.1 (h := h) hb (s := (r1097.2.1, (r1097.2.2.1.1, r970.2.1.2.1, r1097.2.2.1.2.2), r1097.2.2.2)) er1197)).1)
                  refine xy_V1 (nl := 4) (sm := r1097.2.2.2.1.2.2.2.2.2.2.1) (sn := r1097.2.2.2.1.2.2.2.2.2.2.2) (tm := r1197.2.2.2.1.2.2.2.2.2.2.1) (tn := r1197.2.2.2.1.2.2.2.2.2.2.2) (hp.1 hb (s := (r1097.2.1, (r1097.2.2.1.1, r970.2.1.2.1, r1097.2.2.1.2.2), r1097.2.2.2)) er1197) rfl rfl hm1098 (fun _ => rfl) (fun _ => rfl) (fun _ => rfl) (fun _ => dM_bound_174) (fun _ R => kM_249 R) (fun _ => rfl) ⟨by omega, by omega⟩ rfl rfl rfl (fun _ => rfl) (Nat.le_of_ble_eq_true rfl) ?_
                  obtain ⟨g1200, hF⟩ := xg_g hF
                  obtain ⟨r1201, er1201, hF⟩ := xg_b hF
                  have hm1202 : m0 ≤ r1201.2.2.1.2.2.2.2.2.2.1 ∧ n0 ≤ r1201.2.2.1.2.2.2.2.2.2.2 := xy_le hm1198 (show r1197.2.2.2.1.2.2.2.2.2.2.1 ≤ r1201.2.2.1.2.2.2.2.2.2.1 ∧ r1197.2.2.2.1.2.2.2.2.2.2.2 ≤ r1201.2.2.1.2.2.2.2.2.2.2 from (CN_add (w := w) (h := h) hb (s := r1197.2) er1201).1)
                  refine xy_V0 (nl := 2) (sm := r1197.2.2.2.1.2.2.2.2.2.2.1) (sn := r1197.2.2.2.1.2.2.2.2.2.2.2) (tm := r1201.2.2.1.2.2.2.2.2.2.1) (tn := r1201.2.2.1.2.2.2.2.2.2.2) (CN_add hb (s := r1197.2) er1201) rfl rfl hm1198 (fun _ => rfl) (fun _ => rfl) (fun _ => rfl) (fun _ => dM_bound_177) (fun _ R => kM_257 R) (fun _ => rfl) ⟨by omega, by omega⟩ rfl rfl (mV_n g1200) (fun _ => rfl) (Nat.le_of_ble_eq_true rfl) ?_
                  refine xy_r (xw_aload_n dM_bound_180 rfl) ?_
                  refine xy_r (xw_bipush (44) dM_bound_181 (by decide)) ?_
                  obtain ⟨r1204, er1204, hF⟩ := xg_b hF
                  have hm1205 : m0 ≤ r1204.2.2.2.1.2.2.2.2.2.2.1 ∧ n0 ≤ r1204.2.2.2.1.2.2.2.2.2.2.2 := xy_le hm1202 (show r1201.2.2.1.2.2.2.2.2.2.1 ≤ r1204.2.2.2.1.2.2.2.2.2.2.1 ∧ r1201.2.2.1.2.2.2.2.2.2.2 ≤ r1204.2.2.2.1.2.2.2.2.2.2.2 from (CM_next (w := w) (h := h) hb (s := r1201) er1204).1)
                  refine xy_V1 (nl := 2) (sm := r1201.2.2.1.2.2.2.2.2.2.1) (sn := r1201.2.2.1.2.2.2.2.2.2.2) (tm := r1204.2.2.2.1.2.2.2.2.2.2.1) (tn := r1204.2.2.2.1.2.2.2.2.2.2.2) (CM_next hb (s := r1201) er1204) rfl rfl hm1202 (fun _ => rfl) (fun _ => rfl) (fun _ => rfl) (fun _ => dM_bound_183) (fun _ R => kM_236 R) (fun _ => rfl) ⟨by omega, by omega⟩ rfl rfl rfl (fun _ => rfl) (Nat.le_of_ble_eq_true rfl) ?_
                  refine xy_brn (xw_if_eqB 211 dM_bound_186 (by decide)) (fun c1207 => ?_) (fun c1207 => ?_)
                  · replace hF := xg_f c1207 hF
                    obtain rfl := Option.some.inj hF
                    exact xy_end (xw_return dM_bound_211 rfl (Nat.le_refl _) (Nat.le_refl _) ⟨rfl, rfl⟩)
                  · replace hF := xg_t c1207 hF
                    refine xy_r (xw_aload_n dM_bound_189 rfl) ?_
                    refine xy_r (xw_dup_r dM_bound_190) ?_
                    refine xy_r (xw_get dM_bound_191 fM_221 rfl rfl) ?_
                    refine xy_r (xw_iconst (1) dM_bound_194 (by decide)) ?_
                    refine xy_r (xw_iadd dM_bound_195) ?_
                    refine xy_r (xg_put dM_bound_196 fM_221 rfl (by decide) (Nat.le_of_ble_eq_true rfl) (fun _ => rfl) (fun _ => rfl) (mV_o (s' := (r1204.2.1, (r1204.2.2.1.1, (r1204.2.2.1.2.1 + 1), r1204.2.2.1.2.2), r1204.2.2.2)) rfl)) ?_
                    refine xy_r (xw_aload_n dM_bound_199 rfl) ?_
                    obtain ⟨r1208, er1208, hF⟩ := xg_b hF
                    have hm1209 : m0 ≤ r1208.2.2.1.2.2.2.2.2.2.1 ∧ n0 ≤ r1208.2.2.1.2.2.2.2.2.2.2 := xy_le hm1205 (show r1204.2.2.2.1.2.2.2.2.2.2.1 ≤ r1208.2.2.1.2.2.2.2.2.2.1 ∧ r1204.2.2.2.1.2.2.2.2.2.2.2 ≤ r1208.2.2.1.2.2.2.2.2.2.2 from (CM_blanks (w := w) (h := h) hb (s := (r1204.2.1, (r1204.2.2.1.1, (r1204.2.2.1.2.1 + 1), r1204.2.2.1.2.2), r1204.2.2.2)) er1208).1)
                    refine xy_V0 (nl := 1) (sm := r1204.2.2.2.1.2.2.2.2.2.2.1) (sn := r1204.2.2.2.1.2.2.2.2.2.2.2) (tm := r1208.2.2.1.2.2.2.2.2.2.1) (tn := r1208.2.2.1.2.2.2.2.2.2.2) (CM_blanks hb (s := (r1204.2.1, (r1204.2.2.1.1, (r1204.2.2.1.2.1 + 1), r1204.2.2.1.2.2), r1204.2.2.2)) er1208) rfl rfl hm1205 (fun _ => rfl) (fun _ => rfl) (fun _ => rfl) (fun _ => dM_bound_200) (fun _ R => kM_233 R) (fun _ => rfl) ⟨by omega, by omega⟩ rfl rfl rfl (fun _ => rfl) (Nat.le_of_ble_eq_true rfl) ?_
                    refine xy_r (xw_aload_n dM_bound_203 rfl) ?_
                    refine xy_r (xw_aload_n dM_bound_204 rfl) ?_
                    refine xy_r (xw_get dM_bound_205 fM_221 rfl rfl) ?_
                    rcases xg_o hF with ⟨r1211, er1211, hF⟩ | ⟨r1211, er1211, hF⟩
                    · have hm1212 : m0 ≤ r1211.2.2.2.1.2.2.2.2.2.2.1 ∧ n0 ≤ r1211.2.2.2.1.2.2.2.2.2.2.2 := xy_le hm1209 (show r1208.2.2.1.2.2.2.2.2.2.1 ≤ r1211.2.2.2.1.2.2.2.2.2.2.1 ∧ r1208.2.2.1.2.2.2.2.2.2.2 ≤ r1211.2.2.2.1.2.2.2.2.2.2.2 from (CM_bad (w := w) (h := h) hb (s := r1208) er1211).1)
                      refine xy_V0 (nl := 2) (sm := r1208.2.2.1.2.2.2.2.2.2.1) (sn := r1208.2.2.1.2.2.2.2.2.2.2) (tm := r1211.2.2.2.1.2.2.2.2.2.2.1) (tn := r1211.2.2.2.1.2.2.2.2.2.2.2) (CM_bad hb (s := r1208) er1211) rfl rfl hm1209 (fun _ => rfl) (fun _ => rfl) (fun _ => rfl) (fun _ => dM_bound_208) (fun _ R => kM_239 R) (fun _ => rfl) ⟨by omega, by omega⟩ rfl rfl rfl (fun _ => rfl) (Nat.le_of_ble_eq_true rfl) ?_
                      obtain rfl := Option.some.inj hF
                      exact xy_end (xw_return dM_bound_211 rfl (Nat.le_refl _) (Nat.le_refl _) ⟨rfl, rfl⟩)
                    · subst hF
                      exact xy_Vt (nl := 2) (sm := r1208.2.2.1.2.2.2.2.2.2.1) (sn := r1208.2.2.1.2.2.2.2.2.2.2) (tm := r1211.2.2.2.1.2.2.2.2.2.2.1) (tn := r1211.2.2.2.1.2.2.2.2.2.2.2) (CM_bad hb (s := r1208) er1211) rfl rfl hm1209 (fun _ => rfl) (fun _ => rfl) (fun _ => rfl) (fun _ => dM_bound_208) (fun _ R => kM_239 R) (fun _ => rfl) ⟨by omega, by omega⟩ rfl rfl rfl (fun _ => rfl) (Nat.le_of_ble_eq_true rfl) ⟨rfl, rfl⟩
                · subst hF
                  exact xy_Vt (nl := 4) (sm := r1097.2.2.2.1.2.2.2.2.2.2.1) (sn := r1097.2.2.2.1.2.2.2.2.2.2.2) (tm := r1197.2.2.2.1.2.2.2.2.2.2.1) (tn := r1197.2.2.2.1.2.2.2.2.2.2.2) (hp.1 hb (s := (r1097.2.1, (r1097.2.2.1.1, r970.2.1.2.1, r1097.2.2.1.2.2), r1097.2.2.2)) er1197) rfl rfl hm1098 (fun _ => rfl) (fun _ => rfl) (fun _ => rfl) (fun _ => dM_bound_174) (fun _ R => kM_249 R) (fun _ => rfl) ⟨by omega, by omega⟩ rfl rfl rfl (fun _ => rfl) (Nat.le_of_ble_eq_true rfl) ⟨rfl, rfl⟩
            · replace hF := xg_t c1176 hF
              refine xy_r (xw_aload_n dM_bound_69 rfl) ?_
              refine xy_r (xw_aload_n dM_bound_70 rfl) ?_
              refine xy_r (xw_get dM_bound_71 fM_221 rfl rfl) ?_
              rcases xg_o hF with ⟨r1214, er1214, hF⟩ | ⟨r1214, er1214, hF⟩
              · have hm1215 : m0 ≤ r1214.2.2.2.1.2.2.2.2.2.2.1 ∧ n0 ≤ r1214.2.2.2.1.2.2.2.2.2.2.2 := xy_le hm1098 (show r1097.2.2.2.1.2.2.2.2.2.2.1 ≤ r1214.2.2.2.1.2.2.2.2.2.2.1 ∧ r1097.2.2.2.1.2.2.2.2.2.2.2 ≤ r1214.2.2.2.1.2.2.2.2.2.2.2 from (CM_bad (w := w) (h := h) hb (s := r1097.2) er1214).1)
                refine xy_V0 (nl := 2) (sm := r1097.2.2.2.1.2.2.2.2.2.2.1) (sn := r1097.2.2.2.1.2.2.2.2.2.2.2) (tm := r1214.2.2.2.1.2.2.2.2.2.2.1) (tn := r1214.2.2.2.1.2.2.2.2.2.2.2) (CM_bad hb (s := r1097.2) er1214) rfl rfl hm1098 (fun _ => rfl) (fun _ => rfl) (fun _ => rfl) (fun _ => dM_bound_74) (fun _ R => kM_239 R) (fun _ => rfl) ⟨by omega, by omega⟩ rfl rfl rfl (fun _ => rfl) (Nat.le_of_ble_eq_true rfl) ?_
                refine xy_r (xw_goto 98 dM_bound_77 (by decide)) ?_
                refine xy_r (xw_iload dM_bound_98 rfl) ?_
                refine xy_br (xw_if_neB 112 dM_bound_100 (by decide)) (fun c1217 => ?_) (fun c1217 => ?_)
                · replace hF := xg_t c1217 hF
                  refine xy_r (xw_aload_n dM_bound_112 rfl) ?_
                  refine xy_r (xw_bipush (6) dM_bound_113 (by decide)) ?_
                  obtain ⟨r1218, er1218, hF⟩ := xg_b hF
                  have hm1219 : m0 ≤ r1218.2.2.2.1.2.2.2.2.2.2.1 ∧ n0 ≤ r1218.2.2.2.1.2.2.2.2.2.2.2 := xy_le hm1215 (show r1214.2.2.2.1.2.2.2.2.2.2.1 ≤ r1218.2.2.2.1.2.2.2.2.2.2.1 ∧ r1214.2.2.2.1.2.2.2.2.2.2.2 ≤ r1218.2.2.2.1.2.2.2.2.2.2.2 from (CM_node (w := w) (h := h) hb (s := r1214.2) er1218).1)
                  refine xy_V1 (nl := 4) (sm := r1214.2.2.2.1.2.2.2.2.2.2.1) (sn := r1214.2.2.2.1.2.2.2.2.2.2.2) (tm := r1218.2.2.2.1.2.2.2.2.2.2.1) (tn := r1218.2.2.2.1.2.2.2.2.2.2.2) (CM_node hb (s := r1214.2) er1218) rfl rfl hm1215 (fun _ => rfl) (fun _ => rfl) (fun _ => rfl) (fun _ => dM_bound_115) (fun _ R => kM_253 R) (fun _ => rfl) ⟨by omega, by omega⟩ rfl rfl rfl (fun _ => rfl) (Nat.le_of_ble_eq_true rfl) ?_
                  refine xy_r (xw_astore dM_bound_118 (Nat.le_of_ble_eq_true rfl)) ?_
                  refine xy_r (xw_Ln (L' := [some (.ref 2000), some (.ref (xn l1)), some (.int l2), some (.int l3), some (.int r970.2.1.2.1), some (.long r973.1), none, some (.int (xb r1097.1)), some (.ref (xn r1218.1))]) rfl) ?_
                  refine xy_r (xw_aload dM_bound_120 rfl) ?_
                  refine xy_r (xw_lload dM_bound_122 rfl) ?_
                  obtain ⟨g1221, hF⟩ := xg_g hF
                  refine xy_r (xg_put dM_bound_124 fM_201 (mV_n g1221) (xn_le _) (Nat.le_of_ble_eq_true rfl) (fun _ => rfl) (fun _ => rfl) (mV_e (s' := (r1218.2.1, r1218.2.2.1, (r1218.2.2.2.1.1, r1218.2.2.2.1.2.1, r1218.2.2.2.1.2.2.1, r1218.2.2.2.1.2.2.2.1, r1218.2.2.2.1.2.2.2.2.1, (va_up r1218.2.2.2.1.2.2.2.2.2.1 r1218.1 (nNumber (r1218.2.2.2.1.2.2.2.2.2.1 r1218.1) r973.1)), r1218.2.2.2.1.2.2.2.2.2.2), r1218.2.2.2.2)) (mV_pn (q := (nNumber (r1218.2.2.2.1.2.2.2.2.2.1 r1218.1) r973.1)) g1221) rfl)) ?_
                  refine xy_r (xw_aload_n dM_bound_127 rfl) ?_
                  refine xy_r (xw_aload dM_bound_128 rfl) ?_
                  obtain ⟨g1222, hF⟩ := xg_g hF
                  obtain ⟨r1223, er1223, hF⟩ := xg_b hF
                  have hm1224 : m0 ≤ r1223.2.2.1.2.2.2.2.2.2.1 ∧ n0 ≤ r1223.2.2.1.2.2.2.2.2.2.2 := xy_le hm1219 (show r1218.2.2.2.1.2.2.2.2.2.2.1 ≤ r1223.2.2.1.2.2.2.2.2.2.1 ∧ r1218.2.2.2.1.2.2.2.2.2.2.2 ≤ r1223.2.2.1.2.2.2.2.2.2.2 from (CN_add (w := w) (h := h) hb (s := (r1218.2.1, r1218.2.2.1, (r1218.2.2.2.1.1, r1218.2.2.2.1.2.1, r1218.2.2.2.1.2.2.1, r1218.2.2.2.1.2.2.2.1, r1218.2.2.2.1.2.2.2.2.1, (va_up r1218.2.2.2.1.2.2.2.2.2.1 r1218.1 (nNumber (r1218.2.2.2.1.2.2.2.2.2.1 r1218.1) r973.1)), r1218.2.2.2.1.2.2.2.2.2.2), r1218.2.2.2.2)) er1223).1)
                  refine xy_V0 (nl := 2) (sm := r1218.2.2.2.1.2.2.2.2.2.2.1) (sn := r1218.2.2.2.1.2.2.2.2.2.2.2) (tm := r1223.2.2.1.2.2.2.2.2.2.1) (tn := r1223.2.2.1.2.2.2.2.2.2.2) (CN_add hb (s := (r1218.2.1, r1218.2.2.1, (r1218.2.2.2.1.1, r1218.2.2.2.1.2.1, r1218.2.2.2.1.2.2.1, r1218.2.2.2.1.2.2.2.1, r1218.2.2.2.1.2.2.2.2.1, (va_up r1218.2.2.2.1.2.2.2.2.2.1 r1218.1 (nNumber (r1218.2.2.2.1.2.2.2.2.2.1 r1218.1) r973.1)), r1218.2.2.2.1.2.2.2.2.2.2), r1218.2.2.2.2)) er1223) rfl rfl hm1219 (fun _ => rfl) (fun _ => rfl) (fun _ => rfl) (fun _ => dM_bound_130) (fun _ R => kM_257 R) (fun _ => rfl) ⟨by omega, by omega⟩ rfl rfl (mV_n g1222) (fun _ => rfl) (Nat.le_of_ble_eq_true rfl) ?_
                  refine xy_r (xw_iinc ((l3 + 1)) dM_bound_133 rfl rfl (Nat.le_of_ble_eq_true rfl)) ?_
                  refine xy_r (xw_Ln (L' := [some (.ref 2000), some (.ref (xn l1)), some (.int l2), some (.int (l3 + 1)), some (.int r970.2.1.2.1), some (.long r973.1), none, some (.int (xb r1097.1)), some (.ref (xn r1218.1))]) rfl) ?_
                  refine xy_r (xw_aload_n dM_bound_136 rfl) ?_
                  refine xy_r (xw_dup_r dM_bound_137) ?_
                  refine xy_r (xw_get dM_bound_138 fM_221 rfl rfl) ?_
                  refine xy_r (xw_iconst (1) dM_bound_141 (by decide)) ?_
                  refine xy_r (xw_iadd dM_bound_142) ?_
                  refine xy_r (xg_put dM_bound_143 fM_221 rfl (by decide) (Nat.le_of_ble_eq_true rfl) (fun _ => rfl) (fun _ => rfl) (mV_o (s' := (r1223.1, (r1223.2.1.1, (r1223.2.1.2.1 + 1), r1223.2.1.2.2), r1223.2.2)) rfl)) ?_
                  refine xy_r (xw_iload_n dM_bound_146 rfl) ?_
                  refine xy_r (xw_bipush (35) dM_bound_147 (by decide)) ?_
                  refine xy_brn (xw_icmp_ne 155 dM_bound_149 (by decide)) (fun c1226 => ?_) (fun c1226 => ?_)
                  · replace hF := xg_f c1226 hF
                    refine xy_r (xw_aload_n dM_bound_155 rfl) ?_
                    refine xy_r (xw_aload_n dM_bound_156 rfl) ?_
                    rcases xg_o hF with ⟨r1227, er1227, hF⟩ | ⟨r1227, er1227, hF⟩
                    · have hm1228 : m0 ≤ r1227.2.2.2.1.2.2.2.2.2.2.1 ∧ n0 ≤ r1227.2.2.2.1.2.2.2.2.2.2.2 := xy_le hm1224 (show r1223.2.2.1.2.2.2.2.2.2.1 ≤ r1227.2.2.2.1.2.2.2.2.2.2.1 ∧ r1223.2.2.1.2.2.2.2.2.2.2 ≤ r1227.2.2.2.1.2.2.2.2.2.2.2 from ((hp.1 (h := h) hb (s := (r1223.1, (r1223.2.1.1, (r1223.2.1.2.1 + 1), r1223.2.1.2.2), r1223.2.2)) er1227)).1)
                      refine xy_V1 (nl := 4) (sm := r1223.2.2.1.2.2.2.2.2.2.1) (sn := r1223.2.2.1.2.2.2.2.2.2.2) (tm := r1227.2.2.2.1.2.2.2.2.2.2.1) (tn := r1227.2.2.2.1.2.2.2.2.2.2.2) (hp.1 hb (s := (r1223.1, (r1223.2.1.1, (r1223.2.1.2.1 + 1), r1223.2.1.2.2), r1223.2.2)) er1227) rfl rfl hm1224 (fun _ => rfl) (fun _ => rfl) (fun _ => rfl) (fun _ => dM_bound_157) (fun _ R => kM_249 R) (fun _ => rfl) ⟨by omega, by omega⟩ rfl rfl rfl (fun _ => rfl) (Nat.le_of_ble_eq_true rfl) ?_
                      obtain ⟨g1230, hF⟩ := xg_g hF
                      obtain ⟨r1231, er1231, hF⟩ := xg_b hF
                      have hm1232 : m0 ≤ r1231.2.2.1.2.2.2.2.2.2.1 ∧ n0 ≤ r1231.2.2.1.2.2.2.2.2.2.2 := xy_le hm1228 (show r1227.2.2.2.1.2.2.2.2.2.2.1 ≤ r1231.2.2.1.2.2.2.2.2.2.1 ∧ r1227.2.2.2.1.2.2.2.2.2.2.2 ≤ r1231.2.2.1.2.2.2.2.2.2.2 from (CN_add (w := w) (h := h) hb (s := r1227.2) er1231).1)
                      refine xy_V0 (nl := 2) (sm := r1227.2.2.2.1.2.2.2.2.2.2.1) (sn := r1227.2.2.2.1.2.2.2.2.2.2.2) (tm := r1231.2.2.1.2.2.2.2.2.2.1) (tn := r1231.2.2.1.2.2.2.2.2.2.2) (CN_add hb (s := r1227.2) er1231) rfl rfl hm1228 (fun _ => rfl) (fun _ => rfl) (fun _ => rfl) (fun _ => dM_bound_160) (fun _ R => kM_257 R) (fun _ => rfl) ⟨by omega, by omega⟩ rfl rfl (mV_n g1230) (fun _ => rfl) (Nat.le_of_ble_eq_true rfl) ?_
                      refine xy_r (xw_aload_n dM_bound_163 rfl) ?_
                      refine xy_r (xw_bipush (44) dM_bound_164 (by decide)) ?_
                      rcases xg_o hF with ⟨r1234, er1234, hF⟩ | ⟨r1234, er1234, hF⟩
                      · have hm1235 : m0 ≤ r1234.2.2.2.1.2.2.2.2.2.2.1 ∧ n0 ≤ r1234.2.2.2.1.2.2.2.2.2.2.2 := xy_le hm1232 (show r1231.2.2.1.2.2.2.2.2.2.1 ≤ r1234.2.2.2.1.2.2.2.2.2.2.1 ∧ r1231.2.2.1.2.2.2.2.2.2.2 ≤ r1234.2.2.2.1.2.2.2.2.2.2.2 from (CM_expect (w := w) (h := h) hb (s := r1231) er1234).1)
                        refine xy_V0 (nl := 2) (sm := r1231.2.2.1.2.2.2.2.2.2.1) (sn := r1231.2.2.1.2.2.2.2.2.2.2) (tm := r1234.2.2.2.1.2.2.2.2.2.2.1) (tn := r1234.2.2.2.1.2.2.2.2.2.2.2) (CM_expect hb (s := r1231) er1234) rfl rfl hm1232 (fun _ => rfl) (fun _ => rfl) (fun _ => rfl) (fun _ => dM_bound_166) (fun _ R => kM_246 R) (fun _ => rfl) ⟨by omega, by omega⟩ rfl rfl rfl (fun _ => rfl) (Nat.le_of_ble_eq_true rfl) ?_
                        refine xy_r (xw_goto 2 dM_bound_169 (by decide)) ?_
                        refine xy_r (xw_drop (L' := [some (.ref 2000), some (.ref (xn l1)), some (.int l2), some (.int (l3 + 1)), none, none, none, none, none]) ⟨rfl, ⟨rfl, ⟨rfl, ⟨rfl, trivial⟩⟩⟩⟩) ?_
                        exact ih (s := r1234.2) hm1235 hF
                      · subst hF
                        exact xy_Vt (nl := 2) (sm := r1231.2.2.1.2.2.2.2.2.2.1) (sn := r1231.2.2.1.2.2.2.2.2.2.2) (tm := r1234.2.2.2.1.2.2.2.2.2.2.1) (tn := r1234.2.2.2.1.2.2.2.2.2.2.2) (CM_expect hb (s := r1231) er1234) rfl rfl hm1232 (fun _ => rfl) (fun _ => rfl) (fun _ => rfl) (fun _ => dM_bound_166) (fun _ R => kM_246 R) (fun _ => rfl) ⟨by omega, by omega⟩ rfl rfl rfl (fun _ => rfl) (Nat.le_of_ble_eq_true rfl) ⟨rfl, rfl⟩
                    · subst hF
                      exact xy_Vt (nl := 4) (sm := r1223.2.2.1.2.2.2.2.2.2.1) (sn := r1223.2.2.1.2.2.2.2.2.2.2) (tm := r1227.2.2.2.1.2.2.2.2.2.2.1) (tn := r1227.2.2.2.1.2.2.2.2.2.2.2) (hp.1 hb (s := (r1223.1, (r1223.2.1.1, (r1223.2.1.2.1 + 1), r1223.2.1.2.2), r1223.2.2)) er1227) rfl rfl hm1224 (fun _ => rfl) (fun _ => rfl) (fun _ => rfl) (fun _ => dM_bound_157) (fun _ R => kM_249 R) (fun _ => rfl) ⟨by omega, by omega⟩ rfl rfl rfl (fun _ => rfl) (Nat.le_of_ble_eq_true rfl) ⟨rfl, rfl⟩
                  · replace hF := xg_t c1226 hF
                    refine xy_r (xw_goto 2 dM_bound_152 (by decide)) ?_
                    refine xy_r (xw_drop (L' := [some (.ref 2000), some (.ref (xn l1)), some (.int l2), some (.int (l3 + 1)), none, none, none, none, none]) ⟨rfl, ⟨rfl, ⟨rfl, ⟨rfl, trivial⟩⟩⟩⟩) ?_
                    exact ih (s := (r1223.1, (r1223.2.1.1, (r1223.2.1.2.1 + 1), r1223.2.1.2.2), r1223.2.2)) hm1224 hF
                · replace hF := xg_f c1217 hF
                  refine xy_r (xw_aload_n dM_bound_103 rfl) ?_
                  refine xy_r (xw_iload dM_bound_104 rfl) ?_
                  refine xy_r (xg_put dM_bound_106 fM_221 rfl (by decide) (Nat.le_of_ble_eq_true rfl) (fun _ => rfl) (fun _ => rfl) (mV_o (s' := (r1214.2.1, (r1214.2.2.1.1, r970.2.1.2.1, r1214.2.2.1.2.2), r1214.2.2.2)) rfl)) ?_
                  refine xy_r (xw_goto 172 dM_bound_109 (by decide)) ?_
                  refine xy_r (xw_aload_n dM_bound_172 rfl) ?_
                  refine xy_r (xw_aload_n dM_bound_173 rfl) ?_
                  rcases xg_o hF with ⟨r1237, er1237, hF⟩ | ⟨r1237, er1237, hF⟩
                  · have hm1238 : m0 ≤ r1237.2.2.2.1.2.2.2.2.2.2.1 ∧ n0 ≤ r1237.2.2.2.1.2.2.2.2.2.2.2 := xy_le hm1215 (show r1214.2.2.2.1.2.2.2.2.2.2.1 ≤ r1237.2.2.2.1.2.2.2.2.2.2.1 ∧ r1214.2.2.2.1.2.2.2.2.2.2.2 ≤ r1237.2.2.2.1.2.2.2.2.2.2.2 from ((hp.1 (h := h) hb (s := (r1214.2.1, (r1214.2.2.1.1, r970.2.1.2.1, r1214.2.2.1.2.2), r1214.2.2.2)) er1237)).1)
                    refine xy_V1 (nl := 4) (sm := r1214.2.2.2.1.2.2.2.2.2.2.1) (sn := r1214.2.2.2.1.2.2.2.2.2.2.2) (tm := r1237.2.2.2.1.2.2.2.2.2.2.1) (tn := r1237.2.2.2.1.2.2.2.2.2.2.2) (hp.1 hb (s := (r1214.2.1, (r1214.2.2.1.1, r970.2.1.2.1, r1214.2.2.1.2.2), r1214.2.2.2)) er1237) rfl rfl hm1215 (fun _ => rfl) (fun _ => rfl) (fun _ => rfl) (fun _ => dM_bound_174) (fun _ R => kM_249 R) (fun _ => rfl) ⟨by omega, by omega⟩ rfl rfl rfl (fun _ => rfl) (Nat.le_of_ble_eq_true rfl) ?_
                    obtain ⟨g1240, hF⟩ := xg_g hF
                    obtain ⟨r1241, er1241, hF⟩ := xg_b hF
                    have hm1242 : m0 ≤ r1241.2.2.1.2.2.2.2.2.2.1 ∧ n0 ≤ r1241.2.2.1.2.2.2.2.2.2.2 := xy_le hm1238 (show r1237.2.2.2.1.2.2.2.2.2.2.1 ≤ r1241.2.2.1.2.2.2.2.2.2.1 ∧ r1237.2.2.2.1.2.2.2.2.2.2.2 ≤ r1241.2.2.1.2.2.2.2.2.2.2 from (CN_add (w := w) (h := h) hb (s := r1237.2) er1241).1)
                    refine xy_V0 (nl := 2) (sm := r1237.2.2.2.1.2.2.2.2.2.2.1) (sn := r1237.2.2.2.1.2.2.2.2.2.2.2) (tm := r1241.2.2.1.2.2.2.2.2.2.1) (tn := r1241.2.2.1.2.2.2.2.2.2.2) (CN_add hb (s := r1237.2) er1241) rfl rfl hm1238 (fun _ => rfl) (fun _ => rfl) (fun _ => rfl) (fun _ => dM_bound_177) (fun _ R => kM_257 R) (fun _ => rfl) ⟨by omega, by omega⟩ rfl rfl (mV_n g1240) (fun _ => rfl) (Nat.le_of_ble_eq_true rfl) ?_
                    refine xy_r (xw_aload_n dM_bound_180 rfl) ?_
                    refine xy_r (xw_bipush (44) dM_bound_181 (by decide)) ?_
                    obtain ⟨r1244, er1244, hF⟩ := xg_b hF
                    have hm1245 : m0 ≤ r1244.2.2.2.1.2.2.2.2.2.2.1 ∧ n0 ≤ r1244.2.2.2.1.2.2.2.2.2.2.2 := xy_le hm1242 (show r1241.2.2.1.2.2.2.2.2.2.1 ≤ r1244.2.2.2.1.2.2.2.2.2.2.1 ∧ r1241.2.2.1.2.2.2.2.2.2.2 ≤ r1244.2.2.2.1.2.2.2.2.2.2.2 from (CM_next (w := w) (h := h) hb (s := r1241) er1244).1)
                    refine xy_V1 (nl := 2) (sm := r1241.2.2.1.2.2.2.2.2.2.1) (sn := r1241.2.2.1.2.2.2.2.2.2.2) (tm := r1244.2.2.2.1.2.2.2.2.2.2.1) (tn := r1244.2.2.2.1.2.2.2.2.2.2.2) (CM_next hb (s := r1241) er1244) rfl rfl hm1242 (fun _ => rfl) (fun _ => rfl) (fun _ => rfl) (fun _ => dM_bound_183) (fun _ R => kM_236 R) (fun _ => rfl) ⟨by omega, by omega⟩ rfl rfl rfl (fun _ => rfl) (Nat.le_of_ble_eq_true rfl) ?_
                    refine xy_brn (xw_if_eqB 211 dM_bound_186 (by decide)) (fun c1247 => ?_) (fun c1247 => ?_)
                    · replace hF := xg_f c1247 hF
                      obtain rfl := Option.some.inj hF
                      exact xy_end (xw_return dM_bound_211 rfl (Nat.le_refl _) (Nat.le_refl _) ⟨rfl, rfl⟩)
                    · replace hF := xg_t c1247 hF
                      refine xy_r (xw_aload_n dM_bound_189 rfl) ?_
                      refine xy_r (xw_dup_r dM_bound_190) ?_
                      refine xy_r (xw_get dM_bound_191 fM_221 rfl rfl) ?_
                      refine xy_r (xw_iconst (1) dM_bound_194 (by decide)) ?_
                      refine xy_r (xw_iadd dM_bound_195) ?_
                      refine xy_r (xg_put dM_bound_196 fM_221 rfl (by decide) (Nat.le_of_ble_eq_true rfl) (fun _ => rfl) (fun _ => rfl) (mV_o (s' := (r1244.2.1, (r1244.2.2.1.1, (r1244.2.2.1.2.1 + 1), r1244.2.2.1.2.2), r1244.2.2.2)) rfl)) ?_
                      refine xy_r (xw_aload_n dM_bound_199 rfl) ?_
                      obtain ⟨r1248, er1248, hF⟩ := xg_b hF
                      have hm1249 : m0 ≤ r1248.2.2.1.2.2.2.2.2.2.1 ∧ n0 ≤ r1248.2.2.1.2.2.2.2.2.2.2 := xy_le hm1245 (show r1244.2.2.2.1.2.2.2.2.2.2.1 ≤ r1248.2.2.1.2.2.2.2.2.2.1 ∧ r1244.2.2.2.1.2.2.2.2.2.2.2 ≤ r1248.2.2.1.2.2.2.2.2.2.2 from (CM_blanks (w := w) (h := h) hb (s := (r1244.2.1, (r1244.2.2.1.1, (r1244.2.2.1.2.1 + 1), r1244.2.2.1.2.2), r1244.2.2.2)) er1248).1)
                      refine xy_V0 (nl := 1) (sm := r1244.2.2.2.1.2.2.2.2.2.2.1) (sn := r1244.2.2.2.1.2.2.2.2.2.2.2) (tm := r1248.2.2.1.2.2.2.2.2.2.1) (tn := r1248.2.2.1.2.2.2.2.2.2.2) (CM_blanks hb (s := (r1244.2.1, (r1244.2.2.1.1, (r1244.2.2.1.2.1 + 1), r1244.2.2.1.2.2), r1244.2.2.2)) er1248) rfl rfl hm1245 (fun _ => rfl) (fun _ => rfl) (fun _ => rfl) (fun _ => dM_bound_200) (fun _ R => kM_233 R) (fun _ => rfl) ⟨by omega, by omega⟩ rfl rfl rfl (fun _ => rfl) (Nat.le_of_ble_eq_true rfl) ?_
                      refine xy_r (xw_aload_n dM_bound_203 rfl) ?_
                      refine xy_r (xw_aload_n dM_bound_204 rfl) ?_
                      refine xy_r (xw_get dM_bound_205 fM_221 rfl rfl) ?_
                      rcases xg_o hF with ⟨r1251, er1251, hF⟩ | ⟨r1251, er1251, hF⟩
                      · have hm1252 : m0 ≤ r1251.2.2.2.1.2.2.2.2.2.2.1 ∧ n0 ≤ r1251.2.2.2.1.2.2.2.2.2.2.2 := xy_le hm1249 (show r1248.2.2.1.2.2.2.2.2.2.1 ≤ r1251.2.2.2.1.2.2.2.2.2.2.1 ∧ r1248.2.2.1.2.2.2.2.2.2.2 ≤ r1251.2.2.2.1.2.2.2.2.2.2.2 from (CM_bad (w := w) (h := h) hb (s := r1248) er1251).1)
                        refine xy_V0 (nl := 2) (sm := r1248.2.2.1.2.2.2.2.2.2.1) (sn := r1248.2.2.1.2.2.2.2.2.2.2) (tm := r1251.2.2.2.1.2.2.2.2.2.2.1) (tn := r1251.2.2.2.1.2.2.2.2.2.2.2) (CM_bad hb (s := r1248) er1251) rfl rfl hm1249 (fun _ => rfl) (fun _ => rfl) (fun _ => rfl) (fun _ => dM_bound_208) (fun _ R => kM_239 R) (fun _ => rfl) ⟨by omega, by omega⟩ rfl rfl rfl (fun _ => rfl) (Nat.le_of_ble_eq_true rfl) ?_
                        obtain rfl := Option.some.inj hF
                        exact xy_end (xw_return dM_bound_211 rfl (Nat.le_refl _) (Nat.le_refl _) ⟨rfl, rfl⟩)
                      · subst hF
                        exact xy_Vt (nl := 2) (sm := r1248.2.2.1.2.2.2.2.2.2.1) (sn := r1248.2.2.1.2.2.2.2.2.2.2) (tm := r1251.2.2.2.1.2.2.2.2.2.2.1) (tn := r1251.2.2.2.1.2.2.2.2.2.2.2) (CM_bad hb (s := r1248) er1251) rfl rfl hm1249 (fun _ => rfl) (fun _ => rfl) (fun _ => rfl) (fun _ => dM_bound_208) (fun _ R => kM_239 R) (fun _ => rfl) ⟨by omega, by omega⟩ rfl rfl rfl (fun _ => rfl) (Nat.le_of_ble_eq_true rfl) ⟨rfl, rfl⟩
                  · subst hF
                    exact xy_Vt (nl := 4) (sm := r1214.2.2.2.1.2.2.2.2.2.2.1) (sn := r1214.2.2.2.1.2.2.2.2.2.2.2) (tm := r1237.2.2.2.1.2.2.2.2.2.2.1) (tn := r1237.2.2.2.1.2.2.2.2.2.2.2) (hp.1 hb (s := (r1214.2.1, (r1214.2.2.1.1, r970.2.1.2.1, r1214.2.2.1.2.2), r1214.2.2.2)) er1237) rfl rfl hm1215 (fun _ => rfl) (fun _ => rfl) (fun _ => rfl) (fun _ => dM_bound_174) (fun _ R => kM_249 R) (fun _ => rfl) ⟨by omega, by omega⟩ rfl rfl rfl (fun _ => rfl) (Nat.le_of_ble_eq_true rfl) ⟨rfl, rfl⟩
              · subst hF
                exact xy_Vt (nl := 2) (sm := r1097.2.2.2.1.2.2.2.2.2.2.1) (sn := r1097.2.2.2.1.2.2.2.2.2.2.2) (tm := r1214.2.2.2.1.2.2.2.2.2.2.1) (tn := r1214.2.2.2.1.2.2.2.2.2.2.2) (CM_bad hb (s := r1097.2) er1214) rfl rfl hm1098 (fun _ => rfl) (fun _ => rfl) (fun _ => rfl) (fun _ => dM_bound_74) (fun _ R => kM_239 R) (fun _ => rfl) ⟨by omega, by omega⟩ rfl rfl rfl (fun _ => rfl) (Nat.le_of_ble_eq_true rfl) ⟨rfl, rfl⟩
set_option maxRecDepth 20000 in
theorem CM_bound {w : xw_G} {p : xTP} {d : Nat} (hp : xKP w p d) {h : xw_H} (hb : xMb h) {x0 : Nat} {x1 : Int32} {s : xMs} {out : (xo Unit xMs)} (hF : FM_bound p x0 x1 s = some out) : (s.2.2.1.2.2.2.2.2.2.1 ≤ (xo_s out).2.2.1.2.2.2.2.2.2.1 ∧ s.2.2.1.2.2.2.2.2.2.2 ≤ (xo_s out).2.2.1.2.2.2.2.2.2.2) ∧ xw_C w (mM_bound { frames := (d + 1 + 20), cells := (xo_s out).2.2.1.2.2.2.2.2.2.1 - s.2.2.1.2.2.2.2.2.2.1, slots := (xo_s out).2.2.1.2.2.2.2.2.2.2 - s.2.2.1.2.2.2.2.2.2.2, locals := (60 * (d + 1) + 600) }) (xo_P (fun x => none) (fun s => mV s h) out) [.ref 2000, .ref (xn x0), .int x1] (mV s h) := by
  unfold FM_bound at hF
  refine xy_enter (L := [some (.ref 2000), some (.ref (xn x0)), some (.int x1), none, none, none, none, none, none]) (fun _ => rfl) (fun _ => rfl) (fun _ => (show plainName "FormulaShaperModel" = true by decide +kernel)) (fun _ => (Nat.le_of_ble_eq_true rfl)) (fun _ => rfl) ?_
  have hm : s.2.2.1.2.2.2.2.2.2.1 ≤ s.2.2.1.2.2.2.2.2.2.1 ∧ s.2.2.1.2.2.2.2.2.2.2 ≤ s.2.2.1.2.2.2.2.2.2.2 := ⟨Nat.le_refl _, Nat.le_refl _⟩
  refine xy_r (xw_iconst (0) dM_bound_0 (by decide)) ?_
  refine xy_r (xw_istore_n dM_bound_1 (Nat.le_of_ble_eq_true rfl)) ?_
  refine xy_r (xw_Ln (L' := [some (.ref 2000), some (.ref (xn x0)), some (.int x1), some (.int 0), none, none, none, none, none]) rfl) ?_
  exact CM_bound_2 (hp := hp) hb xFuel (s := s) hm hF
