/-- what the methods show, showSpine, showPlain, parts mean, to a depth -/
abbrev xTS : Type := (Nat → xMs → Option xMs) × (Nat → xMs → Option xMs) × (Nat → xMs → Option xMs) × (Nat → Int32 → xMs → Option xMs)
def xKS (w : xw_G) (p : xTS) (d : Nat) : Prop := (∀ {h : xw_H}, xMb h → ∀ {x0 : Nat} {s : xMs} {out : xMs}, p.1 x0 s = some out → (s.2.2.1.2.2.2.2.2.2.1 ≤ out.2.2.1.2.2.2.2.2.2.1 ∧ s.2.2.1.2.2.2.2.2.2.2 ≤ out.2.2.1.2.2.2.2.2.2.2) ∧ xw_C w (mM_show_LFormulaShaperModelNodeV { frames := d + 20, cells := out.2.2.1.2.2.2.2.2.2.1 - s.2.2.1.2.2.2.2.2.2.1, slots := out.2.2.1.2.2.2.2.2.2.2 - s.2.2.1.2.2.2.2.2.2.2, locals := 60 * d + 600 }) (xw_R none (mV out h)) [.ref 2000, .ref (xn x0)] (mV s h)) ∧ (∀ {h : xw_H}, xMb h → ∀ {x0 : Nat} {s : xMs} {out : xMs}, p.2.1 x0 s = some out → (s.2.2.1.2.2.2.2.2.2.1 ≤ out.2.2.1.2.2.2.2.2.2.1 ∧ s.2.2.1.2.2.2.2.2.2.2 ≤ out.2.2.1.2.2.2.2.2.2.2) ∧ xw_C w (mM_showSpine { frames := d + 20, cells := out.2.2.1.2.2.2.2.2.2.1 - s.2.2.1.2.2.2.2.2.2.1, slots := out.2.2.1.2.2.2.2.2.2.2 - s.2.2.1.2.2.2.2.2.2.2, locals := 60 * d + 600 }) (xw_R none (mV out h)) [.ref 2000, .ref (xn x0)] (mV s h)) ∧ (∀ {h : xw_H}, xMb h → ∀ {x0 : Nat} {s : xMs} {out : xMs}, p.2.2.1 x0 s = some out → (s.2.2.1.2.2.2.2.2.2.1 ≤ out.2.2.1.2.2.2.2.2.2.1 ∧ s.2.2.1.2.2.2.2.2.2.2 ≤ out.2.2.1.2.2.2.2.2.2.2) ∧ xw_C w (mM_showPlain { frames := d + 20, cells := out.2.2.1.2.2.2.2.2.2.1 - s.2.2.1.2.2.2.2.2.2.1, slots := out.2.2.1.2.2.2.2.2.2.2 - s.2.2.1.2.2.2.2.2.2.2, locals := 60 * d + 600 }) (xw_R none (mV out h)) [.ref 2000, .ref (xn x0)] (mV s h)) ∧ (∀ {h : xw_H}, xMb h → ∀ {x0 : Nat} {x1 : Int32} {s : xMs} {out : xMs}, p.2.2.2 x0 x1 s = some out → (s.2.2.1.2.2.2.2.2.2.1 ≤ out.2.2.1.2.2.2.2.2.2.1 ∧ s.2.2.1.2.2.2.2.2.2.2 ≤ out.2.2.1.2.2.2.2.2.2.2) ∧ xw_C w (mM_parts { frames := d + 20, cells := out.2.2.1.2.2.2.2.2.2.1 - s.2.2.1.2.2.2.2.2.2.1, slots := out.2.2.1.2.2.2.2.2.2.2 - s.2.2.1.2.2.2.2.2.2.2, locals := 60 * d + 600 }) (xw_R none (mV out h)) [.ref 2000, .ref (xn x0), .int x1] (mV s h))
theorem xZS {μ : xw_M} {d c n : Nat} (h : μ.2.2.2.2.1.frames + 1 ≤ 21) (h2 : 8 + (μ.2.2.1 + 11) + μ.2.2.2.2.1.locals ≤ 660) : xw_fit { frames := d + 1 + 20, cells := c, slots := n, locals := 60 * (d + 1) + 600 } μ := ⟨by show _ ≤ d + 1 + 20; omega, by show _ ≤ 60 * (d + 1) + 600; omega⟩
def FM_show_LFormulaShaperModelNodeV_104 (p : xTS) : Nat → Int32 → Int32 → xMs → Option xMs
  | 0, _, _, _ => none
  | fu + 1, l3, l4, s => if l3 ≤ l4 then (some s) else ((FM_put_IV 37 s).bind fun r1388 => FM_show_LFormulaShaperModelNodeV_104 p fu l3 (l4 + 1) r1388)
def FM_show_LFormulaShaperModelNodeV_50 (p : xTS) : Nat → Option Nat → Int32 → xMs → Option xMs
  | 0, _, _, _ => none
  | fu + 1, l2, l3, s => (l2).bind fun i1380 => if i1380 < s.2.2.1.2.2.2.2.1 then (if (s.2.2.1.2.2.2.2.2.1 i1380).1.1 = 12 then (FM_show_LFormulaShaperModelNodeV_50 p fu (s.2.2.1.2.2.2.2.2.1 i1380).2.2.1 (l3 + 1) s) else (if (s.2.2.1.2.2.2.2.2.1 i1380).1.1 = 9 then ((p.2.1 i1380 s).bind fun r1384 => FM_show_LFormulaShaperModelNodeV_104 p xFuel l3 0 r1384) else (if (s.2.2.1.2.2.2.2.2.1 i1380).1.1 = 13 then ((p.2.1 i1380 s).bind fun r1395 => FM_show_LFormulaShaperModelNodeV_104 p xFuel l3 0 r1395) else ((p.2.2.1 i1380 s).bind fun r1392 => FM_show_LFormulaShaperModelNodeV_104 p xFuel l3 0 r1392)))) else none
def FM_show_LFormulaShaperModelNodeV_2 (p : xTS) : Nat → Option Nat → xMs → Option xMs
  | 0, _, _ => none
  | fu + 1, l2, s => (l2).bind fun i1367 => if i1367 < s.2.2.1.2.2.2.2.1 then (if (s.2.2.1.2.2.2.2.2.1 i1367).1.1 = 10 then (if (s.2.2.1.2.2.2.2.2.1 i1367).1.1 = 10 then ((FM_put_IV 43 s).bind fun r1375 => if i1367 < r1375.2.2.1.2.2.2.2.1 then (FM_show_LFormulaShaperModelNodeV_2 p fu (r1375.2.2.1.2.2.2.2.2.1 i1367).2.2.1 r1375) else none) else ((FM_put_IV 45 s).bind fun r1371 => if i1367 < r1371.2.2.1.2.2.2.2.1 then (FM_show_LFormulaShaperModelNodeV_2 p fu (r1371.2.2.1.2.2.2.2.2.1 i1367).2.2.1 r1371) else none)) else (if (s.2.2.1.2.2.2.2.2.1 i1367).1.1 = 11 then (if (s.2.2.1.2.2.2.2.2.1 i1367).1.1 = 10 then ((FM_put_IV 43 s).bind fun r1403 => if i1367 < r1403.2.2.1.2.2.2.2.1 then (FM_show_LFormulaShaperModelNodeV_2 p fu (r1403.2.2.1.2.2.2.2.2.1 i1367).2.2.1 r1403) else none) else ((FM_put_IV 45 s).bind fun r1399 => if i1367 < r1399.2.2.1.2.2.2.2.1 then (FM_show_LFormulaShaperModelNodeV_2 p fu (r1399.2.2.1.2.2.2.2.2.1 i1367).2.2.1 r1399) else none)) else (FM_show_LFormulaShaperModelNodeV_50 p xFuel (some i1367) 0 s))) else none
/-- FormulaShaperModel.show -/
def FM_show_LFormulaShaperModelNodeV (p : xTS) (x0 : Nat) (s : xMs) : Option xMs := FM_show_LFormulaShaperModelNodeV_2 p xFuel (some x0) s
set_option maxRecDepth 20000 in
theorem CM_show_LFormulaShaperModelNodeV_104 {w : xw_G} {p : xTS} {d : Nat} (hp : xKS w p d) {h : xw_H} (hb : xMb h)  : ∀ (fu : Nat) {l3 : Int32} {l4 : Int32} {s : xMs} {out : xMs} {h0 : xw_H} {m0 n0 : Nat} (hm : m0 ≤ s.2.2.1.2.2.2.2.2.2.1 ∧ n0 ≤ s.2.2.1.2.2.2.2.2.2.2), FM_show_LFormulaShaperModelNodeV_104 p fu l3 l4 s = some out → xw_Y w mM_show_LFormulaShaperModelNodeV (d + 1 + 20) (60 * (d + 1) + 600) (xw_R none (mV out h)) h0 m0 n0 s.2.2.1.2.2.2.2.2.2.1 s.2.2.1.2.2.2.2.2.2.2 out.2.2.1.2.2.2.2.2.2.1 out.2.2.1.2.2.2.2.2.2.2 104 [some (.ref 2000), none, none, some (.int l3), some (.int l4)] [] (mV s h) := by
  intro fu
  induction fu with
  | zero =>
    intro l3 l4 s out h0 m0 n0 hm hF
    rw [FM_show_LFormulaShaperModelNodeV_104] at hF
    cases hF
  | succ fu ih =>
    intro l3 l4 s out h0 m0 n0 hm hF
    rw [FM_show_LFormulaShaperModelNodeV_104] at hF
    refine xy_r (xw_iload dM_show_LFormulaShaperModelNodeV_104 rfl) ?_
    refine xy_r (xw_iload_n dM_show_LFormulaShaperModelNodeV_106 rfl) ?_
    refine xy_br (xw_icmp_ge 122 dM_show_LFormulaShaperModelNodeV_107 (by decide)) (fun c1387 => ?_) (fun c1387 => ?_)
    · replace hF := xg_t c1387 hF
      obtain rfl := Option.some.inj hF
      exact xy_end (xw_return dM_show_LFormulaShaperModelNodeV_122 rfl (Nat.le_refl _) (Nat.le_refl _) ⟨rfl, rfl⟩)
    · replace hF := xg_f c1387 hF
      refine xy_r (xw_aload_n dM_show_LFormulaShaperModelNodeV_110 rfl) ?_
      refine xy_r (xw_bipush (37) dM_show_LFormulaShaperModelNodeV_111 (by decide)) ?_
      obtain ⟨r1388, er1388, hF⟩ := xg_b hF
      have hm1389 : m0 ≤ r1388.2.2.1.2.2.2.2.2.2.1 ∧ n0 ≤ r1388.2.2.1.2.2.2.2.2.2.2 := xy_le hm (show s.2.2.1.2.2.2.2.2.2.1 ≤ r1388.2.2.1.2.2.2.2.2.2.1 ∧ s.2.2.1.2.2.2.2.2.2.2 ≤ r1388.2.2.1.2.2.2.2.2.2.2 from (CM_put_IV (w := w) (h := h) hb (s := s) er1388).1)
      refine xy_V0 (nl := 4) (sm := s.2.2.1.2.2.2.2.2.2.1) (sn := s.2.2.1.2.2.2.2.2.2.2) (tm := r1388.2.2.1.2.2.2.2.2.2.1) (tn := r1388.2.2.1.2.2.2.2.2.2.2) (CM_put_IV hb (s := s) er1388) rfl rfl hm (fun _ => rfl) (fun _ => rfl) (fun _ => rfl) (fun _ => dM_show_LFormulaShaperModelNodeV_113) (fun _ R => kM_423 R) (fun _ => rfl) ⟨by omega, by omega⟩ rfl rfl rfl (fun _ => rfl) (Nat.le_of_ble_eq_true rfl) ?_
      refine xy_r (xw_iinc ((l4 + 1)) dM_show_LFormulaShaperModelNodeV_116 rfl rfl (Nat.le_of_ble_eq_true rfl)) ?_
      refine xy_r (xw_Ln (L' := [some (.ref 2000), none, none, some (.int l3), some (.int (l4 + 1))]) rfl) ?_
      refine xy_r (xw_goto 104 dM_show_LFormulaShaperModelNodeV_119 (by decide)) ?_
      exact ih (s := r1388) hm1389 hF
set_option maxRecDepth 20000 in
theorem CM_show_LFormulaShaperModelNodeV_50 {w : xw_G} {p : xTS} {d : Nat} (hp : xKS w p d) {h : xw_H} (hb : xMb h)  : ∀ (fu : Nat) {l2 : Option Nat} {l3 : Int32} {s : xMs} {out : xMs} {h0 : xw_H} {m0 n0 : Nat} (hm : m0 ≤ s.2.2.1.2.2.2.2.2.2.1 ∧ n0 ≤ s.2.2.1.2.2.2.2.2.2.2), FM_show_LFormulaShaperModelNodeV_50 p fu l2 l3 s = some out → xw_Y w mM_show_LFormulaShaperModelNodeV (d + 1 + 20) (60 * (d + 1) + 600) (xw_R none (mV out h)) h0 m0 n0 s.2.2.1.2.2.2.2.2.2.1 s.2.2.1.2.2.2.2.2.2.2 out.2.2.1.2.2.2.2.2.2.1 out.2.2.1.2.2.2.2.2.2.2 50 [some (.ref 2000), none, some (xw_rf l2), some (.int l3), none] [] (mV s h) := by
  intro fu
  induction fu with
  | zero =>
    intro l2 l3 s out h0 m0 n0 hm hF
    rw [FM_show_LFormulaShaperModelNodeV_50] at hF
    cases hF
  | succ fu ih =>
    intro l2 l3 s out h0 m0 n0 hm hF
    rw [FM_show_LFormulaShaperModelNodeV_50] at hF
    refine xy_r (xg_aload_n dM_show_LFormulaShaperModelNodeV_50 rfl) ?_
    obtain ⟨i1380, ei1380, hF⟩ := xg_b hF
    refine xy_r (xw_Ln (L' := [some (.ref 2000), none, some (.ref (xn i1380)), some (.int l3), none]) (by first | (rw [ei1380]; done) | (rw [ei1380]; rfl))) ?_
    refine xy_r (xw_Sn (st' := [.ref (xn i1380)]) (by first | (rw [ei1380]; done) | (rw [ei1380]; rfl))) ?_
    obtain ⟨g1381, hF⟩ := xg_g hF
    refine xy_r (xw_get dM_show_LFormulaShaperModelNodeV_51 fM_192 (mV_n g1381) rfl) ?_
    refine xy_r (xw_bipush (12) dM_show_LFormulaShaperModelNodeV_54 (by decide)) ?_
    refine xy_brn (xw_icmp_ne 70 dM_show_LFormulaShaperModelNodeV_56 (by decide)) (fun c1382 => ?_) (fun c1382 => ?_)
    · replace hF := xg_f c1382 hF
      refine xy_r (xw_aload_n dM_show_LFormulaShaperModelNodeV_70 rfl) ?_
      refine xy_r (xw_get dM_show_LFormulaShaperModelNodeV_71 fM_192 (mV_n g1381) rfl) ?_
      refine xy_r (xw_bipush (9) dM_show_LFormulaShaperModelNodeV_74 (by decide)) ?_
      refine xy_br (xw_icmp_eq 88 dM_show_LFormulaShaperModelNodeV_76 (by decide)) (fun c1383 => ?_) (fun c1383 => ?_)
      · replace hF := xg_t c1383 hF
        refine xy_r (xw_aload_n dM_show_LFormulaShaperModelNodeV_88 rfl) ?_
        refine xy_r (xw_aload_n dM_show_LFormulaShaperModelNodeV_89 rfl) ?_
        obtain ⟨r1384, er1384, hF⟩ := xg_b hF
        have hm1385 : m0 ≤ r1384.2.2.1.2.2.2.2.2.2.1 ∧ n0 ≤ r1384.2.2.1.2.2.2.2.2.2.2 := xy_le hm (show s.2.2.1.2.2.2.2.2.2.1 ≤ r1384.2.2.1.2.2.2.2.2.2.1 ∧ s.2.2.1.2.2.2.2.2.2.2 ≤ r1384.2.2.1.2.2.2.2.2.2.2 from ((hp.2.1 (h := h) hb (s := s) er1384)).1)
        refine xy_V0 (nl := 6) (sm := s.2.2.1.2.2.2.2.2.2.1) (sn := s.2.2.1.2.2.2.2.2.2.2) (tm := r1384.2.2.1.2.2.2.2.2.2.1) (tn := r1384.2.2.1.2.2.2.2.2.2.2) (hp.2.1 hb (s := s) er1384) rfl rfl hm (fun _ => rfl) (fun _ => rfl) (fun _ => rfl) (fun _ => dM_show_LFormulaShaperModelNodeV_90) (fun _ R => kM_440 R) (fun _ => rfl) ⟨by omega, by omega⟩ rfl rfl rfl (fun _ => rfl) (Nat.le_of_ble_eq_true rfl) ?_
        refine xy_r (xw_goto 101 dM_show_LFormulaShaperModelNodeV_93 (by decide)) ?_
        refine xy_r (xw_iconst (0) dM_show_LFormulaShaperModelNodeV_101 (by decide)) ?_
        refine xy_r (xw_istore dM_show_LFormulaShaperModelNodeV_102 (Nat.le_of_ble_eq_true rfl)) ?_
        refine xy_r (xw_Ln (L' := [some (.ref 2000), none, some (.ref (xn i1380)), some (.int l3), some (.int 0)]) rfl) ?_
        refine xy_r (xw_drop (L' := [some (.ref 2000), none, none, some (.int l3), some (.int 0)]) ⟨rfl, ⟨rfl, ⟨rfl, trivial⟩⟩⟩) ?_
        exact CM_show_LFormulaShaperModelNodeV_104 (hp := hp) hb xFuel (s := r1384) hm1385 hF
      · replace hF := xg_f c1383 hF
        refine xy_r (xw_aload_n dM_show_LFormulaShaperModelNodeV_79 rfl) ?_
        refine xy_r (xw_get dM_show_LFormulaShaperModelNodeV_80 fM_192 (mV_n g1381) rfl) ?_
        refine xy_r (xw_bipush (13) dM_show_LFormulaShaperModelNodeV_83 (by decide)) ?_
        refine xy_brn (xw_icmp_ne 96 dM_show_LFormulaShaperModelNodeV_85 (by decide)) (fun c1391 => ?_) (fun c1391 => ?_)
        · replace hF := xg_f c1391 hF
          refine xy_r (xw_aload_n dM_show_LFormulaShaperModelNodeV_96 rfl) ?_
          refine xy_r (xw_aload_n dM_show_LFormulaShaperModelNodeV_97 rfl) ?_
          obtain ⟨r1392, er1392, hF⟩ := xg_b hF
          have hm1393 : m0 ≤ r1392.2.2.1.2.2.2.2.2.2.1 ∧ n0 ≤ r1392.2.2.1.2.2.2.2.2.2.2 := xy_le hm (show s.2.2.1.2.2.2.2.2.2.1 ≤ r1392.2.2.1.2.2.2.2.2.2.1 ∧ s.2.2.1.2.2.2.2.2.2.2 ≤ r1392.2.2.1.2.2.2.2.2.2.2 from ((hp.2.2.1 (h := h) hb (s := s) er1392)).1)
          refine xy_V0 (nl := 3) (sm := s.2.2.1.2.2.2.2.2.2.1) (sn := s.2.2.1.2.2.2.2.2.2.2) (tm := r1392.2.2.1.2.2.2.2.2.2.1) (tn := r1392.2.2.1.2.2.2.2.2.2.2) (hp.2.2.1 hb (s := s) er1392) rfl rfl hm (fun _ => rfl) (fun _ => rfl) (fun _ => rfl) (fun _ => dM_show_LFormulaShaperModelNodeV_98) (fun _ R => kM_443 R) (fun _ => rfl) ⟨by omega, by omega⟩ rfl rfl rfl (fun _ => rfl) (Nat.le_of_ble_eq_true rfl) ?_
          refine xy_r (xw_iconst (0) dM_show_LFormulaShaperModelNodeV_101 (by decide)) ?_
          refine xy_r (xw_istore dM_show_LFormulaShaperModelNodeV_102 (Nat.le_of_ble_eq_true rfl)) ?_
          refine xy_r (xw_Ln (L' := [some (.ref 2000), none, some (.ref (xn i1380)), some (.int l3), some (.int 0)]) rfl) ?_
          refine xy_r (xw_drop (L' := [some (.ref 2000), none, none, some (.int l3), some (.int 0)]) ⟨rfl, ⟨rfl, ⟨rfl, trivial⟩⟩⟩) ?_
          exact CM_show_LFormulaShaperModelNodeV_104 (hp := hp) hb xFuel (s := r1392) hm1393 hF
        · replace hF := xg_t c1391 hF
          refine xy_r (xw_aload_n dM_show_LFormulaShaperModelNodeV_88 rfl) ?_
          refine xy_r (xw_aload_n dM_show_LFormulaShaperModelNodeV_89 rfl) ?_
          obtain ⟨r1395, er1395, hF⟩ := xg_b hF
          have hm1396 : m0 ≤ r1395.2.2.1.2.2.2.2.2.2.1 ∧ n0 ≤ r1395.2.2.1.2.2.2.2.2.2.2 := xy_le hm (show s.2.2.1.2.2.2.2.2.2.1 ≤ r1395.2.2.1.2.2.2.2.2.2.1 ∧ s.2.2.1.2.2.2.2.2.2.2 ≤ r1395.2.2.1.2.2.2.2.2.2.2 from ((hp.2.1 (h := h) hb (s := s) er1395)).1)
          refine xy_V0 (nl := 6) (sm := s.2.2.1.2.2.2.2.2.2.1) (sn := s.2.2.1.2.2.2.2.2.2.2) (tm := r1395.2.2.1.2.2.2.2.2.2.1) (tn := r1395.2.2.1.2.2.2.2.2.2.2) (hp.2.1 hb (s := s) er1395) rfl rfl hm (fun _ => rfl) (fun _ => rfl) (fun _ => rfl) (fun _ => dM_show_LFormulaShaperModelNodeV_90) (fun _ R => kM_440 R) (fun _ => rfl) ⟨by omega, by omega⟩ rfl rfl rfl (fun _ => rfl) (Nat.le_of_ble_eq_true rfl) ?_
          refine xy_r (xw_goto 101 dM_show_LFormulaShaperModelNodeV_93 (by decide)) ?_
          refine xy_r (xw_iconst (0) dM_show_LFormulaShaperModelNodeV_101 (by decide)) ?_
          refine xy_r (xw_istore dM_show_LFormulaShaperModelNodeV_102 (Nat.le_of_ble_eq_true rfl)) ?_
          refine xy_r (xw_Ln (L' := [some (.ref 2000), none, some (.ref (xn i1380)), some (.int l3), some (.int 0)]) rfl) ?_
          refine xy_r (xw_drop (L' := [some (.ref 2000), none, none, some (.int l3), some (.int 0)]) ⟨rfl, ⟨rfl, ⟨rfl, trivial⟩⟩⟩) ?_
          exact CM_show_LFormulaShaperModelNodeV_104 (hp := hp) hb xFuel (s := r1395) hm1396 hF
    · replace hF := xg_t c1382 hF
      refine xy_r (xw_iinc ((l3 + 1)) dM_show_LFormulaShaperModelNodeV_59 rfl rfl (Nat.le_of_ble_eq_true rfl)) ?_
      refine xy_r (xw_Ln (L' := [some (.ref 2000), none, some (.ref (xn i1380)), some (.int (l3 + 1)), none]) rfl) ?_
      refine xy_r (xw_aload_n dM_show_LFormulaShaperModelNodeV_62 rfl) ?_
      refine xy_r (xw_get dM_show_LFormulaShaperModelNodeV_63 fM_205 (mV_n g1381) rfl) ?_
      refine xy_r (xg_astore_n dM_show_LFormulaShaperModelNodeV_66 (Nat.le_of_ble_eq_true rfl)) ?_
      refine xy_r (xw_Ln (L' := [some (.ref 2000), none, some (xw_rf (s.2.2.1.2.2.2.2.2.1 i1380).2.2.1), some (.int (l3 + 1)), none]) rfl) ?_
      refine xy_r (xw_goto 50 dM_show_LFormulaShaperModelNodeV_67 (by decide)) ?_
      exact ih (s := s) hm hF
set_option maxRecDepth 20000 in
theorem CM_show_LFormulaShaperModelNodeV_2 {w : xw_G} {p : xTS} {d : Nat} (hp : xKS w p d) {h : xw_H} (hb : xMb h)  : ∀ (fu : Nat) {l2 : Option Nat} {s : xMs} {out : xMs} {h0 : xw_H} {m0 n0 : Nat} (hm : m0 ≤ s.2.2.1.2.2.2.2.2.2.1 ∧ n0 ≤ s.2.2.1.2.2.2.2.2.2.2), FM_show_LFormulaShaperModelNodeV_2 p fu l2 s = some out → xw_Y w mM_show_LFormulaShaperModelNodeV (d + 1 + 20) (60 * (d + 1) + 600) (xw_R none (mV out h)) h0 m0 n0 s.2.2.1.2.2.2.2.2.2.1 s.2.2.1.2.2.2.2.2.2.2 out.2.2.1.2.2.2.2.2.2.1 out.2.2.1.2.2.2.2.2.2.2 2 [some (.ref 2000), none, some (xw_rf l2), none, none] [] (mV s h) := by
  intro fu
  induction fu with
  | zero =>
    intro l2 s out h0 m0 n0 hm hF
    rw [FM_show_LFormulaShaperModelNodeV_2] at hF
    cases hF
  | succ fu ih =>
    intro l2 s out h0 m0 n0 hm hF
    rw [FM_show_LFormulaShaperModelNodeV_2] at hF
    refine xy_r (xg_aload_n dM_show_LFormulaShaperModelNodeV_2 rfl) ?_
    obtain ⟨i1367, ei1367, hF⟩ := xg_b hF
    refine xy_r (xw_Ln (L' := [some (.ref 2000), none, some (.ref (xn i1367)), none, none]) (by first | (rw [ei1367]; done) | (rw [ei1367]; rfl))) ?_
    refine xy_r (xw_Sn (st' := [.ref (xn i1367)]) (by first | (rw [ei1367]; done) | (rw [ei1367]; rfl))) ?_
    obtain ⟨g1368, hF⟩ := xg_g hF
    refine xy_r (xw_get dM_show_LFormulaShaperModelNodeV_3 fM_192 (mV_n g1368) rfl) ?_
    refine xy_r (xw_bipush (10) dM_show_LFormulaShaperModelNodeV_6 (by decide)) ?_
    refine xy_br (xw_icmp_eq 20 dM_show_LFormulaShaperModelNodeV_8 (by decide)) (fun c1369 => ?_) (fun c1369 => ?_)
    · replace hF := xg_t c1369 hF
      refine xy_r (xw_aload_n dM_show_LFormulaShaperModelNodeV_20 rfl) ?_
      refine xy_r (xw_aload_n dM_show_LFormulaShaperModelNodeV_21 rfl) ?_
      refine xy_r (xw_get dM_show_LFormulaShaperModelNodeV_22 fM_192 (mV_n g1368) rfl) ?_
      refine xy_r (xw_bipush (10) dM_show_LFormulaShaperModelNodeV_25 (by decide)) ?_
      refine xy_brn (xw_icmp_ne 35 dM_show_LFormulaShaperModelNodeV_27 (by decide)) (fun c1370 => ?_) (fun c1370 => ?_)
      · replace hF := xg_f c1370 hF
        refine xy_r (xw_bipush (45) dM_show_LFormulaShaperModelNodeV_35 (by decide)) ?_
        obtain ⟨r1371, er1371, hF⟩ := xg_b hF
        have hm1372 : m0 ≤ r1371.2.2.1.2.2.2.2.2.2.1 ∧ n0 ≤ r1371.2.2.1.2.2.2.2.2.2.2 := xy_le hm (show s.2.2.1.2.2.2.2.2.2.1 ≤ r1371.2.2.1.2.2.2.2.2.2.1 ∧ s.2.2.1.2.2.2.2.2.2.2 ≤ r1371.2.2.1.2.2.2.2.2.2.2 from (CM_put_IV (w := w) (h := h) hb (s := s) er1371).1)
        refine xy_V0 (nl := 4) (sm := s.2.2.1.2.2.2.2.2.2.1) (sn := s.2.2.1.2.2.2.2.2.2.2) (tm := r1371.2.2.1.2.2.2.2.2.2.1) (tn := r1371.2.2.1.2.2.2.2.2.2.2) (CM_put_IV hb (s := s) er1371) rfl rfl hm (fun _ => rfl) (fun _ => rfl) (fun _ => rfl) (fun _ => dM_show_LFormulaShaperModelNodeV_37) (fun _ R => kM_423 R) (fun _ => rfl) ⟨by omega, by omega⟩ rfl rfl rfl (fun _ => rfl) (Nat.le_of_ble_eq_true rfl) ?_
        refine xy_r (xw_aload_n dM_show_LFormulaShaperModelNodeV_40 rfl) ?_
        obtain ⟨g1374, hF⟩ := xg_g hF
        refine xy_r (xw_get dM_show_LFormulaShaperModelNodeV_41 fM_205 (mV_n g1374) rfl) ?_
        refine xy_r (xg_astore_n dM_show_LFormulaShaperModelNodeV_44 (Nat.le_of_ble_eq_true rfl)) ?_
        refine xy_r (xw_Ln (L' := [some (.ref 2000), none, some (xw_rf (r1371.2.2.1.2.2.2.2.2.1 i1367).2.2.1), none, none]) rfl) ?_
        refine xy_r (xw_goto 2 dM_show_LFormulaShaperModelNodeV_45 (by decide)) ?_
        exact ih (s := r1371) hm1372 hF
      · replace hF := xg_t c1370 hF
        refine xy_r (xw_bipush (43) dM_show_LFormulaShaperModelNodeV_30 (by decide)) ?_
        refine xy_r (xw_goto 37 dM_show_LFormulaShaperModelNodeV_32 (by decide)) ?_
        obtain ⟨r1375, er1375, hF⟩ := xg_b hF
        have hm1376 : m0 ≤ r1375.2.2.1.2.2.2.2.2.2.1 ∧ n0 ≤ r1375.2.2.1.2.2.2.2.2.2.2 := xy_le hm (show s.2.2.1.2.2.2.2.2.2.1 ≤ r1375.2.2.1.2.2.2.2.2.2.1 ∧ s.2.2.1.2.2.2.2.2.2.2 ≤ r1375.2.2.1.2.2.2.2.2.2.2 from (CM_put_IV (w := w) (h := h) hb (s := s) er1375).1)
        refine xy_V0 (nl := 4) (sm := s.2.2.1.2.2.2.2.2.2.1) (sn := s.2.2.1.2.2.2.2.2.2.2) (tm := r1375.2.2.1.2.2.2.2.2.2.1) (tn := r1375.2.2.1.2.2.2.2.2.2.2) (CM_put_IV hb (s := s) er1375) rfl rfl hm (fun _ => rfl) (fun _ => rfl) (fun _ => rfl) (fun _ => dM_show_LFormulaShaperModelNodeV_37) (fun _ R => kM_423 R) (fun _ => rfl) ⟨by omega, by omega⟩ rfl rfl rfl (fun _ => rfl) (Nat.le_of_ble_eq_true rfl) ?_
        refine xy_r (xw_aload_n dM_show_LFormulaShaperModelNodeV_40 rfl) ?_
        obtain ⟨g1378, hF⟩ := xg_g hF
        refine xy_r (xw_get dM_show_LFormulaShaperModelNodeV_41 fM_205 (mV_n g1378) rfl) ?_
        refine xy_r (xg_astore_n dM_show_LFormulaShaperModelNodeV_44 (Nat.le_of_ble_eq_true rfl)) ?_
        refine xy_r (xw_Ln (L' := [some (.ref 2000), none, some (xw_rf (r1375.2.2.1.2.2.2.2.2.1 i1367).2.2.1), none, none]) rfl) ?_
        refine xy_r (xw_goto 2 dM_show_LFormulaShaperModelNodeV_45 (by decide)) ?_
        exact ih (s := r1375) hm1376 hF
    · replace hF := xg_f c1369 hF
      refine xy_r (xw_aload_n dM_show_LFormulaShaperModelNodeV_11 rfl) ?_
      refine xy_r (xw_get dM_show_LFormulaShaperModelNodeV_12 fM_192 (mV_n g1368) rfl) ?_
      refine xy_r (xw_bipush (11) dM_show_LFormulaShaperModelNodeV_15 (by decide)) ?_
      refine xy_brn (xw_icmp_ne 48 dM_show_LFormulaShaperModelNodeV_17 (by decide)) (fun c1379 => ?_) (fun c1379 => ?_)
      · replace hF := xg_f c1379 hF
        refine xy_r (xw_iconst (0) dM_show_LFormulaShaperModelNodeV_48 (by decide)) ?_
        refine xy_r (xw_istore_n dM_show_LFormulaShaperModelNodeV_49 (Nat.le_of_ble_eq_true rfl)) ?_
        refine xy_r (xw_Ln (L' := [some (.ref 2000), none, some (.ref (xn i1367)), some (.int 0), none]) rfl) ?_
        exact CM_show_LFormulaShaperModelNodeV_50 (hp := hp) hb xFuel (s := s) hm hF
      · replace hF := xg_t c1379 hF
        refine xy_r (xw_aload_n dM_show_LFormulaShaperModelNodeV_20 rfl) ?_
        refine xy_r (xw_aload_n dM_show_LFormulaShaperModelNodeV_21 rfl) ?_
        refine xy_r (xw_get dM_show_LFormulaShaperModelNodeV_22 fM_192 (mV_n g1368) rfl) ?_
        refine xy_r (xw_bipush (10) dM_show_LFormulaShaperModelNodeV_25 (by decide)) ?_
        refine xy_brn (xw_icmp_ne 35 dM_show_LFormulaShaperModelNodeV_27 (by decide)) (fun c1398 => ?_) (fun c1398 => ?_)
        · replace hF := xg_f c1398 hF
          refine xy_r (xw_bipush (45) dM_show_LFormulaShaperModelNodeV_35 (by decide)) ?_
          obtain ⟨r1399, er1399, hF⟩ := xg_b hF
          have hm1400 : m0 ≤ r1399.2.2.1.2.2.2.2.2.2.1 ∧ n0 ≤ r1399.2.2.1.2.2.2.2.2.2.2 := xy_le hm (show s.2.2.1.2.2.2.2.2.2.1 ≤ r1399.2.2.1.2.2.2.2.2.2.1 ∧ s.2.2.1.2.2.2.2.2.2.2 ≤ r1399.2.2.1.2.2.2.2.2.2.2 from (CM_put_IV (w := w) (h := h) hb (s := s) er1399).1)
          refine xy_V0 (nl := 4) (sm := s.2.2.1.2.2.2.2.2.2.1) (sn := s.2.2.1.2.2.2.2.2.2.2) (tm := r1399.2.2.1.2.2.2.2.2.2.1) (tn := r1399.2.2.1.2.2.2.2.2.2.2) (CM_put_IV hb (s := s) er1399) rfl rfl hm (fun _ => rfl) (fun _ => rfl) (fun _ => rfl) (fun _ => dM_show_LFormulaShaperModelNodeV_37) (fun _ R => kM_423 R) (fun _ => rfl) ⟨by omega, by omega⟩ rfl rfl rfl (fun _ => rfl) (Nat.le_of_ble_eq_true rfl) ?_
          refine xy_r (xw_aload_n dM_show_LFormulaShaperModelNodeV_40 rfl) ?_
          obtain ⟨g1402, hF⟩ := xg_g hF
          refine xy_r (xw_get dM_show_LFormulaShaperModelNodeV_41 fM_205 (mV_n g1402) rfl) ?_
          refine xy_r (xg_astore_n dM_show_LFormulaShaperModelNodeV_44 (Nat.le_of_ble_eq_true rfl)) ?_
          refine xy_r (xw_Ln (L' := [some (.ref 2000), none, some (xw_rf (r1399.2.2.1.2.2.2.2.2.1 i1367).2.2.1), none, none]) rfl) ?_
          refine xy_r (xw_goto 2 dM_show_LFormulaShaperModelNodeV_45 (by decide)) ?_
          exact ih (s := r1399) hm1400 hF
        · replace hF := xg_t c1398 hF
          refine xy_r (xw_bipush (43) dM_show_LFormulaShaperModelNodeV_30 (by decide)) ?_
          refine xy_r (xw_goto 37 dM_show_LFormulaShaperModelNodeV_32 (by decide)) ?_
          obtain ⟨r1403, er1403, hF⟩ := xg_b hF
          have hm1404 : m0 ≤ r1403.2.2.1.2.2.2.2.2.2.1 ∧ n0 ≤ r1403.2.2.1.2.2.2.2.2.2.2 := xy_le hm (show s.2.2.1.2.2.2.2.2.2.1 ≤ r1403.2.2.1.2.2.2.2.2.2.1 ∧ s.2.2.1.2.2.2.2.2.2.2 ≤ r1403.2.2.1.2.2.2.2.2.2.2 from (CM_put_IV (w := w) (h := h) hb (s := s) er1403).1)
          refine xy_V0 (nl := 4) (sm := s.2.2.1.2.2.2.2.2.2.1) (sn := s.2.2.1.2.2.2.2.2.2.2) (tm := r1403.2.2.1.2.2.2.2.2.2.1) (tn := r1403.2.2.1.2.2.2.2.2.2.2) (CM_put_IV hb (s := s) er1403) rfl rfl hm (fun _ => rfl) (fun _ => rfl) (fun _ => rfl) (fun _ => dM_show_LFormulaShaperModelNodeV_37) (fun _ R => kM_423 R) (fun _ => rfl) ⟨by omega, by omega⟩ rfl rfl rfl (fun _ => rfl) (Nat.le_of_ble_eq_true rfl) ?_
          refine xy_r (xw_aload_n dM_show_LFormulaShaperModelNodeV_40 rfl) ?_
          obtain ⟨g1406, hF⟩ := xg_g hF
          refine xy_r (xw_get dM_show_LFormulaShaperModelNodeV_41 fM_205 (mV_n g1406) rfl) ?_
          refine xy_r (xg_astore_n dM_show_LFormulaShaperModelNodeV_44 (Nat.le_of_ble_eq_true rfl)) ?_
          refine xy_r (xw_Ln (L' := [some (.ref 2000), none, some (xw_rf (r1403.2.2.1.2.2.2.2.2.1 i1367).2.2.1), none, none]) rfl) ?_
          refine xy_r (xw_goto 2 dM_show_LFormulaShaperModelNodeV_45 (by decide)) ?_
          exact ih (s := r1403) hm1404 hF
set_option maxRecDepth 20000 in
theorem CM_show_LFormulaShaperModelNodeV {w : xw_G} {p : xTS} {d : Nat} (hp : xKS w p d) {h : xw_H} (hb : xMb h) {x0 : Nat} {s : xMs} {out : xMs} (hF : FM_show_LFormulaShaperModelNodeV p x0 s = some out) : (s.2.2.1.2.2.2.2.2.2.1 ≤ out.2.2.1.2.2.2.2.2.2.1 ∧ s.2.2.1.2.2.2.2.2.2.2 ≤ out.2.2.1.2.2.2.2.2.2.2) ∧ xw_C w (mM_show_LFormulaShaperModelNodeV { frames := (d + 1 + 20), cells := out.2.2.1.2.2.2.2.2.2.1 - s.2.2.1.2.2.2.2.2.2.1, slots := out.2.2.1.2.2.2.2.2.2.2 - s.2.2.1.2.2.2.2.2.2.2, locals := (60 * (d + 1) + 600) }) (xw_R none (mV out h)) [.ref 2000, .ref (xn x0)] (mV s h) := by
  unfold FM_show_LFormulaShaperModelNodeV at hF
  refine xy_enter (L := [some (.ref 2000), some (.ref (xn x0)), none, none, none]) (fun _ => rfl) (fun _ => rfl) (fun _ => (show plainName "FormulaShaperModel" = true by decide +kernel)) (fun _ => (Nat.le_of_ble_eq_true rfl)) (fun _ => rfl) ?_
  have hm : s.2.2.1.2.2.2.2.2.2.1 ≤ s.2.2.1.2.2.2.2.2.2.1 ∧ s.2.2.1.2.2.2.2.2.2.2 ≤ s.2.2.1.2.2.2.2.2.2.2 := ⟨Nat.le_refl _, Nat.le_refl _⟩
  refine xy_r (xw_aload_n dM_show_LFormulaShaperModelNodeV_0 rfl) ?_
  refine xy_r (xw_astore_n dM_show_LFormulaShaperModelNodeV_1 (Nat.le_of_ble_eq_true rfl)) ?_
  refine xy_r (xw_Ln (L' := [some (.ref 2000), some (.ref (xn x0)), some (.ref (xn x0)), none, none]) rfl) ?_
  refine xy_r (xw_drop (L' := [some (.ref 2000), none, some (xw_rf (some x0)), none, none]) ⟨rfl, ⟨rfl, trivial⟩⟩) ?_
  exact CM_show_LFormulaShaperModelNodeV_2 (hp := hp) hb xFuel (s := s) hm hF
def FM_showSpine_117 (p : xTS) : Nat → Int32 → xMs → Option xMs
  | 0, _, _ => none
  | fu + 1, l2, s => if s.2.2.2.1.2.2.1 ≤ l2 then (some s) else (if (0 ≤ (s.2.2.2.1.2.2.1 - 1) ∧ (s.2.2.2.1.2.2.1 - 1) < nI (256 * 2 ^ s.2.2.2.1.2.2.2.1)) ∧ s.2.2.2.1.2.2.2.1 < s.2.2.2.1.2.2.2.2.1 ∧ s.2.2.2.1.2.2.2.1 < 8 then (((s.2.2.2.1.2.2.2.2.2 s.2.2.2.1.2.2.2.1 ((s.2.2.2.1.2.2.1 - 1)).toNatClampNeg)).bind fun i1429 => if i1429 < s.2.2.1.2.2.2.2.1 then (if (s.2.2.1.2.2.2.2.2.1 i1429).1.1 = 9 then (if 0 ≤ (s.2.2.1.2.2.2.2.2.1 i1429).1.2.1 ∧ (s.2.2.1.2.2.2.2.2.1 i1429).1.2.1 < nI 11 then ((xk_ops[((s.2.2.1.2.2.2.2.2.1 i1429).1.2.1).toNatClampNeg]?).bind fun k1442 => (FM_put_LjavalangStringV k1442 (s.1, s.2.1, s.2.2.1, (s.2.2.2.1.1, s.2.2.2.1.2.1, (s.2.2.2.1.2.2.1 - 1), s.2.2.2.1.2.2.2), s.2.2.2.2)).bind fun r1443 => if i1429 < r1443.2.2.1.2.2.2.2.1 then (((r1443.2.2.1.2.2.2.2.2.1 i1429).2.2.2.1).bind fun i1447 => (p.1 i1447 r1443).bind fun r1448 => FM_showSpine_117 p fu l2 r1448) else none) else none) else ((FM_put_IV 40 (s.1, s.2.1, s.2.2.1, (s.2.2.2.1.1, s.2.2.2.1.2.1, (s.2.2.2.1.2.2.1 - 1), s.2.2.2.1.2.2.2), s.2.2.2.2)).bind fun r1432 => (p.2.2.2 i1429 1 r1432).bind fun r1435 => (FM_put_IV 41 r1435).bind fun r1438 => FM_showSpine_117 p fu l2 r1438)) else none) else none)
def FM_showSpine_L (p : xTS) : Nat → (Int32 → Option Nat → xMs → Option xMs) × (Int32 → Option Nat → Nat → Int32 → xMs → Option xMs)
  | 0 => (fun _ _ _ => none, fun _ _ _ _ _ => none)
  | fu + 1 => (fun l2 l3 s => (l3).bind fun i1407 => if i1407 < s.2.2.1.2.2.2.2.1 then (if (s.2.2.1.2.2.2.2.2.1 i1407).1.1 = 9 then (if s.2.2.2.1.2.2.2.1 < s.2.2.2.1.2.2.2.2.1 then (if s.2.2.2.1.2.2.1 = (nI (256 * 2 ^ s.2.2.2.1.2.2.2.1)) then (if (2 * s.2.2.2.1.2.2.1) = nI (256 * 2 ^ s.2.2.2.1.2.2.2.2.1) ∧ s.2.2.2.1.2.2.2.2.1 < 8 then ((FM_showSpine_L p fu).2 l2 (some i1407) s.2.2.2.1.2.2.2.2.1 0 (s.1, s.2.1, (s.2.2.1.1, s.2.2.1.2.1, s.2.2.1.2.2.1, s.2.2.1.2.2.2.1, s.2.2.1.2.2.2.2.1, s.2.2.1.2.2.2.2.2.1, (s.2.2.1.2.2.2.2.2.2.1 + 1), (s.2.2.1.2.2.2.2.2.2.2 + 256 * 2 ^ s.2.2.2.1.2.2.2.2.1)), (s.2.2.2.1.1, s.2.2.2.1.2.1, s.2.2.2.1.2.2.1, s.2.2.2.1.2.2.2.1, (s.2.2.2.1.2.2.2.2.1 + 1), (va_up s.2.2.2.1.2.2.2.2.2 s.2.2.2.1.2.2.2.2.1 (fun _ => none))), s.2.2.2.2)) else none) else (if (0 ≤ s.2.2.2.1.2.2.1 ∧ s.2.2.2.1.2.2.1 < nI (256 * 2 ^ s.2.2.2.1.2.2.2.1)) ∧ s.2.2.2.1.2.2.2.1 < s.2.2.2.1.2.2.2.2.1 ∧ s.2.2.2.1.2.2.2.1 < 8 then ((FM_showSpine_L p fu).1 l2 (s.2.2.1.2.2.2.2.2.1 i1407).2.2.1 (s.1, s.2.1, s.2.2.1, (s.2.2.2.1.1, s.2.2.2.1.2.1, (s.2.2.2.1.2.2.1 + 1), s.2.2.2.1.2.2.2.1, s.2.2.2.1.2.2.2.2.1, (va_up s.2.2.2.1.2.2.2.2.2 s.2.2.2.1.2.2.2.1 (va_up (s.2.2.2.1.2.2.2.2.2 s.2.2.2.1.2.2.2.1) (s.2.2.2.1.2.2.1).toNatClampNeg (some i1407)))), s.2.2.2.2)) else none)) else none) else (if (s.2.2.1.2.2.2.2.2.1 i1407).1.1 = 13 then (if s.2.2.2.1.2.2.2.1 < s.2.2.2.1.2.2.2.2.1 then (if s.2.2.2.1.2.2.1 = (nI (256 * 2 ^ s.2.2.2.1.2.2.2.1)) then (if (2 * s.2.2.2.1.2.2.1) = nI (256 * 2 ^ s.2.2.2.1.2.2.2.2.1) ∧ s.2.2.2.1.2.2.2.2.1 < 8 then ((FM_showSpine_L p fu).2 l2 (some i1407) s.2.2.2.1.2.2.2.2.1 0 (s.1, s.2.1, (s.2.2.1.1, s.2.2.1.2.1, s.2.2.1.2.2.1, s.2.2.1.2.2.2.1, s.2.2.1.2.2.2.2.1, s.2.2.1.2.2.2.2.2.1, (s.2.2.1.2.2.2.2.2.2.1 + 1), (s.2.2.1.2.2.2.2.2.2.2 + 256 * 2 ^ s.2.2.2.1.2.2.2.2.1)), (s.2.2.2.1.1, s.2.2.2.1.2.1, s.2.2.2.1.2.2.1, s.2.2.2.1.2.2.2.1, (s.2.2.2.1.2.2.2.2.1 + 1), (va_up s.2.2.2.1.2.2.2.2.2 s.2.2.2.1.2.2.2.2.1 (fun _ => none))), s.2.2.2.2)) else none) else (if (0 ≤ s.2.2.2.1.2.2.1 ∧ s.2.2.2.1.2.2.1 < nI (256 * 2 ^ s.2.2.2.1.2.2.2.1)) ∧ s.2.2.2.1.2.2.2.1 < s.2.2.2.1.2.2.2.2.1 ∧ s.2.2.2.1.2.2.2.1 < 8 then ((FM_showSpine_L p fu).1 l2 (s.2.2.1.2.2.2.2.2.1 i1407).2.2.1 (s.1, s.2.1, s.2.2.1, (s.2.2.2.1.1, s.2.2.2.1.2.1, (s.2.2.2.1.2.2.1 + 1), s.2.2.2.1.2.2.2.1, s.2.2.2.1.2.2.2.2.1, (va_up s.2.2.2.1.2.2.2.2.2 s.2.2.2.1.2.2.2.1 (va_up (s.2.2.2.1.2.2.2.2.2 s.2.2.2.1.2.2.2.1) (s.2.2.2.1.2.2.1).toNatClampNeg (some i1407)))), s.2.2.2.2)) else none)) else none) else ((p.1 i1407 s).bind fun r1424 => FM_showSpine_117 p xFuel l2 r1424))) else none, fun l2 l3 l4 l5 s => if s.2.2.2.1.2.2.1 ≤ l5 then ((l3).bind fun i1416 => if i1416 < s.2.2.1.2.2.2.2.1 then (if (0 ≤ s.2.2.2.1.2.2.1 ∧ s.2.2.2.1.2.2.1 < nI (256 * 2 ^ l4)) ∧ l4 < s.2.2.2.1.2.2.2.2.1 ∧ l4 < 8 then ((FM_showSpine_L p fu).1 l2 (s.2.2.1.2.2.2.2.2.1 i1416).2.2.1 (s.1, s.2.1, s.2.2.1, (s.2.2.2.1.1, s.2.2.2.1.2.1, (s.2.2.2.1.2.2.1 + 1), l4, s.2.2.2.1.2.2.2.2.1, (va_up s.2.2.2.1.2.2.2.2.2 l4 (va_up (s.2.2.2.1.2.2.2.2.2 l4) (s.2.2.2.1.2.2.1).toNatClampNeg (some i1416)))), s.2.2.2.2)) else none) else none) else (if (0 ≤ l5 ∧ l5 < nI (256 * 2 ^ s.2.2.2.1.2.2.2.1)) ∧ s.2.2.2.1.2.2.2.1 < s.2.2.2.1.2.2.2.2.1 ∧ s.2.2.2.1.2.2.2.1 < 8 then (((s.2.2.2.1.2.2.2.2.2 s.2.2.2.1.2.2.2.1 (l5).toNatClampNeg)).bind fun i1420 => if i1420 < s.2.2.1.2.2.2.2.1 then (if (0 ≤ l5 ∧ l5 < nI (256 * 2 ^ l4)) ∧ l4 < s.2.2.2.1.2.2.2.2.1 ∧ l4 < 8 then ((FM_showSpine_L p fu).2 l2 l3 l4 (l5 + 1) (s.1, s.2.1, s.2.2.1, (s.2.2.2.1.1, s.2.2.2.1.2.1, s.2.2.2.1.2.2.1, s.2.2.2.1.2.2.2.1, s.2.2.2.1.2.2.2.2.1, (va_up s.2.2.2.1.2.2.2.2.2 l4 (va_up (s.2.2.2.1.2.2.2.2.2 l4) (l5).toNatClampNeg (some i1420)))), s.2.2.2.2)) else none) else none) else none))
def FM_showSpine_7 (p : xTS) (fu : Nat) (l2 : Int32) (l3 : Option Nat) (s : xMs) : Option xMs := (FM_showSpine_L p fu).1 l2 l3 s
def FM_showSpine_51 (p : xTS) (fu : Nat) (l2 : Int32) (l3 : Option Nat) (l4 : Nat) (l5 : Int32) (s : xMs) : Option xMs := (FM_showSpine_L p fu).2 l2 l3 l4 l5 s
/-- FormulaShaperModel.showSpine -/
def FM_showSpine (p : xTS) (x0 : Nat) (s : xMs) : Option xMs := FM_showSpine_7 p xFuel s.2.2.2.1.2.2.1 (some x0) s
set_option maxRecDepth 20000 in
theorem CM_showSpine_117 {w : xw_G} {p : xTS} {d : Nat} (hp : xKS w p d) {h : xw_H} (hb : xMb h)  : ∀ (fu : Nat) {l2 : Int32} {s : xMs} {out : xMs} {h0 : xw_H} {m0 n0 : Nat} (hm : m0 ≤ s.2.2.1.2.2.2.2.2.2.1 ∧ n0 ≤ s.2.2.1.2.2.2.2.2.2.2), FM_showSpine_117 p fu l2 s = some out → xw_Y w mM_showSpine (d + 1 + 20) (60 * (d + 1) + 600) (xw_R none (mV out h)) h0 m0 n0 s.2.2.1.2.2.2.2.2.2.1 s.2.2.1.2.2.2.2.2.2.2 out.2.2.1.2.2.2.2.2.2.1 out.2.2.1.2.2.2.2.2.2.2 117 [some (.ref 2000), none, some (.int l2), none, none, none] [] (mV s h) := by
  intro fu
  induction fu with
  | zero =>
    intro l2 s out h0 m0 n0 hm hF
    rw [FM_showSpine_117] at hF
    cases hF
  | succ fu ih =>
    intro l2 s out h0 m0 n0 hm hF
    rw [FM_showSpine_117] at hF
    refine xy_r (xw_aload_n dM_showSpine_117 rfl) ?_
    refine xy_r (xw_get dM_showSpine_118 fM_446 rfl rfl) ?_
    refine xy_r (xw_iload_n dM_showSpine_121 rfl) ?_
    refine xy_br (xw_icmp_le 204 dM_showSpine_122 (by decide)) (fun c1427 => ?_) (fun c1427 => ?_)
    · replace hF := xg_t c1427 hF
      obtain rfl := Option.some.inj hF
      exact xy_end (xw_return dM_showSpine_204 rfl (Nat.le_refl _) (Nat.le_refl _) ⟨rfl, rfl⟩)
    · replace hF := xg_f c1427 hF
      refine xy_r (xw_aload_n dM_showSpine_125 rfl) ?_
      refine xy_r (xw_dup_r dM_showSpine_126) ?_
      refine xy_r (xw_get dM_showSpine_127 fM_446 rfl rfl) ?_
      refine xy_r (xw_iconst (1) dM_showSpine_130 (by decide)) ?_
      refine xy_r (xw_isub dM_showSpine_131) ?_
      refine xy_r (xg_put dM_showSpine_132 fM_446 rfl (by decide) (Nat.le_of_ble_eq_true rfl) (fun _ => rfl) (fun _ => rfl) (mV_o (s' := (s.1, s.2.1, s.2.2.1, (s.2.2.2.1.1, s.2.2.2.1.2.1, (s.2.2.2.1.2.2.1 - 1), s.2.2.2.1.2.2.2), s.2.2.2.2)) rfl)) ?_
      refine xy_r (xw_aload_n dM_showSpine_135 rfl) ?_
      refine xy_r (xw_get dM_showSpine_136 fM_164 rfl rfl) ?_
      refine xy_r (xw_aload_n dM_showSpine_139 rfl) ?_
      refine xy_r (xw_get dM_showSpine_140 fM_446 rfl rfl) ?_
      obtain ⟨g1428, hF⟩ := xg_g hF
      refine xy_r (xg_naload g1428.1 (xlev g1428.2.2) dM_showSpine_143 (mV_s g1428.2.1)) ?_
      refine xy_r (xg_astore dM_showSpine_144 (Nat.le_of_ble_eq_true rfl)) ?_
      refine xy_r (xw_Ln (L' := [some (.ref 2000), none, some (.int l2), none, some (xw_rf (s.2.2.2.1.2.2.2.2.2 s.2.2.2.1.2.2.2.1 ((s.2.2.2.1.2.2.1 - 1)).toNatClampNeg)), none]) rfl) ?_
      refine xy_r (xg_aload dM_showSpine_146 rfl) ?_
      obtain ⟨i1429, ei1429, hF⟩ := xg_b hF
      refine xy_r (xw_Ln (L' := [some (.ref 2000), none, some (.int l2), none, some (.ref (xn i1429)), none]) (by first | (rw [ei1429]; done) | (rw [ei1429]; rfl))) ?_
      refine xy_r (xw_Sn (st' := [.ref (xn i1429)]) (by first | (rw [ei1429]; done) | (rw [ei1429]; rfl))) ?_
      obtain ⟨g1430, hF⟩ := xg_g hF
      refine xy_r (xw_get dM_showSpine_148 fM_192 (mV_n g1430) rfl) ?_
      refine xy_r (xw_bipush (9) dM_showSpine_151 (by decide)) ?_
      refine xy_brn (xw_icmp_ne 182 dM_showSpine_153 (by decide)) (fun c1431 => ?_) (fun c1431 => ?_)
      · replace hF := xg_f c1431 hF
        refine xy_r (xw_aload_n dM_showSpine_182 rfl) ?_
        refine xy_r (xw_bipush (40) dM_showSpine_183 (by decide)) ?_
        obtain ⟨r1432, er1432, hF⟩ := xg_b hF
        have hm1433 : m0 ≤ r1432.2.2.1.2.2.2.2.2.2.1 ∧ n0 ≤ r1432.2.2.1.2.2.2.2.2.2.2 := xy_le hm (show s.2.2.1.2.2.2.2.2.2.1 ≤ r1432.2.2.1.2.2.2.2.2.2.1 ∧ s.2.2.1.2.2.2.2.2.2.2 ≤ r1432.2.2.1.2.2.2.2.2.2.2 from (CM_put_IV (w := w) (h := h) hb (s := (s.1, s.2.1, s.2.2.1, (s.2.2.2.1.1, s.2.2.2.1.2.1, (s.2.2.2.1.2.2.1 - 1), s.2.2.2.1.2.2.2), s.2.2.2.2)) er1432).1)
        refine xy_V0 (nl := 4) (sm := s.2.2.1.2.2.2.2.2.2.1) (sn := s.2.2.1.2.2.2.2.2.2.2) (tm := r1432.2.2.1.2.2.2.2.2.2.1) (tn := r1432.2.2.1.2.2.2.2.2.2.2) (CM_put_IV hb (s := (s.1, s.2.1, s.2.2.1, (s.2.2.2.1.1, s.2.2.2.1.2.1, (s.2.2.2.1.2.2.1 - 1), s.2.2.2.1.2.2.2), s.2.2.2.2)) er1432) rfl rfl hm (fun _ => rfl) (fun _ => rfl) (fun _ => rfl) (fun _ => dM_showSpine_185) (fun _ R => kM_423 R) (fun _ => rfl) ⟨by omega, by omega⟩ rfl rfl rfl (fun _ => rfl) (Nat.le_of_ble_eq_true rfl) ?_
        refine xy_r (xw_aload_n dM_showSpine_188 rfl) ?_
        refine xy_r (xw_aload dM_showSpine_189 rfl) ?_
        refine xy_r (xw_iconst (1) dM_showSpine_191 (by decide)) ?_
        obtain ⟨r1435, er1435, hF⟩ := xg_b hF
        have hm1436 : m0 ≤ r1435.2.2.1.2.2.2.2.2.2.1 ∧ n0 ≤ r1435.2.2.1.2.2.2.2.2.2.2 := xy_le hm1433 (show r1432.2.2.1.2.2.2.2.2.2.1 ≤ r1435.2.2.1.2.2.2.2.2.2.1 ∧ r1432.2.2.1.2.2.2.2.2.2.2 ≤ r1435.2.2.1.2.2.2.2.2.2.2 from ((hp.2.2.2 (h := h) hb (s := r1432) er1435)).1)
        refine xy_V0 (nl := 4) (sm := r1432.2.2.1.2.2.2.2.2.2.1) (sn := r1432.2.2.1.2.2.2.2.2.2.2) (tm := r1435.2.2.1.2.2.2.2.2.2.1) (tn := r1435.2.2.1.2.2.2.2.2.2.2) (hp.2.2.2 hb (s := r1432) er1435) rfl rfl hm1433 (fun _ => rfl) (fun _ => rfl) (fun _ => rfl) (fun _ => dM_showSpine_192) (fun _ R => kM_452 R) (fun _ => rfl) ⟨by omega, by omega⟩ rfl rfl rfl (fun _ => rfl) (Nat.le_of_ble_eq_true rfl) ?_
        refine xy_r (xw_aload_n dM_showSpine_195 rfl) ?_
        refine xy_r (xw_bipush (41) dM_showSpine_196 (by decide)) ?_
        obtain ⟨r1438, er1438, hF⟩ := xg_b hF
        have hm1439 : m0 ≤ r1438.2.2.1.2.2.2.2.2.2.1 ∧ n0 ≤ r1438.2.2.1.2.2.2.2.2.2.2 := xy_le hm1436 (show r1435.2.2.1.2.2.2.2.2.2.1 ≤ r1438.2.2.1.2.2.2.2.2.2.1 ∧ r1435.2.2.1.2.2.2.2.2.2.2 ≤ r1438.2.2.1.2.2.2.2.2.2.2 from (CM_put_IV (w := w) (h := h) hb (s := r1435) er1438).1)
        refine xy_V0 (nl := 4) (sm := r1435.2.2.1.2.2.2.2.2.2.1) (sn := r1435.2.2.1.2.2.2.2.2.2.2) (tm := r1438.2.2.1.2.2.2.2.2.2.1) (tn := r1438.2.2.1.2.2.2.2.2.2.2) (CM_put_IV hb (s := r1435) er1438) rfl rfl hm1436 (fun _ => rfl) (fun _ => rfl) (fun _ => rfl) (fun _ => dM_showSpine_198) (fun _ R => kM_423 R) (fun _ => rfl) ⟨by omega, by omega⟩ rfl rfl rfl (fun _ => rfl) (Nat.le_of_ble_eq_true rfl) ?_
        refine xy_r (xw_goto 117 dM_showSpine_201 (by decide)) ?_
        refine xy_r (xw_drop (L' := [some (.ref 2000), none, some (.int l2), none, none, none]) ⟨rfl, ⟨rfl, trivial⟩⟩) ?_
        exact ih (s := r1438) hm1439 hF
      · replace hF := xg_t c1431 hF
        refine xy_r (xw_aload_n dM_showSpine_156 rfl) ?_
        refine xy_r (xw_aload_n dM_showSpine_157 rfl) ?_
        refine xy_r (xw_get dM_showSpine_158 fM_161 rfl rfl) ?_
        refine xy_r (xw_aload dM_showSpine_161 rfl) ?_
        refine xy_r (xw_get dM_showSpine_163 fM_195 (mV_n g1430) rfl) ?_
        obtain ⟨g1441, hF⟩ := xg_g hF
        obtain ⟨k1442, ek1442, hF⟩ := xg_b hF
        refine xy_r (xg_saload g1441 (by decide) ek1442 dM_showSpine_166 rfl) ?_
        obtain ⟨r1443, er1443, hF⟩ := xg_b hF
        have hm1444 : m0 ≤ r1443.2.2.1.2.2.2.2.2.2.1 ∧ n0 ≤ r1443.2.2.1.2.2.2.2.2.2.2 := xy_le hm (show s.2.2.1.2.2.2.2.2.2.1 ≤ r1443.2.2.1.2.2.2.2.2.2.1 ∧ s.2.2.1.2.2.2.2.2.2.2 ≤ r1443.2.2.1.2.2.2.2.2.2.2 from (CM_put_LjavalangStringV (w := w) (h := h) hb (s := (s.1, s.2.1, s.2.2.1, (s.2.2.2.1.1, s.2.2.2.1.2.1, (s.2.2.2.1.2.2.1 - 1), s.2.2.2.1.2.2.2), s.2.2.2.2)) er1443).1)
        refine xy_V0 (nl := 3) (sm := s.2.2.1.2.2.2.2.2.2.1) (sn := s.2.2.1.2.2.2.2.2.2.2) (tm := r1443.2.2.1.2.2.2.2.2.2.1) (tn := r1443.2.2.1.2.2.2.2.2.2.2) (CM_put_LjavalangStringV hb (s := (s.1, s.2.1, s.2.2.1, (s.2.2.2.1.1, s.2.2.2.1.2.1, (s.2.2.2.1.2.2.1 - 1), s.2.2.2.1.2.2.2), s.2.2.2.2)) er1443) rfl rfl hm (fun _ => rfl) (fun _ => rfl) (fun _ => rfl) (fun _ => dM_showSpine_167) (fun _ R => kM_449 R) (fun _ => rfl) ⟨by omega, by omega⟩ rfl rfl rfl (fun _ => rfl) (Nat.le_of_ble_eq_true rfl) ?_
        refine xy_r (xw_aload_n dM_showSpine_170 rfl) ?_
        refine xy_r (xw_aload dM_showSpine_171 rfl) ?_
        obtain ⟨g1446, hF⟩ := xg_g hF
        refine xy_r (xw_get dM_showSpine_173 fM_209 (mV_n g1446) rfl) ?_
        obtain ⟨i1447, ei1447, hF⟩ := xg_b hF
        refine xy_r (xw_Sn (st' := [.ref (xn i1447), .ref 2000]) (by first | (rw [ei1447]; done) | (rw [ei1447]; rfl))) ?_
        obtain ⟨r1448, er1448, hF⟩ := xg_b hF
        have hm1449 : m0 ≤ r1448.2.2.1.2.2.2.2.2.2.1 ∧ n0 ≤ r1448.2.2.1.2.2.2.2.2.2.2 := xy_le hm1444 (show r1443.2.2.1.2.2.2.2.2.2.1 ≤ r1448.2.2.1.2.2.2.2.2.2.1 ∧ r1443.2.2.1.2.2.2.2.2.2.2 ≤ r1448.2.2.1.2.2.2.2.2.2.2 from ((hp.1 (h := h) hb (s := r1443) er1448)).1)
        refine xy_V0 (nl := 5) (sm := r1443.2.2.1.2.2.2.2.2.2.1) (sn := r1443.2.2.1.2.2.2.2.2.2.2) (tm := r1448.2.2.1.2.2.2.2.2.2.1) (tn := r1448.2.2.1.2.2.2.2.2.2.2) (hp.1 hb (s := r1443) er1448) rfl rfl hm1444 (fun _ => rfl) (fun _ => rfl) (fun _ => rfl) (fun _ => dM_showSpine_176) (fun _ R => kM_437 R) (fun _ => rfl) ⟨by omega, by omega⟩ rfl rfl rfl (fun _ => rfl) (Nat.le_of_ble_eq_true rfl) ?_
        refine xy_r (xw_goto 201 dM_showSpine_179 (by decide)) ?_
        refine xy_r (xw_goto 117 dM_showSpine_201 (by decide)) ?_
        refine xy_r (xw_drop (L' := [some (.ref 2000), none, some (.int l2), none, none, none]) ⟨rfl, ⟨rfl, trivial⟩⟩) ?_
        exact ih (s := r1448) hm1449 hF
set_option maxRecDepth 20000 in
theorem CM_showSpine_L {w : xw_G} {p : xTS} {d : Nat} (hp : xKS w p d) {h : xw_H} (hb : xMb h) : ∀ (fu : Nat), (∀  {l2 : Int32} {l3 : Option Nat} {s : xMs} {out : xMs} {h0 : xw_H} {m0 n0 : Nat} (hm : m0 ≤ s.2.2.1.2.2.2.2.2.2.1 ∧ n0 ≤ s.2.2.1.2.2.2.2.2.2.2), FM_showSpine_7 p fu l2 l3 s = some out → xw_Y w mM_showSpine (d + 1 + 20) (60 * (d + 1) + 600) (xw_R none (mV out h)) h0 m0 n0 s.2.2.1.2.2.2.2.2.2.1 s.2.2.1.2.2.2.2.2.2.2 out.2.2.1.2.2.2.2.2.2.1 out.2.2.1.2.2.2.2.2.2.2 7 [some (.ref 2000), none, some (.int l2), some (xw_rf l3), none, none] [] (mV s h)) ∧ (∀  {l2 : Int32} {l3 : Option Nat} {l4 : Nat} {l5 : Int32} {s : xMs} {out : xMs} {h0 : xw_H} {m0 n0 : Nat} (hm : m0 ≤ s.2.2.1.2.2.2.2.2.2.1 ∧ n0 ≤ s.2.2.1.2.2.2.2.2.2.2), FM_showSpine_51 p fu l2 l3 l4 l5 s = some out → xw_Y w mM_showSpine (d + 1 + 20) (60 * (d + 1) + 600) (xw_R none (mV out h)) h0 m0 n0 s.2.2.1.2.2.2.2.2.2.1 s.2.2.1.2.2.2.2.2.2.2 out.2.2.1.2.2.2.2.2.2.1 out.2.2.1.2.2.2.2.2.2.2 51 [some (.ref 2000), none, some (.int l2), some (xw_rf l3), some (.ref (3002 + 3 * l4)), some (.int l5)] [] (mV s h)) := by
  intro fu
  induction fu with
  | zero => exact ⟨fun _ q => (Option.some_ne_none _ q.symm).elim, fun _ q => (Option.some_ne_none _ q.symm).elim⟩
  | succ fu ih =>
    refine ⟨?_, ?_⟩
    · intro l2 l3 s out h0 m0 n0 hm hF
      replace hF : ((l3).bind fun i1407 => if i1407 < s.2.2.1.2.2.2.2.1 then (if (s.2.2.1.2.2.2.2.2.1 i1407).1.1 = 9 then (if s.2.2.2.1.2.2.2.1 < s.2.2.2.1.2.2.2.2.1 then (if s.2.2.2.1.2.2.1 = (nI (256 * 2 ^ s.2.2.2.1.2.2.2.1)) then (if (2 * s.2.2.2.1.2.2.1) = nI (256 * 2 ^ s.2.2.2.1.2.2.2.2.1) ∧ s.2.2.2.1.2.2.2.2.1 < 8 then (FM_showSpine_51 p fu l2 (some i1407) s.2.2.2.1.2.2.2.2.1 0 (s.1, s.2.1, (s.2.2.1.1, s.2.2.1.2.1, s.2.2.1.2.2.1, s.2.2.1.2.2.2.1, s.2.2.1.2.2.2.2.1, s.2.2.1.2.2.2.2.2.1, (s.2.2.1.2.2.2.2.2.2.1 + 1), (s.2.2.1.2.2.2.2.2.2.2 + 256 * 2 ^ s.2.2.2.1.2.2.2.2.1)), (s.2.2.2.1.1, s.2.2.2.1.2.1, s.2.2.2.1.2.2.1, s.2.2.2.1.2.2.2.1, (s.2.2.2.1.2.2.2.2.1 + 1), (va_up s.2.2.2.1.2.2.2.2.2 s.2.2.2.1.2.2.2.2.1 (fun _ => none))), s.2.2.2.2)) else none) else (if (0 ≤ s.2.2.2.1.2.2.1 ∧ s.2.2.2.1.2.2.1 < nI (256 * 2 ^ s.2.2.2.1.2.2.2.1)) ∧ s.2.2.2.1.2.2.2.1 < s.2.2.2.1.2.2.2.2.1 ∧ s.2.2.2.1.2.2.2.1 < 8 then (FM_showSpine_7 p fu l2 (s.2.2.1.2.2.2.2.2.1 i1407).2.2.1 (s.1, s.2.1, s.2.2.1, (s.2.2.2.1.1, s.2.2.2.1.2.1, (s.2.2.2.1.2.2.1 + 1), s.2.2.2.1.2.2.2.1, s.2.2.2.1.2.2.2.2.1, (va_up s.2.2.2.1.2.2.2.2.2 s.2.2.2.1.2.2.2.1 (va_up (s.2.2.2.1.2.2.2.2.2 s.2.2.2.1.2.2.2.1) (s.2.2.2.1.2.2.1).toNatClampNeg (some i1407)))), s.2.2.2.2)) else none)) else none) else (if (s.2.2.1.2.2.2.2.2.1 i1407).1.1 = 13 then (if s.2.2.2.1.2.2.2.1 < s.2.2.2.1.2.2.2.2.1 then (if s.2.2.2.1.2.2.1 = (nI (256 * 2 ^ s.2.2.2.1.2.2.2.1)) then (if (2 * s.2.2.2.1.2.2.1) = nI (256 * 2 ^ s.2.2.2.1.2.2.2.2.1) ∧ s.2.2.2.1.2.2.2.2.1 < 8 then (FM_showSpine_51 p fu l2 (some i1407) s.2.2.2.1.2.2.2.2.1 0 (s.1, s.2.1, (s.2.2.1.1, s.2.2.1.2.1, s.2.2.1.2.2.1, s.2.2.1.2.2.2.1, s.2.2.1.2.2.2.2.1, s.2.2.1.2.2.2.2.2.1, (s.2.2.1.2.2.2.2.2.2.1 + 1), (s.2.2.1.2.2.2.2.2.2.2 + 256 * 2 ^ s.2.2.2.1.2.2.2.2.1)), (s.2.2.2.1.1, s.2.2.2.1.2.1, s.2.2.2.1.2.2.1, s.2.2.2.1.2.2.2.1, (s.2.2.2.1.2.2.2.2.1 + 1), (va_up s.2.2.2.1.2.2.2.2.2 s.2.2.2.1.2.2.2.2.1 (fun _ => none))), s.2.2.2.2)) else none) else (if (0 ≤ s.2.2.2.1.2.2.1 ∧ s.2.2.2.1.2.2.1 < nI (256 * 2 ^ s.2.2.2.1.2.2.2.1)) ∧ s.2.2.2.1.2.2.2.1 < s.2.2.2.1.2.2.2.2.1 ∧ s.2.2.2.1.2.2.2.1 < 8 then (FM_showSpine_7 p fu l2 (s.2.2.1.2.2.2.2.2.1 i1407).2.2.1 (s.1, s.2.1, s.2.2.1, (s.2.2.2.1.1, s.2.2.2.1.2.1, (s.2.2.2.1.2.2.1 + 1), s.2.2.2.1.2.2.2.1, s.2.2.2.1.2.2.2.2.1, (va_up s.2.2.2.1.2.2.2.2.2 s.2.2.2.1.2.2.2.1 (va_up (s.2.2.2.1.2.2.2.2.2 s.2.2.2.1.2.2.2.1) (s.2.2.2.1.2.2.1).toNatClampNeg (some i1407)))), s.2.2.2.2)) else none)) else none) else ((p.1 i1407 s).bind fun r1424 => FM_showSpine_117 p xFuel l2 r1424))) else none) = some out := hF
      refine xy_r (xg_aload_n dM_showSpine_7 rfl) ?_
      obtain ⟨i1407, ei1407, hF⟩ := xg_b hF
      refine xy_r (xw_Ln (L' := [some (.ref 2000), none, some (.int l2), some (.ref (xn i1407)), none, none]) (by first | (rw [ei1407]; done) | (rw [ei1407]; rfl))) ?_
      refine xy_r (xw_Sn (st' := [.ref (xn i1407)]) (by first | (rw [ei1407]; done) | (rw [ei1407]; rfl))) ?_
      obtain ⟨g1408, hF⟩ := xg_g hF
      refine xy_r (xw_get dM_showSpine_8 fM_192 (mV_n g1408) rfl) ?_
      refine xy_r (xw_bipush (9) dM_showSpine_11 (by decide)) ?_
      refine xy_br (xw_icmp_eq 25 dM_showSpine_13 (by decide)) (fun c1409 => ?_) (fun c1409 => ?_)
      · replace hF := xg_t c1409 hF
        refine xy_r (xw_aload_n dM_showSpine_25 rfl) ?_
        refine xy_r (xw_get dM_showSpine_26 fM_446 rfl rfl) ?_
        refine xy_r (xw_aload_n dM_showSpine_29 rfl) ?_
        refine xy_r (xw_get dM_showSpine_30 fM_164 rfl rfl) ?_
        obtain ⟨g1410, hF⟩ := xg_g hF
        refine xy_r (xw_alen (ty := fun _ => (0, .object "FormulaShaperModel$Node")) (nI (256 * 2 ^ s.2.2.2.1.2.2.2.1)) dM_showSpine_33 (mV_s g1410) (fun _ => rfl) rfl) ?_
        refine xy_brn (xw_icmp_ne 84 dM_showSpine_34 (by decide)) (fun c1411 => ?_) (fun c1411 => ?_)
        · replace hF := xg_f c1411 hF
          refine xy_r (xw_aload_n dM_showSpine_84 rfl) ?_
          refine xy_r (xw_get dM_showSpine_85 fM_164 rfl rfl) ?_
          refine xy_r (xw_aload_n dM_showSpine_88 rfl) ?_
          refine xy_r (xw_get dM_showSpine_89 fM_446 rfl rfl) ?_
          refine xy_r (xw_aload_n dM_showSpine_92 rfl) ?_
          obtain ⟨g1412, hF⟩ := xg_g hF
          refine xy_r (xg_nastore (f := (s.2.2.2.1.2.2.2.2.2 s.2.2.2.1.2.2.2.1)) g1412.1 (xlev g1412.2.2) dM_showSpine_93 (mV_s g1412.2.1) (xna_le _) (mV_n g1408) (mV_e (s' := (s.1, s.2.1, s.2.2.1, (s.2.2.2.1.1, s.2.2.2.1.2.1, s.2.2.2.1.2.2.1, s.2.2.2.1.2.2.2.1, s.2.2.2.1.2.2.2.2.1, (va_up s.2.2.2.1.2.2.2.2.2 s.2.2.2.1.2.2.2.1 (va_up (s.2.2.2.1.2.2.2.2.2 s.2.2.2.1.2.2.2.1) (s.2.2.2.1.2.2.1).toNatClampNeg (some i1407)))), s.2.2.2.2)) (mV_ps g1412.2.1) rfl)) ?_
          refine xy_r (xw_aload_n dM_showSpine_94 rfl) ?_
          refine xy_r (xw_dup_r dM_showSpine_95) ?_
          refine xy_r (xw_get dM_showSpine_96 fM_446 rfl rfl) ?_
          refine xy_r (xw_iconst (1) dM_showSpine_99 (by decide)) ?_
          refine xy_r (xw_iadd dM_showSpine_100) ?_
          refine xy_r (xg_put dM_showSpine_101 fM_446 rfl (by decide) (Nat.le_of_ble_eq_true rfl) (fun _ => rfl) (fun _ => rfl) (mV_o (s' := (s.1, s.2.1, s.2.2.1, (s.2.2.2.1.1, s.2.2.2.1.2.1, (s.2.2.2.1.2.2.1 + 1), s.2.2.2.1.2.2.2.1, s.2.2.2.1.2.2.2.2.1, (va_up s.2.2.2.1.2.2.2.2.2 s.2.2.2.1.2.2.2.1 (va_up (s.2.2.2.1.2.2.2.2.2 s.2.2.2.1.2.2.2.1) (s.2.2.2.1.2.2.1).toNatClampNeg (some i1407)))), s.2.2.2.2)) rfl)) ?_
          refine xy_r (xw_aload_n dM_showSpine_104 rfl) ?_
          refine xy_r (xw_get dM_showSpine_105 fM_205 (mV_n g1408) rfl) ?_
          refine xy_r (xg_astore_n dM_showSpine_108 (Nat.le_of_ble_eq_true rfl)) ?_
          refine xy_r (xw_Ln (L' := [some (.ref 2000), none, some (.int l2), some (xw_rf (s.2.2.1.2.2.2.2.2.1 i1407).2.2.1), none, none]) rfl) ?_
          refine xy_r (xw_goto 7 dM_showSpine_109 (by decide)) ?_
          exact ih.1 (s := (s.1, s.2.1, s.2.2.1, (s.2.2.2.1.1, s.2.2.2.1.2.1, (s.2.2.2.1.2.2.1 + 1), s.2.2.2.1.2.2.2.1, s.2.2.2.1.2.2.2.2.1, (va_up s.2.2.2.1.2.2.2.2.2 s.2.2.2.1.2.2.2.1 (va_up (s.2.2.2.1.2.2.2.2.2 s.2.2.2.1.2.2.2.1) (s.2.2.2.1.2.2.1).toNatClampNeg (some i1407)))), s.2.2.2.2)) hm hF
        · replace hF := xg_t c1411 hF
          refine xy_r (xw_iconst (2) dM_showSpine_37 (by decide)) ?_
          refine xy_r (xw_aload_n dM_showSpine_38 rfl) ?_
          refine xy_r (xw_get dM_showSpine_39 fM_446 rfl rfl) ?_
          refine xy_r (xw_imul dM_showSpine_42) ?_
          obtain ⟨g1413, hF⟩ := xg_g hF
          refine xy_anew (3002 + 3 * s.2.2.2.1.2.2.2.2.1) 3 (256 * 2 ^ s.2.2.2.1.2.2.2.2.1) (fun _ => rfl) (fun _ => rfl) (fun _ => dM_showSpine_43) (fun _ => tw_898) tw_899 (mV_sf hb) (by omega) g1413.1 (xlev g1413.2) hm (mV_e (s' := (s.1, s.2.1, (s.2.2.1.1, s.2.2.1.2.1, s.2.2.1.2.2.1, s.2.2.1.2.2.2.1, s.2.2.1.2.2.2.2.1, s.2.2.1.2.2.2.2.2.1, (s.2.2.1.2.2.2.2.2.2.1 + 1), (s.2.2.1.2.2.2.2.2.2.2 + 256 * 2 ^ s.2.2.2.1.2.2.2.2.1)), (s.2.2.2.1.1, s.2.2.2.1.2.1, s.2.2.2.1.2.2.1, s.2.2.2.1.2.2.2.1, (s.2.2.2.1.2.2.2.2.1 + 1), (va_up s.2.2.2.1.2.2.2.2.2 s.2.2.2.1.2.2.2.2.1 (fun _ => none))), s.2.2.2.2)) (mV_ns (f := fun _ => none) (k := (s.2.2.1.2.2.2.2.2.2.1 + 1)) (m := (s.2.2.1.2.2.2.2.2.2.2 + 256 * 2 ^ s.2.2.2.1.2.2.2.2.1))) rfl) ?_
          have hm1414 : m0 ≤ (s.2.2.1.2.2.2.2.2.2.1 + 1) ∧ n0 ≤ (s.2.2.1.2.2.2.2.2.2.2 + 256 * 2 ^ s.2.2.2.1.2.2.2.2.1) := ⟨by omega, by omega⟩
          refine xy_r (xw_astore dM_showSpine_46 (Nat.le_of_ble_eq_true rfl)) ?_
          refine xy_r (xw_Ln (L' := [some (.ref 2000), none, some (.int l2), some (.ref (xn i1407)), some (.ref (3002 + 3 * s.2.2.2.1.2.2.2.2.1)), none]) rfl) ?_
          refine xy_r (xw_iconst (0) dM_showSpine_48 (by decide)) ?_
          refine xy_r (xw_istore dM_showSpine_49 (Nat.le_of_ble_eq_true rfl)) ?_
          refine xy_r (xw_Ln (L' := [some (.ref 2000), none, some (.int l2), some (.ref (xn i1407)), some (.ref (3002 + 3 * s.2.2.2.1.2.2.2.2.1)), some (.int 0)]) rfl) ?_
          exact ih.2 (s := (s.1, s.2.1, (s.2.2.1.1, s.2.2.1.2.1, s.2.2.1.2.2.1, s.2.2.1.2.2.2.1, s.2.2.1.2.2.2.2.1, s.2.2.1.2.2.2.2.2.1, (s.2.2.1.2.2.2.2.2.2.1 + 1), (s.2.2.1.2.2.2.2.2.2.2 + 256 * 2 ^ s.2.2.2.1.2.2.2.2.1)), (s.2.2.2.1.1, s.2.2.2.1.2.1, s.2.2.2.1.2.2.1, s.2.2.2.1.2.2.2.1, (s.2.2.2.1.2.2.2.2.1 + 1), (va_up s.2.2.2.1.2.2.2.2.2 s.2.2.2.1.2.2.2.2.1 (fun _ => none))), s.2.2.2.2)) hm1414 hF
      · replace hF := xg_f c1409 hF
        refine xy_r (xw_aload_n dM_showSpine_16 rfl) ?_
        refine xy_r (xw_get dM_showSpine_17 fM_192 (mV_n g1408) rfl) ?_
        refine xy_r (xw_bipush (13) dM_showSpine_20 (by decide)) ?_
        refine xy_brn (xw_icmp_ne 112 dM_showSpine_22 (by decide)) (fun c1423 => ?_) (fun c1423 => ?_)
        · replace hF := xg_f c1423 hF
          refine xy_r (xw_aload_n dM_showSpine_112 rfl) ?_
          refine xy_r (xw_aload_n dM_showSpine_113 rfl) ?_
          obtain ⟨r1424, er1424, hF⟩ := xg_b hF
          have hm1425 : m0 ≤ r1424.2.2.1.2.2.2.2.2.2.1 ∧ n0 ≤ r1424.2.2.1.2.2.2.2.2.2.2 := xy_le hm (show s.2.2.1.2.2.2.2.2.2.1 ≤ r1424.2.2.1.2.2.2.2.2.2.1 ∧ s.2.2.1.2.2.2.2.2.2.2 ≤ r1424.2.2.1.2.2.2.2.2.2.2 from ((hp.1 (h := h) hb (s := s) er1424)).1)
          refine xy_V0 (nl := 5) (sm := s.2.2.1.2.2.2.2.2.2.1) (sn := s.2.2.1.2.2.2.2.2.2.2) (tm := r1424.2.2.1.2.2.2.2.2.2.1) (tn := r1424.2.2.1.2.2.2.2.2.2.2) (hp.1 hb (s := s) er1424) rfl rfl hm (fun _ => rfl) (fun _ => rfl) (fun _ => rfl) (fun _ => dM_showSpine_114) (fun _ R => kM_437 R) (fun _ => rfl) ⟨by omega, by omega⟩ rfl rfl rfl (fun _ => rfl) (Nat.le_of_ble_eq_true rfl) ?_
          refine xy_r (xw_drop (L' := [some (.ref 2000), none, some (.int l2), none, none, none]) ⟨rfl, ⟨rfl, trivial⟩⟩) ?_
          exact CM_showSpine_117 (hp := hp) hb xFuel (s := r1424) hm1425 hF
        · replace hF := xg_t c1423 hF
          refine xy_r (xw_aload_n dM_showSpine_25 rfl) ?_
          refine xy_r (xw_get dM_showSpine_26 fM_446 rfl rfl) ?_
          refine xy_r (xw_aload_n dM_showSpine_29 rfl) ?_
          refine xy_r (xw_get dM_showSpine_30 fM_164 rfl rfl) ?_
          obtain ⟨g1451, hF⟩ := xg_g hF
          refine xy_r (xw_alen (ty := fun _ => (0, .object "FormulaShaperModel$Node")) (nI (256 * 2 ^ s.2.2.2.1.2.2.2.1)) dM_showSpine_33 (mV_s g1451) (fun _ => rfl) rfl) ?_
          refine xy_brn (xw_icmp_ne 84 dM_showSpine_34 (by decide)) (fun c1452 => ?_) (fun c1452 => ?_)
          · replace hF := xg_f c1452 hF
            refine xy_r (xw_aload_n dM_showSpine_84 rfl) ?_
            refine xy_r (xw_get dM_showSpine_85 fM_164 rfl rfl) ?_
            refine xy_r (xw_aload_n dM_showSpine_88 rfl) ?_
            refine xy_r (xw_get dM_showSpine_89 fM_446 rfl rfl) ?_
            refine xy_r (xw_aload_n dM_showSpine_92 rfl) ?_
            obtain ⟨g1453, hF⟩ := xg_g hF
            refine xy_r (xg_nastore (f := (s.2.2.2.1.2.2.2.2.2 s.2.2.2.1.2.2.2.1)) g1453.1 (xlev g1453.2.2) dM_showSpine_93 (mV_s g1453.2.1) (xna_le _) (mV_n g1408) (mV_e (s' := (s.1, s.2.1, s.2.2.1, (s.2.2.2.1.1, s.2.2.2.1.2.1, s.2.2.2.1.2.2.1, s.2.2.2.1.2.2.2.1, s.2.2.2.1.2.2.2.2.1, (va_up s.2.2.2.1.2.2.2.2.2 s.2.2.2.1.2.2.2.1 (va_up (s.2.2.2.1.2.2.2.2.2 s.2.2.2.1.2.2.2.1) (s.2.2.2.1.2.2.1).toNatClampNeg (some i1407)))), s.2.2.2.2)) (mV_ps g1453.2.1) rfl)) ?_
            refine xy_r (xw_aload_n dM_showSpine_94 rfl) ?_
            refine xy_r (xw_dup_r dM_showSpine_95) ?_
            refine xy_r (xw_get dM_showSpine_96 fM_446 rfl rfl) ?_
            refine xy_r (xw_iconst (1) dM_showSpine_99 (by decide)) ?_
            refine xy_r (xw_iadd dM_showSpine_100) ?_
            refine xy_r (xg_put dM_showSpine_101 fM_446 rfl (by decide) (Nat.le_of_ble_eq_true rfl) (fun _ => rfl) (fun _ => rfl) (mV_o (s' := (s.1, s.2.1, s.2.2.1, (s.2.2.2.1.1, s.2.2.2.1.2.1, (s.2.2.2.1.2.2.1 + 1), s.2.2.2.1.2.2.2.1, s.2.2.2.1.2.2.2.2.1, (va_up s.2.2.2.1.2.2.2.2.2 s.2.2.2.1.2.2.2.1 (va_up (s.2.2.2.1.2.2.2.2.2 s.2.2.2.1.2.2.2.1) (s.2.2.2.1.2.2.1).toNatClampNeg (some i1407)))), s.2.2.2.2)) rfl)) ?_
            refine xy_r (xw_aload_n dM_showSpine_104 rfl) ?_
            refine xy_r (xw_get dM_showSpine_105 fM_205 (mV_n g1408) rfl) ?_
            refine xy_r (xg_astore_n dM_showSpine_108 (Nat.le_of_ble_eq_true rfl)) ?_
            refine xy_r (xw_Ln (L' := [some (.ref 2000), none, some (.int l2), some (xw_rf (s.2.2.1.2.2.2.2.2.1 i1407).2.2.1), none, none]) rfl) ?_
            refine xy_r (xw_goto 7 dM_showSpine_109 (by decide)) ?_
            exact ih.1 (s := (s.1, s.2.1, s.2.2.1, (s.2.2.2.1.1, s.2.2.2.1.2.1, (s.2.2.2.1.2.2.1 + 1), s.2.2.2.1.2.2.2.1, s.2.2.2.1.2.2.2.2.1, (va_up s.2.2.2.1.2.2.2.2.2 s.2.2.2.1.2.2.2.1 (va_up (s.2.2.2.1.2.2.2.2.2 s.2.2.2.1.2.2.2.1) (s.2.2.2.1.2.2.1).toNatClampNeg (some i1407)))), s.2.2.2.2)) hm hF
          · replace hF := xg_t c1452 hF
            refine xy_r (xw_iconst (2) dM_showSpine_37 (by decide)) ?_
            refine xy_r (xw_aload_n dM_showSpine_38 rfl) ?_
            refine xy_r (xw_get dM_showSpine_39 fM_446 rfl rfl) ?_
            refine xy_r (xw_imul dM_showSpine_42) ?_
            obtain ⟨g1454, hF⟩ := xg_g hF
            refine xy_anew (3002 + 3 * s.2.2.2.1.2.2.2.2.1) 3 (256 * 2 ^ s.2.2.2.1.2.2.2.2.1) (fun _ => rfl) (fun _ => rfl) (fun _ => dM_showSpine_43) (fun _ => tw_898) tw_899 (mV_sf hb) (by omega) g1454.1 (xlev g1454.2) hm (mV_e (s' := (s.1, s.2.1, (s.2.2.1.1, s.2.2.1.2.1, s.2.2.1.2.2.1, s.2.2.1.2.2.2.1, s.2.2.1.2.2.2.2.1, s.2.2.1.2.2.2.2.2.1, (s.2.2.1.2.2.2.2.2.2.1 + 1), (s.2.2.1.2.2.2.2.2.2.2 + 256 * 2 ^ s.2.2.2.1.2.2.2.2.1)), (s.2.2.2.1.1, s.2.2.2.1.2.1, s.2.2.2.1.2.2.1, s.2.2.2.1.2.2.2.1, (s.2.2.2.1.2.2.2.2.1 + 1), (va_up s.2.2.2.1.2.2.2.2.2 s.2.2.2.1.2.2.2.2.1 (fun _ => none))), s.2.2.2.2)) (mV_ns (f := fun _ => none) (k := (s.2.2.1.2.2.2.2.2.2.1 + 1)) (m := (s.2.2.1.2.2.2.2.2.2.2 + 256 * 2 ^ s.2.2.2.1.2.2.2.2.1))) rfl) ?_
            have hm1455 : m0 ≤ (s.2.2.1.2.2.2.2.2.2.1 + 1) ∧ n0 ≤ (s.2.2.1.2.2.2.2.2.2.2 + 256 * 2 ^ s.2.2.2.1.2.2.2.2.1) := ⟨by omega, by omega⟩
            refine xy_r (xw_astore dM_showSpine_46 (Nat.le_of_ble_eq_true rfl)) ?_
            refine xy_r (xw_Ln (L' := [some (.ref 2000), none, some (.int l2), some (.ref (xn i1407)), some (.ref (3002 + 3 * s.2.2.2.1.2.2.2.2.1)), none]) rfl) ?_
            refine xy_r (xw_iconst (0) dM_showSpine_48 (by decide)) ?_
            refine xy_r (xw_istore dM_showSpine_49 (Nat.le_of_ble_eq_true rfl)) ?_
            refine xy_r (xw_Ln (L' := [some (.ref 2000), none, some (.int l2), some (.ref (xn i1407)), some (.ref (3002 + 3 * s.2.2.2.1.2.2.2.2.1)), some (.int 0)]) rfl) ?_
            exact ih.2 (s := (s.1, s.2.1, (s.2.2.1.1, s.2.2.1.2.1, s.2.2.1.2.2.1, s.2.2.1.2.2.2.1, s.2.2.1.2.2.2.2.1, s.2.2.1.2.2.2.2.2.1, (s.2.2.1.2.2.2.2.2.2.1 + 1), (s.2.2.1.2.2.2.2.2.2.2 + 256 * 2 ^ s.2.2.2.1.2.2.2.2.1)), (s.2.2.2.1.1, s.2.2.2.1.2.1, s.2.2.2.1.2.2.1, s.2.2.2.1.2.2.2.1, (s.2.2.2.1.2.2.2.2.1 + 1), (va_up s.2.2.2.1.2.2.2.2.2 s.2.2.2.1.2.2.2.2.1 (fun _ => none))), s.2.2.2.2)) hm1455 hF
    · intro l2 l3 l4 l5 s out h0 m0 n0 hm hF
      replace hF : (if s.2.2.2.1.2.2.1 ≤ l5 then ((l3).bind fun i1416 => if i1416 < s.2.2.1.2.2.2.2.1 then (if (0 ≤ s.2.2.2.1.2.2.1 ∧ s.2.2.2.1.2.2.1 < nI (256 * 2 ^ l4)) ∧ l4 < s.2.2.2.1.2.2.2.2.1 ∧ l4 < 8 then (FM_showSpine_7 p fu l2 (s.2.2.1.2.2.2.2.2.1 i1416).2.2.1 (s.1, s.2.1, s.2.2.1, (s.2.2.2.1.1, s.2.2.2.1.2.1, (s.2.2.2.1.2.2.1 + 1), l4, s.2.2.2.1.2.2.2.2.1, (va_up s.2.2.2.1.2.2.2.2.2 l4 (va_up (s.2.2.2.1.2.2.2.2.2 l4) (s.2.2.2.1.2.2.1).toNatClampNeg (some i1416)))), s.2.2.2.2)) else none) else none) else (if (0 ≤ l5 ∧ l5 < nI (256 * 2 ^ s.2.2.2.1.2.2.2.1)) ∧ s.2.2.2.1.2.2.2.1 < s.2.2.2.1.2.2.2.2.1 ∧ s.2.2.2.1.2.2.2.1 < 8 then (((s.2.2.2.1.2.2.2.2.2 s.2.2.2.1.2.2.2.1 (l5).toNatClampNeg)).bind fun i1420 => if i1420 < s.2.2.1.2.2.2.2.1 then (if (0 ≤ l5 ∧ l5 < nI (256 * 2 ^ l4)) ∧ l4 < s.2.2.2.1.2.2.2.2.1 ∧ l4 < 8 then (FM_showSpine_51 p fu l2 l3 l4 (l5 + 1) (s.1, s.2.1, s.2.2.1, (s.2.2.2.1.1, s.2.2.2.1.2.1, s.2.2.2.1.2.2.1, s.2.2.2.1.2.2.2.1, s.2.2.2.1.2.2.2.2.1, (va_up s.2.2.2.1.2.2.2.2.2 l4 (va_up (s.2.2.2.1.2.2.2.2.2 l4) (l5).toNatClampNeg (some i1420)))), s.2.2.2.2)) else none) else none) else none)) = some out := hF
      refine xy_r (xw_iload dM_showSpine_51 rfl) ?_
      refine xy_r (xw_aload_n dM_showSpine_53 rfl) ?_
      refine xy_r (xw_get dM_showSpine_54 fM_446 rfl rfl) ?_
      refine xy_br (xw_icmp_ge 78 dM_showSpine_57 (by decide)) (fun c1415 => ?_) (fun c1415 => ?_)
      · replace hF := xg_t c1415 hF
        refine xy_r (xw_aload_n dM_showSpine_78 rfl) ?_
        refine xy_r (xw_aload dM_showSpine_79 rfl) ?_
        refine xy_r (xg_put dM_showSpine_81 fM_164 rfl (by decide) (Nat.le_of_ble_eq_true rfl) (fun _ => rfl) (fun _ => rfl) (mV_o (s' := (s.1, s.2.1, s.2.2.1, (s.2.2.2.1.1, s.2.2.2.1.2.1, s.2.2.2.1.2.2.1, l4, s.2.2.2.1.2.2.2.2), s.2.2.2.2)) rfl)) ?_
        refine xy_r (xw_aload_n dM_showSpine_84 rfl) ?_
        refine xy_r (xw_get dM_showSpine_85 fM_164 rfl rfl) ?_
        refine xy_r (xw_aload_n dM_showSpine_88 rfl) ?_
        refine xy_r (xw_get dM_showSpine_89 fM_446 rfl rfl) ?_
        refine xy_r (xg_aload_n dM_showSpine_92 rfl) ?_
        obtain ⟨i1416, ei1416, hF⟩ := xg_b hF
        refine xy_r (xw_Ln (L' := [some (.ref 2000), none, some (.int l2), some (.ref (xn i1416)), some (.ref (3002 + 3 * l4)), some (.int l5)]) (by first | (rw [ei1416]; done) | (rw [ei1416]; rfl))) ?_
        refine xy_r (xw_Sn (st' := [.ref (xn i1416), .int s.2.2.2.1.2.2.1, .ref (3002 + 3 * l4)]) (by first | (rw [ei1416]; done) | (rw [ei1416]; rfl))) ?_
        obtain ⟨g1417, hF⟩ := xg_g hF
        obtain ⟨g1418, hF⟩ := xg_g hF
        refine xy_r (xg_nastore (f := (s.2.2.2.1.2.2.2.2.2 l4)) g1418.1 (xlev g1418.2.2) dM_showSpine_93 (mV_s g1418.2.1) (xna_le _) (mV_n g1417) (mV_e (s' := (s.1, s.2.1, s.2.2.1, (s.2.2.2.1.1, s.2.2.2.1.2.1, s.2.2.2.1.2.2.1, l4, s.2.2.2.1.2.2.2.2.1, (va_up s.2.2.2.1.2.2.2.2.2 l4 (va_up (s.2.2.2.1.2.2.2.2.2 l4) (s.2.2.2.1.2.2.1).toNatClampNeg (some i1416)))), s.2.2.2.2)) (mV_ps g1418.2.1) rfl)) ?_
        refine xy_r (xw_aload_n dM_showSpine_94 rfl) ?_
        refine xy_r (xw_dup_r dM_showSpine_95) ?_
        refine xy_r (xw_get dM_showSpine_96 fM_446 rfl rfl) ?_
        refine xy_r (xw_iconst (1) dM_showSpine_99 (by decide)) ?_
        refine xy_r (xw_iadd dM_showSpine_100) ?_
        refine xy_r (xg_put dM_showSpine_101 fM_446 rfl (by decide) (Nat.le_of_ble_eq_true rfl) (fun _ => rfl) (fun _ => rfl) (mV_o (s' := (s.1, s.2.1, s.2.2.1, (s.2.2.2.1.1, s.2.2.2.1.2.1, (s.2.2.2.1.2.2.1 + 1), l4, s.2.2.2.1.2.2.2.2.1, (va_up s.2.2.2.1.2.2.2.2.2 l4 (va_up (s.2.2.2.1.2.2.2.2.2 l4) (s.2.2.2.1.2.2.1).toNatClampNeg (some i1416)))), s.2.2.2.2)) rfl)) ?_
        refine xy_r (xw_aload_n dM_showSpine_104 rfl) ?_
        refine xy_r (xw_get dM_showSpine_105 fM_205 (mV_n g1417) rfl) ?_
        refine xy_r (xg_astore_n dM_showSpine_108 (Nat.le_of_ble_eq_true rfl)) ?_
        refine xy_r (xw_Ln (L' := [some (.ref 2000), none, some (.int l2), some (xw_rf (s.2.2.1.2.2.2.2.2.1 i1416).2.2.1), some (.ref (3002 + 3 * l4)), some (.int l5)]) rfl) ?_
        refine xy_r (xw_goto 7 dM_showSpine_109 (by decide)) ?_
        refine xy_r (xw_drop (L' := [some (.ref 2000), none, some (.int l2), some (xw_rf (s.2.2.1.2.2.2.2.2.1 i1416).2.2.1), none, none]) ⟨rfl, ⟨rfl, ⟨rfl, trivial⟩⟩⟩) ?_
        exact ih.1 (s := (s.1, s.2.1, s.2.2.1, (s.2.2.2.1.1, s.2.2.2.1.2.1, (s.2.2.2.1.2.2.1 + 1), l4, s.2.2.2.1.2.2.2.2.1, (va_up s.2.2.2.1.2.2.2.2.2 l4 (va_up (s.2.2.2.1.2.2.2.2.2 l4) (s.2.2.2.1.2.2.1).toNatClampNeg (some i1416)))), s.2.2.2.2)) hm hF
      · replace hF := xg_f c1415 hF
        refine xy_r (xw_aload dM_showSpine_60 rfl) ?_
        refine xy_r (xw_iload dM_showSpine_62 rfl) ?_
        refine xy_r (xw_aload_n dM_showSpine_64 rfl) ?_
        refine xy_r (xw_get dM_showSpine_65 fM_164 rfl rfl) ?_
        refine xy_r (xw_iload dM_showSpine_68 rfl) ?_
        obtain ⟨g1419, hF⟩ := xg_g hF
        refine xy_r (xg_naload g1419.1 (xlev g1419.2.2) dM_showSpine_70 (mV_s g1419.2.1)) ?_
        obtain ⟨i1420, ei1420, hF⟩ := xg_b hF
        refine xy_r (xw_Sn (st' := [.ref (xn i1420), .int l5, .ref (3002 + 3 * l4)]) (by first | (rw [ei1420]; done) | (rw [ei1420]; rfl))) ?_
        obtain ⟨g1421, hF⟩ := xg_g hF
        obtain ⟨g1422, hF⟩ := xg_g hF
        refine xy_r (xg_nastore (f := (s.2.2.2.1.2.2.2.2.2 l4)) g1422.1 (xlev g1422.2.2) dM_showSpine_71 (mV_s g1422.2.1) (xna_le _) (mV_n g1421) (mV_e (s' := (s.1, s.2.1, s.2.2.1, (s.2.2.2.1.1, s.2.2.2.1.2.1, s.2.2.2.1.2.2.1, s.2.2.2.1.2.2.2.1, s.2.2.2.1.2.2.2.2.1, (va_up s.2.2.2.1.2.2.2.2.2 l4 (va_up (s.2.2.2.1.2.2.2.2.2 l4) (l5).toNatClampNeg (some i1420)))), s.2.2.2.2)) (mV_ps g1422.2.1) rfl)) ?_
        refine xy_r (xw_iinc ((l5 + 1)) dM_showSpine_72 rfl rfl (Nat.le_of_ble_eq_true rfl)) ?_
        refine xy_r (xw_Ln (L' := [some (.ref 2000), none, some (.int l2), some (xw_rf l3), some (.ref (3002 + 3 * l4)), some (.int (l5 + 1))]) rfl) ?_
        refine xy_r (xw_goto 51 dM_showSpine_75 (by decide)) ?_
        exact ih.2 (s := (s.1, s.2.1, s.2.2.1, (s.2.2.2.1.1, s.2.2.2.1.2.1, s.2.2.2.1.2.2.1, s.2.2.2.1.2.2.2.1, s.2.2.2.1.2.2.2.2.1, (va_up s.2.2.2.1.2.2.2.2.2 l4 (va_up (s.2.2.2.1.2.2.2.2.2 l4) (l5).toNatClampNeg (some i1420)))), s.2.2.2.2)) hm hF
theorem CM_showSpine_7 {w : xw_G} {p : xTS} {d : Nat} (hp : xKS w p d) {h : xw_H} (hb : xMb h) (fu : Nat)  {l2 : Int32} {l3 : Option Nat} {s : xMs} {out : xMs} {h0 : xw_H} {m0 n0 : Nat} (hm : m0 ≤ s.2.2.1.2.2.2.2.2.2.1 ∧ n0 ≤ s.2.2.1.2.2.2.2.2.2.2) (hF : FM_showSpine_7 p fu l2 l3 s = some out) : xw_Y w mM_showSpine (d + 1 + 20) (60 * (d + 1) + 600) (xw_R none (mV out h)) h0 m0 n0 s.2.2.1.2.2.2.2.2.2.1 s.2.2.1.2.2.2.2.2.2.2 out.2.2.1.2.2.2.2.2.2.1 out.2.2.1.2.2.2.2.2.2.2 7 [some (.ref 2000), none, some (.int l2), some (xw_rf l3), none, none] [] (mV s h) := (CM_showSpine_L (hp := hp) hb fu).1 hm hF
theorem CM_showSpine_51 {w : xw_G} {p : xTS} {d : Nat} (hp : xKS w p d) {h : xw_H} (hb : xMb h) (fu : Nat)  {l2 : Int32} {l3 : Option Nat} {l4 : Nat} {l5 : Int32} {s : xMs} {out : xMs} {h0 : xw_H} {m0 n0 : Nat} (hm : m0 ≤ s.2.2.1.2.2.2.2.2.2.1 ∧ n0 ≤ s.2.2.1.2.2.2.2.2.2.2) (hF : FM_showSpine_51 p fu l2 l3 l4 l5 s = some out) : xw_Y w mM_showSpine (d + 1 + 20) (60 * (d + 1) + 600) (xw_R none (mV out h)) h0 m0 n0 s.2.2.1.2.2.2.2.2.2.1 s.2.2.1.2.2.2.2.2.2.2 out.2.2.1.2.2.2.2.2.2.1 out.2.2.1.2.2.2.2.2.2.2 51 [some (.ref 2000), none, some (.int l2), some (xw_rf l3), some (.ref (3002 + 3 * l4)), some (.int l5)] [] (mV s h) := (CM_showSpine_L (hp := hp) hb fu).2 hm hF
set_option maxRecDepth 20000 in
theorem CM_showSpine {w : xw_G} {p : xTS} {d : Nat} (hp : xKS w p d) {h : xw_H} (hb : xMb h) {x0 : Nat} {s : xMs} {out : xMs} (hF : FM_showSpine p x0 s = some out) : (s.2.2.1.2.2.2.2.2.2.1 ≤ out.2.2.1.2.2.2.2.2.2.1 ∧ s.2.2.1.2.2.2.2.2.2.2 ≤ out.2.2.1.2.2.2.2.2.2.2) ∧ xw_C w (mM_showSpine { frames := (d + 1 + 20), cells := out.2.2.1.2.2.2.2.2.2.1 - s.2.2.1.2.2.2.2.2.2.1, slots := out.2.2.1.2.2.2.2.2.2.2 - s.2.2.1.2.2.2.2.2.2.2, locals := (60 * (d + 1) + 600) }) (xw_R none (mV out h)) [.ref 2000, .ref (xn x0)] (mV s h) := by
  unfold FM_showSpine at hF
  refine xy_enter (L := [some (.ref 2000), some (.ref (xn x0)), none, none, none, none]) (fun _ => rfl) (fun _ => rfl) (fun _ => (show plainName "FormulaShaperModel" = true by decide +kernel)) (fun _ => (Nat.le_of_ble_eq_true rfl)) (fun _ => rfl) ?_
  have hm : s.2.2.1.2.2.2.2.2.2.1 ≤ s.2.2.1.2.2.2.2.2.2.1 ∧ s.2.2.1.2.2.2.2.2.2.2 ≤ s.2.2.1.2.2.2.2.2.2.2 := ⟨Nat.le_refl _, Nat.le_refl _⟩
  refine xy_r (xw_aload_n dM_showSpine_0 rfl) ?_
  refine xy_r (xw_get dM_showSpine_1 fM_446 rfl rfl) ?_
  refine xy_r (xw_istore_n dM_showSpine_4 (Nat.le_of_ble_eq_true rfl)) ?_
  refine xy_r (xw_Ln (L' := [some (.ref 2000), some (.ref (xn x0)), some (.int s.2.2.2.1.2.2.1), none, none, none]) rfl) ?_
  refine xy_r (xw_aload_n dM_showSpine_5 rfl) ?_
  refine xy_r (xw_astore_n dM_showSpine_6 (Nat.le_of_ble_eq_true rfl)) ?_
  refine xy_r (xw_Ln (L' := [some (.ref 2000), some (.ref (xn x0)), some (.int s.2.2.2.1.2.2.1), some (.ref (xn x0)), none, none]) rfl) ?_
  refine xy_r (xw_drop (L' := [some (.ref 2000), none, some (.int s.2.2.2.1.2.2.1), some (xw_rf (some x0)), none, none]) ⟨rfl, ⟨rfl, ⟨rfl, trivial⟩⟩⟩) ?_
  exact CM_showSpine_7 (hp := hp) hb xFuel (s := s) hm hF
def FM_showPlain_103 (p : xTS) : Nat → Nat → Int32 → xMs → Option xMs
  | 0, _, _, _ => none
  | fu + 1, l1, l2, s => if l1 < s.2.2.1.2.2.2.2.1 then (if (s.2.2.1.2.2.2.2.2.1 l1).1.2.2.1 ≤ l2 then ((FM_put_IV 34 s).bind fun r1483 => some r1483) else ((xM_src s ((s.2.2.1.2.2.2.2.2.1 l1).1.2.1 + l2)).bind fun r1486 => (FM_put_IV r1486 s).bind fun r1487 => FM_showPlain_103 p fu l1 (l2 + 1) r1487)) else none
def FM_showPlain_283 (p : xTS) : Nat → Nat → Int32 → xMs → Option xMs
  | 0, _, _, _ => none
  | fu + 1, l1, l2, s => if l1 < s.2.2.1.2.2.2.2.1 then (if (s.2.2.1.2.2.2.2.2.1 l1).2.2.2.2.2 ≤ l2 then ((FM_put_IV 125 s).bind fun r1541 => some r1541) else (if l2 ≤ 0 then ((FN_part l1 l2 s).bind fun r1545 => (r1545).bind fun i1546 => (p.1 i1546 s).bind fun r1547 => FM_showPlain_283 p fu l1 (l2 + 1) r1547) else (if ¬ (s.2.2.1.2.2.2.2.2.1 l1).1.2.2.1 = 0 then (if (l2 - l2 / (s.2.2.1.2.2.2.2.2.1 l1).1.2.2.1 * (s.2.2.1.2.2.2.2.2.1 l1).1.2.2.1) = 0 then ((FM_put_IV 59 s).bind fun r1561 => if l1 < r1561.2.2.1.2.2.2.2.1 then ((FN_part l1 l2 r1561).bind fun r1565 => (r1565).bind fun i1566 => (p.1 i1566 r1561).bind fun r1567 => FM_showPlain_283 p fu l1 (l2 + 1) r1567) else none) else ((FM_put_IV 44 s).bind fun r1552 => if l1 < r1552.2.2.1.2.2.2.2.1 then ((FN_part l1 l2 r1552).bind fun r1556 => (r1556).bind fun i1557 => (p.1 i1557 r1552).bind fun r1558 => FM_showPlain_283 p fu l1 (l2 + 1) r1558) else none)) else none))) else none
/-- FormulaShaperModel.showPlain -/
def FM_showPlain (p : xTS) (x0 : Nat) (s : xMs) : Option xMs := if x0 < s.2.2.1.2.2.2.2.1 then (if (s.2.2.1.2.2.2.2.2.1 x0).1.1 = 0 then (if (s.2.2.1.2.2.2.2.2.1 x0).1.2.1 = 1 then ((FM_put_IV 45 s).bind fun r1466 => if x0 < r1466.2.2.1.2.2.2.2.1 then (if (r1466.2.2.1.2.2.2.2.2.1 x0).1.2.1 = 1 then ((FM_number (-(r1466.2.2.1.2.2.2.2.2.1 x0).1.2.2.2) r1466).bind fun r1474 => some r1474) else ((FM_number ((r1466.2.2.1.2.2.2.2.2.1 x0).1.2.2.2) r1466).bind fun r1471 => some r1471)) else none) else (if (s.2.2.1.2.2.2.2.2.1 x0).1.2.1 = 1 then ((FM_number (-(s.2.2.1.2.2.2.2.2.1 x0).1.2.2.2) s).bind fun r1463 => some r1463) else ((FM_number ((s.2.2.1.2.2.2.2.2.1 x0).1.2.2.2) s).bind fun r1460 => some r1460))) else (if (s.2.2.1.2.2.2.2.2.1 x0).1.1 = 1 then ((FM_put_IV 34 s).bind fun r1478 => FM_showPlain_103 p xFuel x0 0 r1478) else (if (s.2.2.1.2.2.2.2.2.1 x0).1.1 = 2 then (if (s.2.2.1.2.2.2.2.2.1 x0).1.2.1 = 1 then ((FM_put_LjavalangStringV 75 s).bind fun r1495 => some r1495) else ((FM_put_LjavalangStringV 76 s).bind fun r1492 => some r1492)) else (if (s.2.2.1.2.2.2.2.2.1 x0).1.1 = 3 then (if 0 ≤ ((s.2.2.1.2.2.2.2.2.1 x0).1.2.1 - 1) ∧ ((s.2.2.1.2.2.2.2.2.1 x0).1.2.1 - 1) < nI 8 then ((xk_err[(((s.2.2.1.2.2.2.2.2.1 x0).1.2.1 - 1)).toNatClampNeg]?).bind fun k1500 => (FM_put_LjavalangStringV k1500 s).bind fun r1501 => some r1501) else none) else (if (s.2.2.1.2.2.2.2.2.1 x0).1.1 = 4 then ((FM_cell_IIZZV ((s.2.2.1.2.2.2.2.2.1 x0).2.1.1) ((s.2.2.1.2.2.2.2.2.1 x0).2.1.2.1) ((s.2.2.1.2.2.2.2.2.1 x0).2.1.2.2.1) ((s.2.2.1.2.2.2.2.2.1 x0).2.1.2.2.2.1) s).bind fun r1505 => some r1505) else (if (s.2.2.1.2.2.2.2.2.1 x0).1.1 = 5 then ((FM_cell_IIZZV ((s.2.2.1.2.2.2.2.2.1 x0).2.1.1) ((s.2.2.1.2.2.2.2.2.1 x0).2.1.2.1) ((s.2.2.1.2.2.2.2.2.1 x0).2.1.2.2.1) ((s.2.2.1.2.2.2.2.2.1 x0).2.1.2.2.2.1) s).bind fun r1509 => (FM_put_IV 58 r1509).bind fun r1512 => if x0 < r1512.2.2.1.2.2.2.2.1 then ((FM_cell_IIZZV ((r1512.2.2.1.2.2.2.2.2.1 x0).2.1.2.2.2.2.1) ((r1512.2.2.1.2.2.2.2.2.1 x0).2.1.2.2.2.2.2.1) ((r1512.2.2.1.2.2.2.2.2.1 x0).2.1.2.2.2.2.2.2.1) ((r1512.2.2.1.2.2.2.2.2.1 x0).2.1.2.2.2.2.2.2.2) r1512).bind fun r1516 => some r1516) else none) else (if (s.2.2.1.2.2.2.2.2.1 x0).1.1 = 6 then ((FM_showWord ((s.2.2.1.2.2.2.2.2.1 x0).1.2.2.2) s).bind fun r1520 => some r1520) else (if (s.2.2.1.2.2.2.2.2.1 x0).1.1 = 7 then ((FM_put_IV 40 s).bind fun r1524 => if x0 < r1524.2.2.1.2.2.2.2.1 then (((r1524.2.2.1.2.2.2.2.2.1 x0).2.2.1).bind fun i1528 => (p.1 i1528 r1524).bind fun r1529 => (FM_put_IV 41 r1529).bind fun r1532 => some r1532) else none) else (if (s.2.2.1.2.2.2.2.2.1 x0).1.1 = 8 then ((FM_put_IV 123 s).bind fun r1536 => FM_showPlain_283 p xFuel x0 0 r1536) else (if 0 ≤ (s.2.2.1.2.2.2.2.2.1 x0).1.2.1 ∧ (s.2.2.1.2.2.2.2.2.1 x0).1.2.1 < nI 39 then ((xk_nam[((s.2.2.1.2.2.2.2.2.1 x0).1.2.1).toNatClampNeg]?).bind fun k1571 => (FM_put_LjavalangStringV k1571 s).bind fun r1572 => (FM_put_IV 40 r1572).bind fun r1575 => (p.2.2.2 x0 0 r1575).bind fun r1578 => (FM_put_IV 41 r1578).bind fun r1581 => some r1581) else none)))))))))) else none
set_option maxRecDepth 20000 in
theorem CM_showPlain_103 {w : xw_G} {p : xTS} {d : Nat} (hp : xKS w p d) {h : xw_H} (hb : xMb h)  : ∀ (fu : Nat) {l1 : Nat} {l2 : Int32} {s : xMs} {out : xMs} {h0 : xw_H} {m0 n0 : Nat} (hm : m0 ≤ s.2.2.1.2.2.2.2.2.2.1 ∧ n0 ≤ s.2.2.1.2.2.2.2.2.2.2), FM_showPlain_103 p fu l1 l2 s = some out → xw_Y w mM_showPlain (d + 1 + 20) (60 * (d + 1) + 600) (xw_R none (mV out h)) h0 m0 n0 s.2.2.1.2.2.2.2.2.2.1 s.2.2.1.2.2.2.2.2.2.2 out.2.2.1.2.2.2.2.2.2.1 out.2.2.1.2.2.2.2.2.2.2 103 [some (.ref 2000), some (.ref (xn l1)), some (.int l2)] [] (mV s h) := by
  intro fu
  induction fu with
  | zero =>
    intro l1 l2 s out h0 m0 n0 hm hF
    rw [FM_showPlain_103] at hF
    cases hF
  | succ fu ih =>
    intro l1 l2 s out h0 m0 n0 hm hF
    rw [FM_showPlain_103] at hF
    refine xy_r (xw_iload_n dM_showPlain_103 rfl) ?_
    refine xy_r (xw_aload_n dM_showPlain_104 rfl) ?_
    obtain ⟨g1481, hF⟩ := xg_g hF
    refine xy_r (xw_get dM_showPlain_105 fM_198 (mV_n g1481) rfl) ?_
    refine xy_br (xw_icmp_ge 132 dM_showPlain_108 (by decide)) (fun c1482 => ?_) (fun c1482 => ?_)
    · replace hF := xg_t c1482 hF
      refine xy_r (xw_aload_n dM_showPlain_132 rfl) ?_
      refine xy_r (xw_bipush (34) dM_showPlain_133 (by decide)) ?_
      obtain ⟨r1483, er1483, hF⟩ := xg_b hF
      have hm1484 : m0 ≤ r1483.2.2.1.2.2.2.2.2.2.1 ∧ n0 ≤ r1483.2.2.1.2.2.2.2.2.2.2 := xy_le hm (show s.2.2.1.2.2.2.2.2.2.1 ≤ r1483.2.2.1.2.2.2.2.2.2.1 ∧ s.2.2.1.2.2.2.2.2.2.2 ≤ r1483.2.2.1.2.2.2.2.2.2.2 from (CM_put_IV (w := w) (h := h) hb (s := s) er1483).1)
      refine xy_V0 (nl := 4) (sm := s.2.2.1.2.2.2.2.2.2.1) (sn := s.2.2.1.2.2.2.2.2.2.2) (tm := r1483.2.2.1.2.2.2.2.2.2.1) (tn := r1483.2.2.1.2.2.2.2.2.2.2) (CM_put_IV hb (s := s) er1483) rfl rfl hm (fun _ => rfl) (fun _ => rfl) (fun _ => rfl) (fun _ => dM_showPlain_135) (fun _ R => kM_423 R) (fun _ => rfl) ⟨by omega, by omega⟩ rfl rfl rfl (fun _ => rfl) (Nat.le_of_ble_eq_true rfl) ?_
      obtain rfl := Option.some.inj hF
      exact xy_end (xw_return dM_showPlain_138 rfl (Nat.le_refl _) (Nat.le_refl _) ⟨rfl, rfl⟩)
    · replace hF := xg_f c1482 hF
      refine xy_r (xw_aload_n dM_showPlain_111 rfl) ?_
      refine xy_r (xw_aload_n dM_showPlain_112 rfl) ?_
      refine xy_r (xw_get dM_showPlain_113 fM_227 rfl rfl) ?_
      refine xy_r (xw_aload_n dM_showPlain_116 rfl) ?_
      refine xy_r (xw_get dM_showPlain_117 fM_195 (mV_n g1481) rfl) ?_
      refine xy_r (xw_iload_n dM_showPlain_120 rfl) ?_
      refine xy_r (xw_iadd dM_showPlain_121) ?_
      obtain ⟨r1486, er1486, hF⟩ := xg_b hF
      refine xy_r (xg_src er1486 dM_showPlain_122) ?_
      obtain ⟨r1487, er1487, hF⟩ := xg_b hF
      have hm1488 : m0 ≤ r1487.2.2.1.2.2.2.2.2.2.1 ∧ n0 ≤ r1487.2.2.1.2.2.2.2.2.2.2 := xy_le hm (show s.2.2.1.2.2.2.2.2.2.1 ≤ r1487.2.2.1.2.2.2.2.2.2.1 ∧ s.2.2.1.2.2.2.2.2.2.2 ≤ r1487.2.2.1.2.2.2.2.2.2.2 from (CM_put_IV (w := w) (h := h) hb (s := s) er1487).1)
      refine xy_V0 (nl := 4) (sm := s.2.2.1.2.2.2.2.2.2.1) (sn := s.2.2.1.2.2.2.2.2.2.2) (tm := r1487.2.2.1.2.2.2.2.2.2.1) (tn := r1487.2.2.1.2.2.2.2.2.2.2) (CM_put_IV hb (s := s) er1487) rfl rfl hm (fun _ => rfl) (fun _ => rfl) (fun _ => rfl) (fun _ => dM_showPlain_123) (fun _ R => kM_423 R) (fun _ => rfl) ⟨by omega, by omega⟩ rfl rfl rfl (fun _ => rfl) (Nat.le_of_ble_eq_true rfl) ?_
      refine xy_r (xw_iinc ((l2 + 1)) dM_showPlain_126 rfl rfl (Nat.le_of_ble_eq_true rfl)) ?_
      refine xy_r (xw_Ln (L' := [some (.ref 2000), some (.ref (xn l1)), some (.int (l2 + 1))]) rfl) ?_
      refine xy_r (xw_goto 103 dM_showPlain_129 (by decide)) ?_
      exact ih (s := r1487) hm1488 hF
set_option maxRecDepth 20000 in
theorem CM_showPlain_283 {w : xw_G} {p : xTS} {d : Nat} (hp : xKS w p d) {h : xw_H} (hb : xMb h)  : ∀ (fu : Nat) {l1 : Nat} {l2 : Int32} {s : xMs} {out : xMs} {h0 : xw_H} {m0 n0 : Nat} (hm : m0 ≤ s.2.2.1.2.2.2.2.2.2.1 ∧ n0 ≤ s.2.2.1.2.2.2.2.2.2.2), FM_showPlain_283 p fu l1 l2 s = some out → xw_Y w mM_showPlain (d + 1 + 20) (60 * (d + 1) + 600) (xw_R none (mV out h)) h0 m0 n0 s.2.2.1.2.2.2.2.2.2.1 s.2.2.1.2.2.2.2.2.2.2 out.2.2.1.2.2.2.2.2.2.1 out.2.2.1.2.2.2.2.2.2.2 283 [some (.ref 2000), some (.ref (xn l1)), some (.int l2)] [] (mV s h) := by
  intro fu
  induction fu with
  | zero =>
    intro l1 l2 s out h0 m0 n0 hm hF
    rw [FM_showPlain_283] at hF
    cases hF
  | succ fu ih =>
    intro l1 l2 s out h0 m0 n0 hm hF
    rw [FM_showPlain_283] at hF
    refine xy_r (xw_iload_n dM_showPlain_283 rfl) ?_
    refine xy_r (xw_aload_n dM_showPlain_284 rfl) ?_
    obtain ⟨g1539, hF⟩ := xg_g hF
    refine xy_r (xw_get dM_showPlain_285 fM_215 (mV_n g1539) rfl) ?_
    refine xy_br (xw_icmp_ge 330 dM_showPlain_288 (by decide)) (fun c1540 => ?_) (fun c1540 => ?_)
    · replace hF := xg_t c1540 hF
      refine xy_r (xw_aload_n dM_showPlain_330 rfl) ?_
      refine xy_r (xw_bipush (125) dM_showPlain_331 (by decide)) ?_
      obtain ⟨r1541, er1541, hF⟩ := xg_b hF
      have hm1542 : m0 ≤ r1541.2.2.1.2.2.2.2.2.2.1 ∧ n0 ≤ r1541.2.2.1.2.2.2.2.2.2.2 := xy_le hm (show s.2.2.1.2.2.2.2.2.2.1 ≤ r1541.2.2.1.2.2.2.2.2.2.1 ∧ s.2.2.1.2.2.2.2.2.2.2 ≤ r1541.2.2.1.2.2.2.2.2.2.2 from (CM_put_IV (w := w) (h := h) hb (s := s) er1541).1)
      refine xy_V0 (nl := 4) (sm := s.2.2.1.2.2.2.2.2.2.1) (sn := s.2.2.1.2.2.2.2.2.2.2) (tm := r1541.2.2.1.2.2.2.2.2.2.1) (tn := r1541.2.2.1.2.2.2.2.2.2.2) (CM_put_IV hb (s := s) er1541) rfl rfl hm (fun _ => rfl) (fun _ => rfl) (fun _ => rfl) (fun _ => dM_showPlain_333) (fun _ R => kM_423 R) (fun _ => rfl) ⟨by omega, by omega⟩ rfl rfl rfl (fun _ => rfl) (Nat.le_of_ble_eq_true rfl) ?_
      obtain rfl := Option.some.inj hF
      exact xy_end (xw_return dM_showPlain_336 rfl (Nat.le_refl _) (Nat.le_refl _) ⟨rfl, rfl⟩)
    · replace hF := xg_f c1540 hF
      refine xy_r (xw_iload_n dM_showPlain_291 rfl) ?_
      refine xy_br (xw_if_le 315 dM_showPlain_292 (by decide)) (fun c1544 => ?_) (fun c1544 => ?_)
      · replace hF := xg_t c1544 hF
        refine xy_r (xw_aload_n dM_showPlain_315 rfl) ?_
        refine xy_r (xw_aload_n dM_showPlain_316 rfl) ?_
        refine xy_r (xw_iload_n dM_showPlain_317 rfl) ?_
        obtain ⟨r1545, er1545, hF⟩ := xg_b hF
        refine xy_q (fun hq => xg_V1 (k1 := _) (n1 := _) (CN_part er1545) rfl rfl rfl dM_showPlain_318 (kM_434 _) (xZS (Nat.le_of_ble_eq_true rfl) (Nat.le_of_ble_eq_true rfl)) rfl rfl (mV_n g1539) rfl (Nat.le_of_ble_eq_true rfl) (Nat.le_refl _) (Nat.le_refl _) (Nat.sub_le_sub_right hq.1 _) (Nat.sub_le_sub_right hq.2 _)) ?_
        obtain ⟨i1546, ei1546, hF⟩ := xg_b hF
        refine xy_r (xw_Sn (st' := [.ref (xn i1546), .ref 2000]) (by first | (rw [ei1546]; done) | (rw [ei1546]; rfl))) ?_
        obtain ⟨r1547, er1547, hF⟩ := xg_b hF
        have hm1548 : m0 ≤ r1547.2.2.1.2.2.2.2.2.2.1 ∧ n0 ≤ r1547.2.2.1.2.2.2.2.2.2.2 := xy_le hm (show s.2.2.1.2.2.2.2.2.2.1 ≤ r1547.2.2.1.2.2.2.2.2.2.1 ∧ s.2.2.1.2.2.2.2.2.2.2 ≤ r1547.2.2.1.2.2.2.2.2.2.2 from ((hp.1 (h := h) hb (s := s) er1547)).1)
        refine xy_V0 (nl := 5) (sm := s.2.2.1.2.2.2.2.2.2.1) (sn := s.2.2.1.2.2.2.2.2.2.2) (tm := r1547.2.2.1.2.2.2.2.2.2.1) (tn := r1547.2.2.1.2.2.2.2.2.2.2) (hp.1 hb (s := s) er1547) rfl rfl hm (fun _ => rfl) (fun _ => rfl) (fun _ => rfl) (fun _ => dM_showPlain_321) (fun _ R => kM_437 R) (fun _ => rfl) ⟨by omega, by omega⟩ rfl rfl rfl (fun _ => rfl) (Nat.le_of_ble_eq_true rfl) ?_
        refine xy_r (xw_iinc ((l2 + 1)) dM_showPlain_324 rfl rfl (Nat.le_of_ble_eq_true rfl)) ?_
        refine xy_r (xw_Ln (L' := [some (.ref 2000), some (.ref (xn l1)), some (.int (l2 + 1))]) rfl) ?_
        refine xy_r (xw_goto 283 dM_showPlain_327 (by decide)) ?_
        exact ih (s := r1547) hm1548 hF
      · replace hF := xg_f c1544 hF
        refine xy_r (xw_aload_n dM_showPlain_295 rfl) ?_
        refine xy_r (xw_iload_n dM_showPlain_296 rfl) ?_
        refine xy_r (xw_aload_n dM_showPlain_297 rfl) ?_
        refine xy_r (xw_get dM_showPlain_298 fM_198 (mV_n g1539) rfl) ?_
        obtain ⟨g1550, hF⟩ := xg_g hF
        refine xy_r (xw_irem dM_showPlain_301 g1550) ?_
        refine xy_brn (xw_if_ne 310 dM_showPlain_302 (by decide)) (fun c1551 => ?_) (fun c1551 => ?_)
        · replace hF := xg_f c1551 hF
          refine xy_r (xw_bipush (44) dM_showPlain_310 (by decide)) ?_
          obtain ⟨r1552, er1552, hF⟩ := xg_b hF
          have hm1553 : m0 ≤ r1552.2.2.1.2.2.2.2.2.2.1 ∧ n0 ≤ r1552.2.2.1.2.2.2.2.2.2.2 := xy_le hm (show s.2.2.1.2.2.2.2.2.2.1 ≤ r1552.2.2.1.2.2.2.2.2.2.1 ∧ s.2.2.1.2.2.2.2.2.2.2 ≤ r1552.2.2.1.2.2.2.2.2.2.2 from (CM_put_IV (w := w) (h := h) hb (s := s) er1552).1)
          refine xy_V0 (nl := 4) (sm := s.2.2.1.2.2.2.2.2.2.1) (sn := s.2.2.1.2.2.2.2.2.2.2) (tm := r1552.2.2.1.2.2.2.2.2.2.1) (tn := r1552.2.2.1.2.2.2.2.2.2.2) (CM_put_IV hb (s := s) er1552) rfl rfl hm (fun _ => rfl) (fun _ => rfl) (fun _ => rfl) (fun _ => dM_showPlain_312) (fun _ R => kM_423 R) (fun _ => rfl) ⟨by omega, by omega⟩ rfl rfl rfl (fun _ => rfl) (Nat.le_of_ble_eq_true rfl) ?_
          refine xy_r (xw_aload_n dM_showPlain_315 rfl) ?_
          refine xy_r (xw_aload_n dM_showPlain_316 rfl) ?_
          refine xy_r (xw_iload_n dM_showPlain_317 rfl) ?_
          obtain ⟨g1555, hF⟩ := xg_g hF
          obtain ⟨r1556, er1556, hF⟩ := xg_b hF
          refine xy_q (fun hq => xg_V1 (k1 := _) (n1 := _) (CN_part er1556) rfl rfl rfl dM_showPlain_318 (kM_434 _) (xZS (Nat.le_of_ble_eq_true rfl) (Nat.le_of_ble_eq_true rfl)) rfl rfl (mV_n g1555) rfl (Nat.le_of_ble_eq_true rfl) (Nat.le_refl _) (Nat.le_refl _) (Nat.sub_le_sub_right hq.1 _) (Nat.sub_le_sub_right hq.2 _)) ?_
          obtain ⟨i1557, ei1557, hF⟩ := xg_b hF
          refine xy_r (xw_Sn (st' := [.ref (xn i1557), .ref 2000]) (by first | (rw [ei1557]; done) | (rw [ei1557]; rfl))) ?_
          obtain ⟨r1558, er1558, hF⟩ := xg_b hF
          have hm1559 : m0 ≤ r1558.2.2.1.2.2.2.2.2.2.1 ∧ n0 ≤ r1558.2.2.1.2.2.2.2.2.2.2 := xy_le hm1553 (show r1552.2.2.1.2.2.2.2.2.2.1 ≤ r1558.2.2.1.2.2.2.2.2.2.1 ∧ r1552.2.2.1.2.2.2.2.2.2.2 ≤ r1558.2.2.1.2.2.2.2.2.2.2 from ((hp.1 (h := h) hb (s := r1552) er1558)).1)
          refine xy_V0 (nl := 5) (sm := r1552.2.2.1.2.2.2.2.2.2.1) (sn := r1552.2.2.1.2.2.2.2.2.2.2) (tm := r1558.2.2.1.2.2.2.2.2.2.1) (tn := r1558.2.2.1.2.2.2.2.2.2.2) (hp.1 hb (s := r1552) er1558) rfl rfl hm1553 (fun _ => rfl) (fun _ => rfl) (fun _ => rfl) (fun _ => dM_showPlain_321) (fun _ R => kM_437 R) (fun _ => rfl) ⟨by omega, by omega⟩ rfl rfl rfl (fun _ => rfl) (Nat.le_of_ble_eq_true rfl) ?_
          refine xy_r (xw_iinc ((l2 + 1)) dM_showPlain_324 rfl rfl (Nat.le_of_ble_eq_true rfl)) ?_
          refine xy_r (xw_Ln (L' := [some (.ref 2000), some (.ref (xn l1)), some (.int (l2 + 1))]) rfl) ?_
          refine xy_r (xw_goto 283 dM_showPlain_327 (by decide)) ?_
          exact ih (s := r1558) hm1559 hF
        · replace hF := xg_t c1551 hF
          refine xy_r (xw_bipush (59) dM_showPlain_305 (by decide)) ?_
          refine xy_r (xw_goto 312 dM_showPlain_307 (by decide)) ?_
          obtain ⟨r1561, er1561, hF⟩ := xg_b hF
          have hm1562 : m0 ≤ r1561.2.2.1.2.2.2.2.2.2.1 ∧ n0 ≤ r1561.2.2.1.2.2.2.2.2.2.2 := xy_le hm (show s.2.2.1.2.2.2.2.2.2.1 ≤ r1561.2.2.1.2.2.2.2.2.2.1 ∧ s.2.2.1.2.2.2.2.2.2.2 ≤ r1561.2.2.1.2.2.2.2.2.2.2 from (CM_put_IV (w := w) (h := h) hb (s := s) er1561).1)
          refine xy_V0 (nl := 4) (sm := s.2.2.1.2.2.2.2.2.2.1) (sn := s.2.2.1.2.2.2.2.2.2.2) (tm := r1561.2.2.1.2.2.2.2.2.2.1) (tn := r1561.2.2.1.2.2.2.2.2.2.2) (CM_put_IV hb (s := s) er1561) rfl rfl hm (fun _ => rfl) (fun _ => rfl) (fun _ => rfl) (fun _ => dM_showPlain_312) (fun _ R => kM_423 R) (fun _ => rfl) ⟨by omega, by omega⟩ rfl rfl rfl (fun _ => rfl) (Nat.le_of_ble_eq_true rfl) ?_
          refine xy_r (xw_aload_n dM_showPlain_315 rfl) ?_
          refine xy_r (xw_aload_n dM_showPlain_316 rfl) ?_
          refine xy_r (xw_iload_n dM_showPlain_317 rfl) ?_
          obtain ⟨g1564, hF⟩ := xg_g hF
          obtain ⟨r1565, er1565, hF⟩ := xg_b hF
          refine xy_q (fun hq => xg_V1 (k1 := _) (n1 := _) (CN_part er1565) rfl rfl rfl dM_showPlain_318 (kM_434 _) (xZS (Nat.le_of_ble_eq_true rfl) (Nat.le_of_ble_eq_true rfl)) rfl rfl (mV_n g1564) rfl (Nat.le_of_ble_eq_true rfl) (Nat.le_refl _) (Nat.le_refl _) (Nat.sub_le_sub_right hq.1 _) (Nat.sub_le_sub_right hq.2 _)) ?_
          obtain ⟨i1566, ei1566, hF⟩ := xg_b hF
          refine xy_r (xw_Sn (st' := [.ref (xn i1566), .ref 2000]) (by first | (rw [ei1566]; done) | (rw [ei1566]; rfl))) ?_
          obtain ⟨r1567, er1567, hF⟩ := xg_b hF
          have hm1568 : m0 ≤ r1567.2.2.1.2.2.2.2.2.2.1 ∧ n0 ≤ r1567.2.2.1.2.2.2.2.2.2.2 := xy_le hm1562 (show r1561.2.2.1.2.2.2.2.2.2.1 ≤ r1567.2.2.1.2.2.2.2.2.2.1 ∧ r1561.2.2.1.2.2.2.2.2.2.2 ≤ r1567.2.2.1.2.2.2.2.2.2.2 from ((hp.1 (h := h) hb (s := r1561) er1567)).1)
          refine xy_V0 (nl := 5) (sm := r1561.2.2.1.2.2.2.2.2.2.1) (sn := r1561.2.2.1.2.2.2.2.2.2.2) (tm := r1567.2.2.1.2.2.2.2.2.2.1) (tn := r1567.2.2.1.2.2.2.2.2.2.2) (hp.1 hb (s := r1561) er1567) rfl rfl hm1562 (fun _ => rfl) (fun _ => rfl) (fun _ => rfl) (fun _ => dM_showPlain_321) (fun _ R => kM_437 R) (fun _ => rfl) ⟨by omega, by omega⟩ rfl rfl rfl (fun _ => rfl) (Nat.le_of_ble_eq_true rfl) ?_
          refine xy_r (xw_iinc ((l2 + 1)) dM_showPlain_324 rfl rfl (Nat.le_of_ble_eq_true rfl)) ?_
          refine xy_r (xw_Ln (L' := [some (.ref 2000), some (.ref (xn l1)), some (.int (l2 + 1))]) rfl) ?_
          refine xy_r (xw_goto 283 dM_showPlain_327 (by decide)) ?_
          exact ih (s := r1567) hm1568 hF
set_option maxRecDepth 20000 in
theorem CM_showPlain {w : xw_G} {p : xTS} {d : Nat} (hp : xKS w p d) {h : xw_H} (hb : xMb h) {x0 : Nat} {s : xMs} {out : xMs} (hF : FM_showPlain p x0 s = some out) : (s.2.2.1.2.2.2.2.2.2.1 ≤ out.2.2.1.2.2.2.2.2.2.1 ∧ s.2.2.1.2.2.2.2.2.2.2 ≤ out.2.2.1.2.2.2.2.2.2.2) ∧ xw_C w (mM_showPlain { frames := (d + 1 + 20), cells := out.2.2.1.2.2.2.2.2.2.1 - s.2.2.1.2.2.2.2.2.2.1, slots := out.2.2.1.2.2.2.2.2.2.2 - s.2.2.1.2.2.2.2.2.2.2, locals := (60 * (d + 1) + 600) }) (xw_R none (mV out h)) [.ref 2000, .ref (xn x0)] (mV s h) := by
  unfold FM_showPlain at hF
  refine xy_enter (L := [some (.ref 2000), some (.ref (xn x0)), none]) (fun _ => rfl) (fun _ => rfl) (fun _ => (show plainName "FormulaShaperModel" = true by decide +kernel)) (fun _ => (Nat.le_of_ble_eq_true rfl)) (fun _ => rfl) ?_
  have hm : s.2.2.1.2.2.2.2.2.2.1 ≤ s.2.2.1.2.2.2.2.2.2.1 ∧ s.2.2.1.2.2.2.2.2.2.2 ≤ s.2.2.1.2.2.2.2.2.2.2 := ⟨Nat.le_refl _, Nat.le_refl _⟩
  refine xy_r (xw_aload_n dM_showPlain_0 rfl) ?_
  obtain ⟨g1456, hF⟩ := xg_g hF
  refine xy_r (xw_get dM_showPlain_1 fM_192 (mV_n g1456) rfl) ?_
  by_cases c1457 : (s.2.2.1.2.2.2.2.2.1 x0).1.1 = 0
  · replace hF := xg_t c1457 hF
    refine xy_r (xw_tableIn (off := 52) 56 dM_showPlain_4 (by rw [c1457]; decide) (by rw [c1457]; decide) (by rw [c1457]; rfl) (by decide)) ?_
    refine xy_r (xw_aload_n dM_showPlain_56 rfl) ?_
    refine xy_r (xw_get dM_showPlain_57 fM_195 (mV_n g1456) rfl) ?_
    refine xy_r (xw_iconst (1) dM_showPlain_60 (by decide)) ?_
    refine xy_brn (xw_icmp_ne 70 dM_showPlain_61 (by decide)) (fun c1458 => ?_) (fun c1458 => ?_)
    · replace hF := xg_f c1458 hF
      refine xy_r (xw_aload_n dM_showPlain_70 rfl) ?_
      refine xy_r (xw_aload_n dM_showPlain_71 rfl) ?_
      refine xy_r (xw_get dM_showPlain_72 fM_195 (mV_n g1456) rfl) ?_
      refine xy_r (xw_iconst (1) dM_showPlain_75 (by decide)) ?_
      refine xy_brn (xw_icmp_ne 87 dM_showPlain_76 (by decide)) (fun c1459 => ?_) (fun c1459 => ?_)
      · replace hF := xg_f c1459 hF
        refine xy_r (xw_aload_n dM_showPlain_87 rfl) ?_
        refine xy_r (xw_get dM_showPlain_88 fM_201 (mV_n g1456) rfl) ?_
        obtain ⟨r1460, er1460, hF⟩ := xg_b hF
        have hm1461 : s.2.2.1.2.2.2.2.2.2.1 ≤ r1460.2.2.1.2.2.2.2.2.2.1 ∧ s.2.2.1.2.2.2.2.2.2.2 ≤ r1460.2.2.1.2.2.2.2.2.2.2 := xy_le hm (show s.2.2.1.2.2.2.2.2.2.1 ≤ r1460.2.2.1.2.2.2.2.2.2.1 ∧ s.2.2.1.2.2.2.2.2.2.2 ≤ r1460.2.2.1.2.2.2.2.2.2.2 from (CM_number (w := w) (h := h) hb (s := s) er1460).1)
        refine xy_V0 (nl := 9) (sm := s.2.2.1.2.2.2.2.2.2.1) (sn := s.2.2.1.2.2.2.2.2.2.2) (tm := r1460.2.2.1.2.2.2.2.2.2.1) (tn := r1460.2.2.1.2.2.2.2.2.2.2) (CM_number hb (s := s) er1460) rfl rfl hm (fun _ => rfl) (fun _ => rfl) (fun _ => rfl) (fun _ => dM_showPlain_91) (fun _ R => kM_455 R) (fun _ => rfl) ⟨by omega, by omega⟩ rfl rfl rfl (fun _ => rfl) (Nat.le_of_ble_eq_true rfl) ?_
        obtain rfl := Option.some.inj hF
        exact xy_end (xw_return dM_showPlain_94 rfl (Nat.le_refl _) (Nat.le_refl _) ⟨rfl, rfl⟩)
      · replace hF := xg_t c1459 hF
        refine xy_r (xw_aload_n dM_showPlain_79 rfl) ?_
        refine xy_r (xw_get dM_showPlain_80 fM_201 (mV_n g1456) rfl) ?_
        refine xy_r (xw_lneg dM_showPlain_83) ?_
        refine xy_r (xw_goto 91 dM_showPlain_84 (by decide)) ?_
        obtain ⟨r1463, er1463, hF⟩ := xg_b hF
        have hm1464 : s.2.2.1.2.2.2.2.2.2.1 ≤ r1463.2.2.1.2.2.2.2.2.2.1 ∧ s.2.2.1.2.2.2.2.2.2.2 ≤ r1463.2.2.1.2.2.2.2.2.2.2 := xy_le hm (show s.2.2.1.2.2.2.2.2.2.1 ≤ r1463.2.2.1.2.2.2.2.2.2.1 ∧ s.2.2.1.2.2.2.2.2.2.2 ≤ r1463.2.2.1.2.2.2.2.2.2.2 from (CM_number (w := w) (h := h) hb (s := s) er1463).1)
        refine xy_V0 (nl := 9) (sm := s.2.2.1.2.2.2.2.2.2.1) (sn := s.2.2.1.2.2.2.2.2.2.2) (tm := r1463.2.2.1.2.2.2.2.2.2.1) (tn := r1463.2.2.1.2.2.2.2.2.2.2) (CM_number hb (s := s) er1463) rfl rfl hm (fun _ => rfl) (fun _ => rfl) (fun _ => rfl) (fun _ => dM_showPlain_91) (fun _ R => kM_455 R) (fun _ => rfl) ⟨by omega, by omega⟩ rfl rfl rfl (fun _ => rfl) (Nat.le_of_ble_eq_true rfl) ?_
        obtain rfl := Option.some.inj hF
        exact xy_end (xw_return dM_showPlain_94 rfl (Nat.le_refl _) (Nat.le_refl _) ⟨rfl, rfl⟩)
    · replace hF := xg_t c1458 hF
      refine xy_r (xw_aload_n dM_showPlain_64 rfl) ?_
      refine xy_r (xw_bipush (45) dM_showPlain_65 (by decide)) ?_
      obtain ⟨r1466, er1466, hF⟩ := xg_b hF
      have hm1467 : s.2.2.1.2.2.2.2.2.2.1 ≤ r1466.2.2.1.2.2.2.2.2.2.1 ∧ s.2.2.1.2.2.2.2.2.2.2 ≤ r1466.2.2.1.2.2.2.2.2.2.2 := xy_le hm (show s.2.2.1.2.2.2.2.2.2.1 ≤ r1466.2.2.1.2.2.2.2.2.2.1 ∧ s.2.2.1.2.2.2.2.2.2.2 ≤ r1466.2.2.1.2.2.2.2.2.2.2 from (CM_put_IV (w := w) (h := h) hb (s := s) er1466).1)
      refine xy_V0 (nl := 4) (sm := s.2.2.1.2.2.2.2.2.2.1) (sn := s.2.2.1.2.2.2.2.2.2.2) (tm := r1466.2.2.1.2.2.2.2.2.2.1) (tn := r1466.2.2.1.2.2.2.2.2.2.2) (CM_put_IV hb (s := s) er1466) rfl rfl hm (fun _ => rfl) (fun _ => rfl) (fun _ => rfl) (fun _ => dM_showPlain_67) (fun _ R => kM_423 R) (fun _ => rfl) ⟨by omega, by omega⟩ rfl rfl rfl (fun _ => rfl) (Nat.le_of_ble_eq_true rfl) ?_
      refine xy_r (xw_aload_n dM_showPlain_70 rfl) ?_
      refine xy_r (xw_aload_n dM_showPlain_71 rfl) ?_
      obtain ⟨g1469, hF⟩ := xg_g hF
      refine xy_r (xw_get dM_showPlain_72 fM_195 (mV_n g1469) rfl) ?_
      refine xy_r (xw_iconst (1) dM_showPlain_75 (by decide)) ?_
      refine xy_brn (xw_icmp_ne 87 dM_showPlain_76 (by decide)) (fun c1470 => ?_) (fun c1470 => ?_)
      · replace hF := xg_f c1470 hF
        refine xy_r (xw_aload_n dM_showPlain_87 rfl) ?_
        refine xy_r (xw_get dM_showPlain_88 fM_201 (mV_n g1469) rfl) ?_
        obtain ⟨r1471, er1471, hF⟩ := xg_b hF
        have hm1472 : s.2.2.1.2.2.2.2.2.2.1 ≤ r1471.2.2.1.2.2.2.2.2.2.1 ∧ s.2.2.1.2.2.2.2.2.2.2 ≤ r1471.2.2.1.2.2.2.2.2.2.2 := xy_le hm1467 (show r1466.2.2.1.2.2.2.2.2.2.1 ≤ r1471.2.2.1.2.2.2.2.2.2.1 ∧ r1466.2.2.1.2.2.2.2.2.2.2 ≤ r1471.2.2.1.2.2.2.2.2.2.2 from (CM_number (w := w) (h := h) hb (s := r1466) er1471).1)
        refine xy_V0 (nl := 9) (sm := r1466.2.2.1.2.2.2.2.2.2.1) (sn := r1466.2.2.1.2.2.2.2.2.2.2) (tm := r1471.2.2.1.2.2.2.2.2.2.1) (tn := r1471.2.2.1.2.2.2.2.2.2.2) (CM_number hb (s := r1466) er1471) rfl rfl hm1467 (fun _ => rfl) (fun _ => rfl) (fun _ => rfl) (fun _ => dM_showPlain_91) (fun _ R => kM_455 R) (fun _ => rfl) ⟨by omega, by omega⟩ rfl rfl rfl (fun _ => rfl) (Nat.le_of_ble_eq_true rfl) ?_
        obtain rfl := Option.some.inj hF
        exact xy_end (xw_return dM_showPlain_94 rfl (Nat.le_refl _) (Nat.le_refl _) ⟨rfl, rfl⟩)
      · replace hF := xg_t c1470 hF
        refine xy_r (xw_aload_n dM_showPlain_79 rfl) ?_
        refine xy_r (xw_get dM_showPlain_80 fM_201 (mV_n g1469) rfl) ?_
        refine xy_r (xw_lneg dM_showPlain_83) ?_
        refine xy_r (xw_goto 91 dM_showPlain_84 (by decide)) ?_
        obtain ⟨r1474, er1474, hF⟩ := xg_b hF
        have hm1475 : s.2.2.1.2.2.2.2.2.2.1 ≤ r1474.2.2.1.2.2.2.2.2.2.1 ∧ s.2.2.1.2.2.2.2.2.2.2 ≤ r1474.2.2.1.2.2.2.2.2.2.2 := xy_le hm1467 (show r1466.2.2.1.2.2.2.2.2.2.1 ≤ r1474.2.2.1.2.2.2.2.2.2.1 ∧ r1466.2.2.1.2.2.2.2.2.2.2 ≤ r1474.2.2.1.2.2.2.2.2.2.2 from (CM_number (w := w) (h := h) hb (s := r1466) er1474).1)
        refine xy_V0 (nl := 9) (sm := r1466.2.2.1.2.2.2.2.2.2.1) (sn := r1466.2.2.1.2.2.2.2.2.2.2) (tm := r1474.2.2.1.2.2.2.2.2.2.1) (tn := r1474.2.2.1.2.2.2.2.2.2.2) (CM_number hb (s := r1466) er1474) rfl rfl hm1467 (fun _ => rfl) (fun _ => rfl) (fun _ => rfl) (fun _ => dM_showPlain_91) (fun _ R => kM_455 R) (fun _ => rfl) ⟨by omega, by omega⟩ rfl rfl rfl (fun _ => rfl) (Nat.le_of_ble_eq_true rfl) ?_
        obtain rfl := Option.some.inj hF
        exact xy_end (xw_return dM_showPlain_94 rfl (Nat.le_refl _) (Nat.le_refl _) ⟨rfl, rfl⟩)
  replace hF := xg_f c1457 hF
  by_cases c1477 : (s.2.2.1.2.2.2.2.2.1 x0).1.1 = 1
  · replace hF := xg_t c1477 hF
    refine xy_r (xw_tableIn (off := 91) 95 dM_showPlain_4 (by rw [c1477]; decide) (by rw [c1477]; decide) (by rw [c1477]; rfl) (by decide)) ?_
    refine xy_r (xw_aload_n dM_showPlain_95 rfl) ?_
    refine xy_r (xw_bipush (34) dM_showPlain_96 (by decide)) ?_
    obtain ⟨r1478, er1478, hF⟩ := xg_b hF
    have hm1479 : s.2.2.1.2.2.2.2.2.2.1 ≤ r1478.2.2.1.2.2.2.2.2.2.1 ∧ s.2.2.1.2.2.2.2.2.2.2 ≤ r1478.2.2.1.2.2.2.2.2.2.2 := xy_le hm (show s.2.2.1.2.2.2.2.2.2.1 ≤ r1478.2.2.1.2.2.2.2.2.2.1 ∧ s.2.2.1.2.2.2.2.2.2.2 ≤ r1478.2.2.1.2.2.2.2.2.2.2 from (CM_put_IV (w := w) (h := h) hb (s := s) er1478).1)
    refine xy_V0 (nl := 4) (sm := s.2.2.1.2.2.2.2.2.2.1) (sn := s.2.2.1.2.2.2.2.2.2.2) (tm := r1478.2.2.1.2.2.2.2.2.2.1) (tn := r1478.2.2.1.2.2.2.2.2.2.2) (CM_put_IV hb (s := s) er1478) rfl rfl hm (fun _ => rfl) (fun _ => rfl) (fun _ => rfl) (fun _ => dM_showPlain_98) (fun _ R => kM_423 R) (fun _ => rfl) ⟨by omega, by omega⟩ rfl rfl rfl (fun _ => rfl) (Nat.le_of_ble_eq_true rfl) ?_
    refine xy_r (xw_iconst (0) dM_showPlain_101 (by decide)) ?_
    refine xy_r (xw_istore_n dM_showPlain_102 (Nat.le_of_ble_eq_true rfl)) ?_
    refine xy_r (xw_Ln (L' := [some (.ref 2000), some (.ref (xn x0)), some (.int 0)]) rfl) ?_
    exact CM_showPlain_103 (hp := hp) hb xFuel (s := r1478) hm1479 hF
  replace hF := xg_f c1477 hF
  by_cases c1490 : (s.2.2.1.2.2.2.2.2.1 x0).1.1 = 2
  · replace hF := xg_t c1490 hF
    refine xy_r (xw_tableIn (off := 135) 139 dM_showPlain_4 (by rw [c1490]; decide) (by rw [c1490]; decide) (by rw [c1490]; rfl) (by decide)) ?_
    refine xy_r (xw_aload_n dM_showPlain_139 rfl) ?_
    refine xy_r (xw_aload_n dM_showPlain_140 rfl) ?_
    refine xy_r (xw_get dM_showPlain_141 fM_195 (mV_n g1456) rfl) ?_
    refine xy_r (xw_iconst (1) dM_showPlain_144 (by decide)) ?_
    refine xy_brn (xw_icmp_ne 154 dM_showPlain_145 (by decide)) (fun c1491 => ?_) (fun c1491 => ?_)
    · replace hF := xg_f c1491 hF
      refine xy_r (xw_ldcSw 76 dM_showPlain_154 (List.mem_of_getElem? (i := 76) rfl) (by decide)) ?_
      obtain ⟨r1492, er1492, hF⟩ := xg_b hF
      have hm1493 : s.2.2.1.2.2.2.2.2.2.1 ≤ r1492.2.2.1.2.2.2.2.2.2.1 ∧ s.2.2.1.2.2.2.2.2.2.2 ≤ r1492.2.2.1.2.2.2.2.2.2.2 := xy_le hm (show s.2.2.1.2.2.2.2.2.2.1 ≤ r1492.2.2.1.2.2.2.2.2.2.1 ∧ s.2.2.1.2.2.2.2.2.2.2 ≤ r1492.2.2.1.2.2.2.2.2.2.2 from (CM_put_LjavalangStringV (w := w) (h := h) hb (s := s) er1492).1)
      refine xy_V0 (nl := 3) (sm := s.2.2.1.2.2.2.2.2.2.1) (sn := s.2.2.1.2.2.2.2.2.2.2) (tm := r1492.2.2.1.2.2.2.2.2.2.1) (tn := r1492.2.2.1.2.2.2.2.2.2.2) (CM_put_LjavalangStringV hb (s := s) er1492) rfl rfl hm (fun _ => rfl) (fun _ => rfl) (fun _ => rfl) (fun _ => dM_showPlain_157) (fun _ R => kM_449 R) (fun _ => rfl) ⟨by omega, by omega⟩ rfl rfl rfl (fun _ => rfl) (Nat.le_of_ble_eq_true rfl) ?_
      obtain rfl := Option.some.inj hF
      exact xy_end (xw_return dM_showPlain_160 rfl (Nat.le_refl _) (Nat.le_refl _) ⟨rfl, rfl⟩)
    · replace hF := xg_t c1491 hF
      refine xy_r (xw_ldcSw 75 dM_showPlain_148 (List.mem_of_getElem? (i := 75) rfl) (by decide)) ?_
      refine xy_r (xw_goto 157 dM_showPlain_151 (by decide)) ?_
      obtain ⟨r1495, er1495, hF⟩ := xg_b hF
      have hm1496 : s.2.2.1.2.2.2.2.2.2.1 ≤ r1495.2.2.1.2.2.2.2.2.2.1 ∧ s.2.2.1.2.2.2.2.2.2.2 ≤ r1495.2.2.1.2.2.2.2.2.2.2 := xy_le hm (show s.2.2.1.2.2.2.2.2.2.1 ≤ r1495.2.2.1.2.2.2.2.2.2.1 ∧ s.2.2.1.2.2.2.2.2.2.2 ≤ r1495.2.2.1.2.2.2.2.2.2.2 from (CM_put_LjavalangStringV (w := w) (h := h) hb (s := s) er1495).1)
      refine xy_V0 (nl := 3) (sm := s.2.2.1.2.2.2.2.2.2.1) (sn := s.2.2.1.2.2.2.2.2.2.2) (tm := r1495.2.2.1.2.2.2.2.2.2.1) (tn := r1495.2.2.1.2.2.2.2.2.2.2) (CM_put_LjavalangStringV hb (s := s) er1495) rfl rfl hm (fun _ => rfl) (fun _ => rfl) (fun _ => rfl) (fun _ => dM_showPlain_157) (fun _ R => kM_449 R) (fun _ => rfl) ⟨by omega, by omega⟩ rfl rfl rfl (fun _ => rfl) (Nat.le_of_ble_eq_true rfl) ?_
      obtain rfl := Option.some.inj hF
      exact xy_end (xw_return dM_showPlain_160 rfl (Nat.le_refl _) (Nat.le_refl _) ⟨rfl, rfl⟩)
  replace hF := xg_f c1490 hF
  by_cases c1498 : (s.2.2.1.2.2.2.2.2.1 x0).1.1 = 3
  · replace hF := xg_t c1498 hF
    refine xy_r (xw_tableIn (off := 157) 161 dM_showPlain_4 (by rw [c1498]; decide) (by rw [c1498]; decide) (by rw [c1498]; rfl) (by decide)) ?_
    refine xy_r (xw_aload_n dM_showPlain_161 rfl) ?_
    refine xy_r (xw_aload_n dM_showPlain_162 rfl) ?_
    refine xy_r (xw_get dM_showPlain_163 fM_47 rfl rfl) ?_
    refine xy_r (xw_aload_n dM_showPlain_166 rfl) ?_
    refine xy_r (xw_get dM_showPlain_167 fM_195 (mV_n g1456) rfl) ?_
    refine xy_r (xw_iconst (1) dM_showPlain_170 (by decide)) ?_
    refine xy_r (xw_isub dM_showPlain_171) ?_
    obtain ⟨g1499, hF⟩ := xg_g hF
    obtain ⟨k1500, ek1500, hF⟩ := xg_b hF
    refine xy_r (xg_saload g1499 (by decide) ek1500 dM_showPlain_172 rfl) ?_
    obtain ⟨r1501, er1501, hF⟩ := xg_b hF
    have hm1502 : s.2.2.1.2.2.2.2.2.2.1 ≤ r1501.2.2.1.2.2.2.2.2.2.1 ∧ s.2.2.1.2.2.2.2.2.2.2 ≤ r1501.2.2.1.2.2.2.2.2.2.2 := xy_le hm (show s.2.2.1.2.2.2.2.2.2.1 ≤ r1501.2.2.1.2.2.2.2.2.2.1 ∧ s.2.2.1.2.2.2.2.2.2.2 ≤ r1501.2.2.1.2.2.2.2.2.2.2 from (CM_put_LjavalangStringV (w := w) (h := h) hb (s := s) er1501).1)
    refine xy_V0 (nl := 3) (sm := s.2.2.1.2.2.2.2.2.2.1) (sn := s.2.2.1.2.2.2.2.2.2.2) (tm := r1501.2.2.1.2.2.2.2.2.2.1) (tn := r1501.2.2.1.2.2.2.2.2.2.2) (CM_put_LjavalangStringV hb (s := s) er1501) rfl rfl hm (fun _ => rfl) (fun _ => rfl) (fun _ => rfl) (fun _ => dM_showPlain_173) (fun _ R => kM_449 R) (fun _ => rfl) ⟨by omega, by omega⟩ rfl rfl rfl (fun _ => rfl) (Nat.le_of_ble_eq_true rfl) ?_
    obtain rfl := Option.some.inj hF
    exact xy_end (xw_return dM_showPlain_176 rfl (Nat.le_refl _) (Nat.le_refl _) ⟨rfl, rfl⟩)
  replace hF := xg_f c1498 hF
  by_cases c1504 : (s.2.2.1.2.2.2.2.2.1 x0).1.1 = 4
  · replace hF := xg_t c1504 hF
    refine xy_r (xw_tableIn (off := 173) 177 dM_showPlain_4 (by rw [c1504]; decide) (by rw [c1504]; decide) (by rw [c1504]; rfl) (by decide)) ?_
    refine xy_r (xw_aload_n dM_showPlain_177 rfl) ?_
    refine xy_r (xw_aload_n dM_showPlain_178 rfl) ?_
    refine xy_r (xw_get dM_showPlain_179 fM_368 (mV_n g1456) rfl) ?_
    refine xy_r (xw_aload_n dM_showPlain_182 rfl) ?_
    refine xy_r (xw_get dM_showPlain_183 fM_371 (mV_n g1456) rfl) ?_
    refine xy_r (xw_aload_n dM_showPlain_186 rfl) ?_
    refine xy_r (xw_get dM_showPlain_187 fM_374 (mV_n g1456) rfl) ?_
    refine xy_r (xw_aload_n dM_showPlain_190 rfl) ?_
    refine xy_r (xw_get dM_showPlain_191 fM_377 (mV_n g1456) rfl) ?_
    obtain ⟨r1505, er1505, hF⟩ := xg_b hF
    have hm1506 : s.2.2.1.2.2.2.2.2.2.1 ≤ r1505.2.2.1.2.2.2.2.2.2.1 ∧ s.2.2.1.2.2.2.2.2.2.2 ≤ r1505.2.2.1.2.2.2.2.2.2.2 := xy_le hm (show s.2.2.1.2.2.2.2.2.2.1 ≤ r1505.2.2.1.2.2.2.2.2.2.1 ∧ s.2.2.1.2.2.2.2.2.2.2 ≤ r1505.2.2.1.2.2.2.2.2.2.2 from (CM_cell_IIZZV (w := w) (h := h) hb (s := s) er1505).1)
    refine xy_V0 (nl := 5) (sm := s.2.2.1.2.2.2.2.2.2.1) (sn := s.2.2.1.2.2.2.2.2.2.2) (tm := r1505.2.2.1.2.2.2.2.2.2.1) (tn := r1505.2.2.1.2.2.2.2.2.2.2) (CM_cell_IIZZV hb (s := s) er1505) rfl rfl hm (fun _ => rfl) (fun _ => rfl) (fun _ => rfl) (fun _ => dM_showPlain_194) (fun _ R => kM_457 R) (fun _ => rfl) ⟨by omega, by omega⟩ rfl rfl rfl (fun _ => rfl) (Nat.le_of_ble_eq_true rfl) ?_
    obtain rfl := Option.some.inj hF
    exact xy_end (xw_return dM_showPlain_197 rfl (Nat.le_refl _) (Nat.le_refl _) ⟨rfl, rfl⟩)
  replace hF := xg_f c1504 hF
  by_cases c1508 : (s.2.2.1.2.2.2.2.2.1 x0).1.1 = 5
  · replace hF := xg_t c1508 hF
    refine xy_r (xw_tableIn (off := 194) 198 dM_showPlain_4 (by rw [c1508]; decide) (by rw [c1508]; decide) (by rw [c1508]; rfl) (by decide)) ?_
    refine xy_r (xw_aload_n dM_showPlain_198 rfl) ?_
    refine xy_r (xw_aload_n dM_showPlain_199 rfl) ?_
    refine xy_r (xw_get dM_showPlain_200 fM_368 (mV_n g1456) rfl) ?_
    refine xy_r (xw_aload_n dM_showPlain_203 rfl) ?_
    refine xy_r (xw_get dM_showPlain_204 fM_371 (mV_n g1456) rfl) ?_
    refine xy_r (xw_aload_n dM_showPlain_207 rfl) ?_
    refine xy_r (xw_get dM_showPlain_208 fM_374 (mV_n g1456) rfl) ?_
    refine xy_r (xw_aload_n dM_showPlain_211 rfl) ?_
    refine xy_r (xw_get dM_showPlain_212 fM_377 (mV_n g1456) rfl) ?_
    obtain ⟨r1509, er1509, hF⟩ := xg_b hF
    have hm1510 : s.2.2.1.2.2.2.2.2.2.1 ≤ r1509.2.2.1.2.2.2.2.2.2.1 ∧ s.2.2.1.2.2.2.2.2.2.2 ≤ r1509.2.2.1.2.2.2.2.2.2.2 := xy_le hm (show s.2.2.1.2.2.2.2.2.2.1 ≤ r1509.2.2.1.2.2.2.2.2.2.1 ∧ s.2.2.1.2.2.2.2.2.2.2 ≤ r1509.2.2.1.2.2.2.2.2.2.2 from (CM_cell_IIZZV (w := w) (h := h) hb (s := s) er1509).1)
    refine xy_V0 (nl := 5) (sm := s.2.2.1.2.2.2.2.2.2.1) (sn := s.2.2.1.2.2.2.2.2.2.2) (tm := r1509.2.2.1.2.2.2.2.2.2.1) (tn := r1509.2.2.1.2.2.2.2.2.2.2) (CM_cell_IIZZV hb (s := s) er1509) rfl rfl hm (fun _ => rfl) (fun _ => rfl) (fun _ => rfl) (fun _ => dM_showPlain_215) (fun _ R => kM_457 R) (fun _ => rfl) ⟨by omega, by omega⟩ rfl rfl rfl (fun _ => rfl) (Nat.le_of_ble_eq_true rfl) ?_
    refine xy_r (xw_aload_n dM_showPlain_218 rfl) ?_
    refine xy_r (xw_bipush (58) dM_showPlain_219 (by decide)) ?_
    obtain ⟨r1512, er1512, hF⟩ := xg_b hF
    have hm1513 : s.2.2.1.2.2.2.2.2.2.1 ≤ r1512.2.2.1.2.2.2.2.2.2.1 ∧ s.2.2.1.2.2.2.2.2.2.2 ≤ r1512.2.2.1.2.2.2.2.2.2.2 := xy_le hm1510 (show r1509.2.2.1.2.2.2.2.2.2.1 ≤ r1512.2.2.1.2.2.2.2.2.2.1 ∧ r1509.2.2.1.2.2.2.2.2.2.2 ≤ r1512.2.2.1.2.2.2.2.2.2.2 from (CM_put_IV (w := w) (h := h) hb (s := r1509) er1512).1)
    refine xy_V0 (nl := 4) (sm := r1509.2.2.1.2.2.2.2.2.2.1) (sn := r1509.2.2.1.2.2.2.2.2.2.2) (tm := r1512.2.2.1.2.2.2.2.2.2.1) (tn := r1512.2.2.1.2.2.2.2.2.2.2) (CM_put_IV hb (s := r1509) er1512) rfl rfl hm1510 (fun _ => rfl) (fun _ => rfl) (fun _ => rfl) (fun _ => dM_showPlain_221) (fun _ R => kM_423 R) (fun _ => rfl) ⟨by omega, by omega⟩ rfl rfl rfl (fun _ => rfl) (Nat.le_of_ble_eq_true rfl) ?_
    refine xy_r (xw_aload_n dM_showPlain_224 rfl) ?_
    refine xy_r (xw_aload_n dM_showPlain_225 rfl) ?_
    obtain ⟨g1515, hF⟩ := xg_g hF
    refine xy_r (xw_get dM_showPlain_226 fM_389 (mV_n g1515) rfl) ?_
    refine xy_r (xw_aload_n dM_showPlain_229 rfl) ?_
    refine xy_r (xw_get dM_showPlain_230 fM_398 (mV_n g1515) rfl) ?_
    refine xy_r (xw_aload_n dM_showPlain_233 rfl) ?_
    refine xy_r (xw_get dM_showPlain_234 fM_392 (mV_n g1515) rfl) ?_
    refine xy_r (xw_aload_n dM_showPlain_237 rfl) ?_
    refine xy_r (xw_get dM_showPlain_238 fM_401 (mV_n g1515) rfl) ?_
    obtain ⟨r1516, er1516, hF⟩ := xg_b hF
    have hm1517 : s.2.2.1.2.2.2.2.2.2.1 ≤ r1516.2.2.1.2.2.2.2.2.2.1 ∧ s.2.2.1.2.2.2.2.2.2.2 ≤ r1516.2.2.1.2.2.2.2.2.2.2 := xy_le hm1513 (show r1512.2.2.1.2.2.2.2.2.2.1 ≤ r1516.2.2.1.2.2.2.2.2.2.1 ∧ r1512.2.2.1.2.2.2.2.2.2.2 ≤ r1516.2.2.1.2.2.2.2.2.2.2 from (CM_cell_IIZZV (w := w) (h := h) hb (s := r1512) er1516).1)
    refine xy_V0 (nl := 5) (sm := r1512.2.2.1.2.2.2.2.2.2.1) (sn := r1512.2.2.1.2.2.2.2.2.2.2) (tm := r1516.2.2.1.2.2.2.2.2.2.1) (tn := r1516.2.2.1.2.2.2.2.2.2.2) (CM_cell_IIZZV hb (s := r1512) er1516) rfl rfl hm1513 (fun _ => rfl) (fun _ => rfl) (fun _ => rfl) (fun _ => dM_showPlain_241) (fun _ R => kM_457 R) (fun _ => rfl) ⟨by omega, by omega⟩ rfl rfl rfl (fun _ => rfl) (Nat.le_of_ble_eq_true rfl) ?_
    obtain rfl := Option.some.inj hF
    exact xy_end (xw_return dM_showPlain_244 rfl (Nat.le_refl _) (Nat.le_refl _) ⟨rfl, rfl⟩)
  replace hF := xg_f c1508 hF
  by_cases c1519 : (s.2.2.1.2.2.2.2.2.1 x0).1.1 = 6
  · replace hF := xg_t c1519 hF
    refine xy_r (xw_tableIn (off := 241) 245 dM_showPlain_4 (by rw [c1519]; decide) (by rw [c1519]; decide) (by rw [c1519]; rfl) (by decide)) ?_
    refine xy_r (xw_aload_n dM_showPlain_245 rfl) ?_
    refine xy_r (xw_aload_n dM_showPlain_246 rfl) ?_
    refine xy_r (xw_get dM_showPlain_247 fM_201 (mV_n g1456) rfl) ?_
    obtain ⟨r1520, er1520, hF⟩ := xg_b hF
    have hm1521 : s.2.2.1.2.2.2.2.2.2.1 ≤ r1520.2.2.1.2.2.2.2.2.2.1 ∧ s.2.2.1.2.2.2.2.2.2.2 ≤ r1520.2.2.1.2.2.2.2.2.2.2 := xy_le hm (show s.2.2.1.2.2.2.2.2.2.1 ≤ r1520.2.2.1.2.2.2.2.2.2.1 ∧ s.2.2.1.2.2.2.2.2.2.2 ≤ r1520.2.2.1.2.2.2.2.2.2.2 from (CM_showWord (w := w) (h := h) hb (s := s) er1520).1)
    refine xy_V0 (nl := 6) (sm := s.2.2.1.2.2.2.2.2.2.1) (sn := s.2.2.1.2.2.2.2.2.2.2) (tm := r1520.2.2.1.2.2.2.2.2.2.1) (tn := r1520.2.2.1.2.2.2.2.2.2.2) (CM_showWord hb (s := s) er1520) rfl rfl hm (fun _ => rfl) (fun _ => rfl) (fun _ => rfl) (fun _ => dM_showPlain_250) (fun _ R => kM_460 R) (fun _ => rfl) ⟨by omega, by omega⟩ rfl rfl rfl (fun _ => rfl) (Nat.le_of_ble_eq_true rfl) ?_
    obtain rfl := Option.some.inj hF
    exact xy_end (xw_return dM_showPlain_253 rfl (Nat.le_refl _) (Nat.le_refl _) ⟨rfl, rfl⟩)
  replace hF := xg_f c1519 hF
  by_cases c1523 : (s.2.2.1.2.2.2.2.2.1 x0).1.1 = 7
  · replace hF := xg_t c1523 hF
    refine xy_r (xw_tableIn (off := 250) 254 dM_showPlain_4 (by rw [c1523]; decide) (by rw [c1523]; decide) (by rw [c1523]; rfl) (by decide)) ?_
    refine xy_r (xw_aload_n dM_showPlain_254 rfl) ?_
    refine xy_r (xw_bipush (40) dM_showPlain_255 (by decide)) ?_
    obtain ⟨r1524, er1524, hF⟩ := xg_b hF
    have hm1525 : s.2.2.1.2.2.2.2.2.2.1 ≤ r1524.2.2.1.2.2.2.2.2.2.1 ∧ s.2.2.1.2.2.2.2.2.2.2 ≤ r1524.2.2.1.2.2.2.2.2.2.2 := xy_le hm (show s.2.2.1.2.2.2.2.2.2.1 ≤ r1524.2.2.1.2.2.2.2.2.2.1 ∧ s.2.2.1.2.2.2.2.2.2.2 ≤ r1524.2.2.1.2.2.2.2.2.2.2 from (CM_put_IV (w := w) (h := h) hb (s := s) er1524).1)
    refine xy_V0 (nl := 4) (sm := s.2.2.1.2.2.2.2.2.2.1) (sn := s.2.2.1.2.2.2.2.2.2.2) (tm := r1524.2.2.1.2.2.2.2.2.2.1) (tn := r1524.2.2.1.2.2.2.2.2.2.2) (CM_put_IV hb (s := s) er1524) rfl rfl hm (fun _ => rfl) (fun _ => rfl) (fun _ => rfl) (fun _ => dM_showPlain_257) (fun _ R => kM_423 R) (fun _ => rfl) ⟨by omega, by omega⟩ rfl rfl rfl (fun _ => rfl) (Nat.le_of_ble_eq_true rfl) ?_
    refine xy_r (xw_aload_n dM_showPlain_260 rfl) ?_
    refine xy_r (xw_aload_n dM_showPlain_261 rfl) ?_
    obtain ⟨g1527, hF⟩ := xg_g hF
    refine xy_r (xw_get dM_showPlain_262 fM_205 (mV_n g1527) rfl) ?_
    obtain ⟨i1528, ei1528, hF⟩ := xg_b hF
    refine xy_r (xw_Sn (st' := [.ref (xn i1528), .ref 2000]) (by first | (rw [ei1528]; done) | (rw [ei1528]; rfl))) ?_
    obtain ⟨r1529, er1529, hF⟩ := xg_b hF
    have hm1530 : s.2.2.1.2.2.2.2.2.2.1 ≤ r1529.2.2.1.2.2.2.2.2.2.1 ∧ s.2.2.1.2.2.2.2.2.2.2 ≤ r1529.2.2.1.2.2.2.2.2.2.2 := xy_le hm1525 (show r1524.2.2.1.2.2.2.2.2.2.1 ≤ r1529.2.2.1.2.2.2.2.2.2.1 ∧ r1524.2.2.1.2.2.2.2.2.2.2 ≤ r1529.2.2.1.2.2.2.2.2.2.2 from ((hp.1 (h := h) hb (s := r1524) er1529)).1)
    refine xy_V0 (nl := 5) (sm := r1524.2.2.1.2.2.2.2.2.2.1) (sn := r1524.2.2.1.2.2.2.2.2.2.2) (tm := r1529.2.2.1.2.2.2.2.2.2.1) (tn := r1529.2.2.1.2.2.2.2.2.2.2) (hp.1 hb (s := r1524) er1529) rfl rfl hm1525 (fun _ => rfl) (fun _ => rfl) (fun _ => rfl) (fun _ => dM_showPlain_265) (fun _ R => kM_437 R) (fun _ => rfl) ⟨by omega, by omega⟩ rfl rfl rfl (fun _ => rfl) (Nat.le_of_ble_eq_true rfl) ?_
    refine xy_r (xw_aload_n dM_showPlain_268 rfl) ?_
    refine xy_r (xw_bipush (41) dM_showPlain_269 (by decide)) ?_
    obtain ⟨r1532, er1532, hF⟩ := xg_b hF
    have hm1533 : s.2.2.1.2.2.2.2.2.2.1 ≤ r1532.2.2.1.2.2.2.2.2.2.1 ∧ s.2.2.1.2.2.2.2.2.2.2 ≤ r1532.2.2.1.2.2.2.2.2.2.2 := xy_le hm1530 (show r1529.2.2.1.2.2.2.2.2.2.1 ≤ r1532.2.2.1.2.2.2.2.2.2.1 ∧ r1529.2.2.1.2.2.2.2.2.2.2 ≤ r1532.2.2.1.2.2.2.2.2.2.2 from (CM_put_IV (w := w) (h := h) hb (s := r1529) er1532).1)
    refine xy_V0 (nl := 4) (sm := r1529.2.2.1.2.2.2.2.2.2.1) (sn := r1529.2.2.1.2.2.2.2.2.2.2) (tm := r1532.2.2.1.2.2.2.2.2.2.1) (tn := r1532.2.2.1.2.2.2.2.2.2.2) (CM_put_IV hb (s := r1529) er1532) rfl rfl hm1530 (fun _ => rfl) (fun _ => rfl) (fun _ => rfl) (fun _ => dM_showPlain_271) (fun _ R => kM_423 R) (fun _ => rfl) ⟨by omega, by omega⟩ rfl rfl rfl (fun _ => rfl) (Nat.le_of_ble_eq_true rfl) ?_
    obtain rfl := Option.some.inj hF
    exact xy_end (xw_return dM_showPlain_274 rfl (Nat.le_refl _) (Nat.le_refl _) ⟨rfl, rfl⟩)
  replace hF := xg_f c1523 hF
  by_cases c1535 : (s.2.2.1.2.2.2.2.2.1 x0).1.1 = 8
  · replace hF := xg_t c1535 hF
    refine xy_r (xw_tableIn (off := 271) 275 dM_showPlain_4 (by rw [c1535]; decide) (by rw [c1535]; decide) (by rw [c1535]; rfl) (by decide)) ?_
    refine xy_r (xw_aload_n dM_showPlain_275 rfl) ?_
    refine xy_r (xw_bipush (123) dM_showPlain_276 (by decide)) ?_
    obtain ⟨r1536, er1536, hF⟩ := xg_b hF
    have hm1537 : s.2.2.1.2.2.2.2.2.2.1 ≤ r1536.2.2.1.2.2.2.2.2.2.1 ∧ s.2.2.1.2.2.2.2.2.2.2 ≤ r1536.2.2.1.2.2.2.2.2.2.2 := xy_le hm (show s.2.2.1.2.2.2.2.2.2.1 ≤ r1536.2.2.1.2.2.2.2.2.2.1 ∧ s.2.2.1.2.2.2.2.2.2.2 ≤ r1536.2.2.1.2.2.2.2.2.2.2 from (CM_put_IV (w := w) (h := h) hb (s := s) er1536).1)
    refine xy_V0 (nl := 4) (sm := s.2.2.1.2.2.2.2.2.2.1) (sn := s.2.2.1.2.2.2.2.2.2.2) (tm := r1536.2.2.1.2.2.2.2.2.2.1) (tn := r1536.2.2.1.2.2.2.2.2.2.2) (CM_put_IV hb (s := s) er1536) rfl rfl hm (fun _ => rfl) (fun _ => rfl) (fun _ => rfl) (fun _ => dM_showPlain_278) (fun _ R => kM_423 R) (fun _ => rfl) ⟨by omega, by omega⟩ rfl rfl rfl (fun _ => rfl) (Nat.le_of_ble_eq_true rfl) ?_
    refine xy_r (xw_iconst (0) dM_showPlain_281 (by decide)) ?_
    refine xy_r (xw_istore_n dM_showPlain_282 (Nat.le_of_ble_eq_true rfl)) ?_
    refine xy_r (xw_Ln (L' := [some (.ref 2000), some (.ref (xn x0)), some (.int 0)]) rfl) ?_
    exact CM_showPlain_283 (hp := hp) hb xFuel (s := r1536) hm1537 hF
  replace hF := xg_f c1535 hF
  refine xy_r (xw_tableOut 337 dM_showPlain_4 (xg_swo (N := 9) (by decide) (by intro j hj; match j, hj with | 0, _ => exact c1457 | 1, _ => exact c1477 | 2, _ => exact c1490 | 3, _ => exact c1498 | 4, _ => exact c1504 | 5, _ => exact c1508 | 6, _ => exact c1519 | 7, _ => exact c1523 | 8, _ => exact c1535 | k + 9, hk => exact absurd hk (by omega))) (by decide)) ?_
  refine xy_r (xw_aload_n dM_showPlain_337 rfl) ?_
  refine xy_r (xw_aload_n dM_showPlain_338 rfl) ?_
  refine xy_r (xw_get dM_showPlain_339 fM_129 rfl rfl) ?_
  refine xy_r (xw_aload_n dM_showPlain_342 rfl) ?_
  refine xy_r (xw_get dM_showPlain_343 fM_195 (mV_n g1456) rfl) ?_
  obtain ⟨g1570, hF⟩ := xg_g hF
  obtain ⟨k1571, ek1571, hF⟩ := xg_b hF
  refine xy_r (xg_saload g1570 (by decide) ek1571 dM_showPlain_346 rfl) ?_
  obtain ⟨r1572, er1572, hF⟩ := xg_b hF
  have hm1573 : s.2.2.1.2.2.2.2.2.2.1 ≤ r1572.2.2.1.2.2.2.2.2.2.1 ∧ s.2.2.1.2.2.2.2.2.2.2 ≤ r1572.2.2.1.2.2.2.2.2.2.2 := xy_le hm (show s.2.2.1.2.2.2.2.2.2.1 ≤ r1572.2.2.1.2.2.2.2.2.2.1 ∧ s.2.2.1.2.2.2.2.2.2.2 ≤ r1572.2.2.1.2.2.2.2.2.2.2 from (CM_put_LjavalangStringV (w := w) (h := h) hb (s := s) er1572).1)
  refine xy_V0 (nl := 3) (sm := s.2.2.1.2.2.2.2.2.2.1) (sn := s.2.2.1.2.2.2.2.2.2.2) (tm := r1572.2.2.1.2.2.2.2.2.2.1) (tn := r1572.2.2.1.2.2.2.2.2.2.2) (CM_put_LjavalangStringV hb (s := s) er1572) rfl rfl hm (fun _ => rfl) (fun _ => rfl) (fun _ => rfl) (fun _ => dM_showPlain_347) (fun _ R => kM_449 R) (fun _ => rfl) ⟨by omega, by omega⟩ rfl rfl rfl (fun _ => rfl) (Nat.le_of_ble_eq_true rfl) ?_
  refine xy_r (xw_aload_n dM_showPlain_350 rfl) ?_
  refine xy_r (xw_bipush (40) dM_showPlain_351 (by decide)) ?_
  obtain ⟨r1575, er1575, hF⟩ := xg_b hF
  have hm1576 : s.2.2.1.2.2.2.2.2.2.1 ≤ r1575.2.2.1.2.2.2.2.2.2.1 ∧ s.2.2.1.2.2.2.2.2.2.2 ≤ r1575.2.2.1.2.2.2.2.2.2.2 := xy_le hm1573 (show r1572.2.2.1.2.2.2.2.2.2.1 ≤ r1575.2.2.1.2.2.2.2.2.2.1 ∧ r1572.2.2.1.2.2.2.2.2.2.2 ≤ r1575.2.2.1.2.2.2.2.2.2.2 from (CM_put_IV (w := w) (h := h) hb (s := r1572) er1575).1)
  refine xy_V0 (nl := 4) (sm := r1572.2.2.1.2.2.2.2.2.2.1) (sn := r1572.2.2.1.2.2.2.2.2.2.2) (tm := r1575.2.2.1.2.2.2.2.2.2.1) (tn := r1575.2.2.1.2.2.2.2.2.2.2) (CM_put_IV hb (s := r1572) er1575) rfl rfl hm1573 (fun _ => rfl) (fun _ => rfl) (fun _ => rfl) (fun _ => dM_showPlain_353) (fun _ R => kM_423 R) (fun _ => rfl) ⟨by omega, by omega⟩ rfl rfl rfl (fun _ => rfl) (Nat.le_of_ble_eq_true rfl) ?_
  refine xy_r (xw_aload_n dM_showPlain_356 rfl) ?_
  refine xy_r (xw_aload_n dM_showPlain_357 rfl) ?_
  refine xy_r (xw_iconst (0) dM_showPlain_358 (by decide)) ?_
  obtain ⟨r1578, er1578, hF⟩ := xg_b hF
  have hm1579 : s.2.2.1.2.2.2.2.2.2.1 ≤ r1578.2.2.1.2.2.2.2.2.2.1 ∧ s.2.2.1.2.2.2.2.2.2.2 ≤ r1578.2.2.1.2.2.2.2.2.2.2 := xy_le hm1576 (show r1575.2.2.1.2.2.2.2.2.2.1 ≤ r1578.2.2.1.2.2.2.2.2.2.1 ∧ r1575.2.2.1.2.2.2.2.2.2.2 ≤ r1578.2.2.1.2.2.2.2.2.2.2 from ((hp.2.2.2 (h := h) hb (s := r1575) er1578)).1)
  refine xy_V0 (nl := 4) (sm := r1575.2.2.1.2.2.2.2.2.2.1) (sn := r1575.2.2.1.2.2.2.2.2.2.2) (tm := r1578.2.2.1.2.2.2.2.2.2.1) (tn := r1578.2.2.1.2.2.2.2.2.2.2) (hp.2.2.2 hb (s := r1575) er1578) rfl rfl hm1576 (fun _ => rfl) (fun _ => rfl) (fun _ => rfl) (fun _ => dM_showPlain_359) (fun _ R => kM_452 R) (fun _ => rfl) ⟨by omega, by omega⟩ rfl rfl rfl (fun _ => rfl) (Nat.le_of_ble_eq_true rfl) ?_
  refine xy_r (xw_aload_n dM_showPlain_362 rfl) ?_
  refine xy_r (xw_bipush (41) dM_showPlain_363 (by decide)) ?_
  obtain ⟨r1581, er1581, hF⟩ := xg_b hF
  have hm1582 : s.2.2.1.2.2.2.2.2.2.1 ≤ r1581.2.2.1.2.2.2.2.2.2.1 ∧ s.2.2.1.2.2.2.2.2.2.2 ≤ r1581.2.2.1.2.2.2.2.2.2.2 := xy_le hm1579 (show r1578.2.2.1.2.2.2.2.2.2.1 ≤ r1581.2.2.1.2.2.2.2.2.2.1 ∧ r1578.2.2.1.2.2.2.2.2.2.2 ≤ r1581.2.2.1.2.2.2.2.2.2.2 from (CM_put_IV (w := w) (h := h) hb (s := r1578) er1581).1)
  refine xy_V0 (nl := 4) (sm := r1578.2.2.1.2.2.2.2.2.2.1) (sn := r1578.2.2.1.2.2.2.2.2.2.2) (tm := r1581.2.2.1.2.2.2.2.2.2.1) (tn := r1581.2.2.1.2.2.2.2.2.2.2) (CM_put_IV hb (s := r1578) er1581) rfl rfl hm1579 (fun _ => rfl) (fun _ => rfl) (fun _ => rfl) (fun _ => dM_showPlain_365) (fun _ R => kM_423 R) (fun _ => rfl) ⟨by omega, by omega⟩ rfl rfl rfl (fun _ => rfl) (Nat.le_of_ble_eq_true rfl) ?_
  obtain rfl := Option.some.inj hF
  exact xy_end (xw_return dM_showPlain_368 rfl (Nat.le_refl _) (Nat.le_refl _) ⟨rfl, rfl⟩)
def FM_parts_2 (p : xTS) : Nat → Nat → Int32 → Int32 → xMs → Option xMs
  | 0, _, _, _, _ => none
  | fu + 1, l1, l2, l3, s => if l1 < s.2.2.1.2.2.2.2.1 then (if (s.2.2.1.2.2.2.2.2.1 l1).2.2.2.2.2 ≤ l3 then (some s) else (if l3 ≤ l2 then ((FN_part l1 l3 s).bind fun r1587 => (r1587).bind fun i1588 => (p.1 i1588 s).bind fun r1589 => FM_parts_2 p fu l1 l2 (l3 + 1) r1589) else ((FM_put_IV 44 s).bind fun r1592 => if l1 < r1592.2.2.1.2.2.2.2.1 then ((FN_part l1 l3 r1592).bind fun r1596 => (r1596).bind fun i1597 => (p.1 i1597 r1592).bind fun r1598 => FM_parts_2 p fu l1 l2 (l3 + 1) r1598) else none))) else none
/-- FormulaShaperModel.parts -/
def FM_parts (p : xTS) (x0 : Nat) (x1 : Int32) (s : xMs) : Option xMs := FM_parts_2 p xFuel x0 x1 x1 s
set_option maxRecDepth 20000 in
theorem CM_parts_2 {w : xw_G} {p : xTS} {d : Nat} (hp : xKS w p d) {h : xw_H} (hb : xMb h)  : ∀ (fu : Nat) {l1 : Nat} {l2 : Int32} {l3 : Int32} {s : xMs} {out : xMs} {h0 : xw_H} {m0 n0 : Nat} (hm : m0 ≤ s.2.2.1.2.2.2.2.2.2.1 ∧ n0 ≤ s.2.2.1.2.2.2.2.2.2.2), FM_parts_2 p fu l1 l2 l3 s = some out → xw_Y w mM_parts (d + 1 + 20) (60 * (d + 1) + 600) (xw_R none (mV out h)) h0 m0 n0 s.2.2.1.2.2.2.2.2.2.1 s.2.2.1.2.2.2.2.2.2.2 out.2.2.1.2.2.2.2.2.2.1 out.2.2.1.2.2.2.2.2.2.2 2 [some (.ref 2000), some (.ref (xn l1)), some (.int l2), some (.int l3)] [] (mV s h) := by
  intro fu
  induction fu with
  | zero =>
    intro l1 l2 l3 s out h0 m0 n0 hm hF
    rw [FM_parts_2] at hF
    cases hF
  | succ fu ih =>
    intro l1 l2 l3 s out h0 m0 n0 hm hF
    rw [FM_parts_2] at hF
    refine xy_r (xw_iload_n dM_parts_2 rfl) ?_
    refine xy_r (xw_aload_n dM_parts_3 rfl) ?_
    obtain ⟨g1584, hF⟩ := xg_g hF
    refine xy_r (xw_get dM_parts_4 fM_215 (mV_n g1584) rfl) ?_
    refine xy_br (xw_icmp_ge 36 dM_parts_7 (by decide)) (fun c1585 => ?_) (fun c1585 => ?_)
    · replace hF := xg_t c1585 hF
      obtain rfl := Option.some.inj hF
      exact xy_end (xw_return dM_parts_36 rfl (Nat.le_refl _) (Nat.le_refl _) ⟨rfl, rfl⟩)
    · replace hF := xg_f c1585 hF
      refine xy_r (xw_iload_n dM_parts_10 rfl) ?_
      refine xy_r (xw_iload_n dM_parts_11 rfl) ?_
      refine xy_br (xw_icmp_le 21 dM_parts_12 (by decide)) (fun c1586 => ?_) (fun c1586 => ?_)
      · replace hF := xg_t c1586 hF
        refine xy_r (xw_aload_n dM_parts_21 rfl) ?_
        refine xy_r (xw_aload_n dM_parts_22 rfl) ?_
        refine xy_r (xw_iload_n dM_parts_23 rfl) ?_
        obtain ⟨r1587, er1587, hF⟩ := xg_b hF
        refine xy_q (fun hq => xg_V1 (k1 := _) (n1 := _) (CN_part er1587) rfl rfl rfl dM_parts_24 (kM_434 _) (xZS (Nat.le_of_ble_eq_true rfl) (Nat.le_of_ble_eq_true rfl)) rfl rfl (mV_n g1584) rfl (Nat.le_of_ble_eq_true rfl) (Nat.le_refl _) (Nat.le_refl _) (Nat.sub_le_sub_right hq.1 _) (Nat.sub_le_sub_right hq.2 _)) ?_
        obtain ⟨i1588, ei1588, hF⟩ := xg_b hF
        refine xy_r (xw_Sn (st' := [.ref (xn i1588), .ref 2000]) (by first | (rw [ei1588]; done) | (rw [ei1588]; rfl))) ?_
        obtain ⟨r1589, er1589, hF⟩ := xg_b hF
        have hm1590 : m0 ≤ r1589.2.2.1.2.2.2.2.2.2.1 ∧ n0 ≤ r1589.2.2.1.2.2.2.2.2.2.2 := xy_le hm (show s.2.2.1.2.2.2.2.2.2.1 ≤ r1589.2.2.1.2.2.2.2.2.2.1 ∧ s.2.2.1.2.2.2.2.2.2.2 ≤ r1589.2.2.1.2.2.2.2.2.2.2 from ((hp.1 (h := h) hb (s := s) er1589)).1)
        refine xy_V0 (nl := 5) (sm := s.2.2.1.2.2.2.2.2.2.1) (sn := s.2.2.1.2.2.2.2.2.2.2) (tm := r1589.2.2.1.2.2.2.2.2.2.1) (tn := r1589.2.2.1.2.2.2.2.2.2.2) (hp.1 hb (s := s) er1589) rfl rfl hm (fun _ => rfl) (fun _ => rfl) (fun _ => rfl) (fun _ => dM_parts_27) (fun _ R => kM_437 R) (fun _ => rfl) ⟨by omega, by omega⟩ rfl rfl rfl (fun _ => rfl) (Nat.le_of_ble_eq_true rfl) ?_
        refine xy_r (xw_iinc ((l3 + 1)) dM_parts_30 rfl rfl (Nat.le_of_ble_eq_true rfl)) ?_
        refine xy_r (xw_Ln (L' := [some (.ref 2000), some (.ref (xn l1)), some (.int l2), some (.int (l3 + 1))]) rfl) ?_
        refine xy_r (xw_goto 2 dM_parts_33 (by decide)) ?_
        exact ih (s := r1589) hm1590 hF
      · replace hF := xg_f c1586 hF
        refine xy_r (xw_aload_n dM_parts_15 rfl) ?_
        refine xy_r (xw_bipush (44) dM_parts_16 (by decide)) ?_
        obtain ⟨r1592, er1592, hF⟩ := xg_b hF
        have hm1593 : m0 ≤ r1592.2.2.1.2.2.2.2.2.2.1 ∧ n0 ≤ r1592.2.2.1.2.2.2.2.2.2.2 := xy_le hm (show s.2.2.1.2.2.2.2.2.2.1 ≤ r1592.2.2.1.2.2.2.2.2.2.1 ∧ s.2.2.1.2.2.2.2.2.2.2 ≤ r1592.2.2.1.2.2.2.2.2.2.2 from (CM_put_IV (w := w) (h := h) hb (s := s) er1592).1)
        refine xy_V0 (nl := 4) (sm := s.2.2.1.2.2.2.2.2.2.1) (sn := s.2.2.1.2.2.2.2.2.2.2) (tm := r1592.2.2.1.2.2.2.2.2.2.1) (tn := r1592.2.2.1.2.2.2.2.2.2.2) (CM_put_IV hb (s := s) er1592) rfl rfl hm (fun _ => rfl) (fun _ => rfl) (fun _ => rfl) (fun _ => dM_parts_18) (fun _ R => kM_423 R) (fun _ => rfl) ⟨by omega, by omega⟩ rfl rfl rfl (fun _ => rfl) (Nat.le_of_ble_eq_true rfl) ?_
        refine xy_r (xw_aload_n dM_parts_21 rfl) ?_
        refine xy_r (xw_aload_n dM_parts_22 rfl) ?_
        refine xy_r (xw_iload_n dM_parts_23 rfl) ?_
        obtain ⟨g1595, hF⟩ := xg_g hF
        obtain ⟨r1596, er1596, hF⟩ := xg_b hF
        refine xy_q (fun hq => xg_V1 (k1 := _) (n1 := _) (CN_part er1596) rfl rfl rfl dM_parts_24 (kM_434 _) (xZS (Nat.le_of_ble_eq_true rfl) (Nat.le_of_ble_eq_true rfl)) rfl rfl (mV_n g1595) rfl (Nat.le_of_ble_eq_true rfl) (Nat.le_refl _) (Nat.le_refl _) (Nat.sub_le_sub_right hq.1 _) (Nat.sub_le_sub_right hq.2 _)) ?_
        obtain ⟨i1597, ei1597, hF⟩ := xg_b hF
        refine xy_r (xw_Sn (st' := [.ref (xn i1597), .ref 2000]) (by first | (rw [ei1597]; done) | (rw [ei1597]; rfl))) ?_
        obtain ⟨r1598, er1598, hF⟩ := xg_b hF
        have hm1599 : m0 ≤ r1598.2.2.1.2.2.2.2.2.2.1 ∧ n0 ≤ r1598.2.2.1.2.2.2.2.2.2.2 := xy_le hm1593 (show r1592.2.2.1.2.2.2.2.2.2.1 ≤ r1598.2.2.1.2.2.2.2.2.2.1 ∧ r1592.2.2.1.2.2.2.2.2.2.2 ≤ r1598.2.2.1.2.2.2.2.2.2.2 from ((hp.1 (h := h) hb (s := r1592) er1598)).1)
        refine xy_V0 (nl := 5) (sm := r1592.2.2.1.2.2.2.2.2.2.1) (sn := r1592.2.2.1.2.2.2.2.2.2.2) (tm := r1598.2.2.1.2.2.2.2.2.2.1) (tn := r1598.2.2.1.2.2.2.2.2.2.2) (hp.1 hb (s := r1592) er1598) rfl rfl hm1593 (fun _ => rfl) (fun _ => rfl) (fun _ => rfl) (fun _ => dM_parts_27) (fun _ R => kM_437 R) (fun _ => rfl) ⟨by omega, by omega⟩ rfl rfl rfl (fun _ => rfl) (Nat.le_of_ble_eq_true rfl) ?_
        refine xy_r (xw_iinc ((l3 + 1)) dM_parts_30 rfl rfl (Nat.le_of_ble_eq_true rfl)) ?_
        refine xy_r (xw_Ln (L' := [some (.ref 2000), some (.ref (xn l1)), some (.int l2), some (.int (l3 + 1))]) rfl) ?_
        refine xy_r (xw_goto 2 dM_parts_33 (by decide)) ?_
        exact ih (s := r1598) hm1599 hF
set_option maxRecDepth 20000 in
theorem CM_parts {w : xw_G} {p : xTS} {d : Nat} (hp : xKS w p d) {h : xw_H} (hb : xMb h) {x0 : Nat} {x1 : Int32} {s : xMs} {out : xMs} (hF : FM_parts p x0 x1 s = some out) : (s.2.2.1.2.2.2.2.2.2.1 ≤ out.2.2.1.2.2.2.2.2.2.1 ∧ s.2.2.1.2.2.2.2.2.2.2 ≤ out.2.2.1.2.2.2.2.2.2.2) ∧ xw_C w (mM_parts { frames := (d + 1 + 20), cells := out.2.2.1.2.2.2.2.2.2.1 - s.2.2.1.2.2.2.2.2.2.1, slots := out.2.2.1.2.2.2.2.2.2.2 - s.2.2.1.2.2.2.2.2.2.2, locals := (60 * (d + 1) + 600) }) (xw_R none (mV out h)) [.ref 2000, .ref (xn x0), .int x1] (mV s h) := by
  unfold FM_parts at hF
  refine xy_enter (L := [some (.ref 2000), some (.ref (xn x0)), some (.int x1), none]) (fun _ => rfl) (fun _ => rfl) (fun _ => (show plainName "FormulaShaperModel" = true by decide +kernel)) (fun _ => (Nat.le_of_ble_eq_true rfl)) (fun _ => rfl) ?_
  have hm : s.2.2.1.2.2.2.2.2.2.1 ≤ s.2.2.1.2.2.2.2.2.2.1 ∧ s.2.2.1.2.2.2.2.2.2.2 ≤ s.2.2.1.2.2.2.2.2.2.2 := ⟨Nat.le_refl _, Nat.le_refl _⟩
  refine xy_r (xw_iload_n dM_parts_0 rfl) ?_
  refine xy_r (xw_istore_n dM_parts_1 (Nat.le_of_ble_eq_true rfl)) ?_
  refine xy_r (xw_Ln (L' := [some (.ref 2000), some (.ref (xn x0)), some (.int x1), some (.int x1)]) rfl) ?_
  exact CM_parts_2 (hp := hp) hb xFuel (s := s) hm hF
def xUS : Nat → xTS
  | 0 => (fun _ _ => none, fun _ _ => none, fun _ _ => none, fun _ _ _ => none)
  | d + 1 => (FM_show_LFormulaShaperModelNodeV (xUS d), FM_showSpine (xUS d), FM_showPlain (xUS d), FM_parts (xUS d))
theorem xVS (w : xw_G) : ∀ d : Nat, xKS w (xUS d) d
  | 0 => ⟨fun _ => fun q => (Option.some_ne_none _ q.symm).elim, fun _ => fun q => (Option.some_ne_none _ q.symm).elim, fun _ => fun q => (Option.some_ne_none _ q.symm).elim, fun _ => fun q => (Option.some_ne_none _ q.symm).elim⟩
  | d + 1 => ⟨fun hb => fun q => CM_show_LFormulaShaperModelNodeV (hp := xVS w d) hb q, fun hb => fun q => CM_showSpine (hp := xVS w d) hb q, fun hb => fun q => CM_showPlain (hp := xVS w d) hb q, fun hb => fun q => CM_parts (hp := xVS w d) hb q⟩
def FM_W (x0 : Nat) (s : xMs) : Option xMs := (xUS 250).1 x0 s
theorem CM_W {w : xw_G} {h : xw_H} (hb : xMb h) {x0 : Nat} {s : xMs} {out : xMs} (hF : FM_W x0 s = some out) : (s.2.2.1.2.2.2.2.2.2.1 ≤ out.2.2.1.2.2.2.2.2.2.1 ∧ s.2.2.1.2.2.2.2.2.2.2 ≤ out.2.2.1.2.2.2.2.2.2.2) ∧ xw_C w (mM_show_LFormulaShaperModelNodeV { frames := 270, cells := out.2.2.1.2.2.2.2.2.2.1 - s.2.2.1.2.2.2.2.2.2.1, slots := out.2.2.1.2.2.2.2.2.2.2 - s.2.2.1.2.2.2.2.2.2.2, locals := 15600 }) (xw_R none (mV out h)) [.ref 2000, .ref (xn x0)] (mV s h) := (xVS w 250).1 hb hF
/-- FormulaShaperModel.showFormula -/
def FM_showFormula (x0 : Nat) (s : xMs) : Option xMs := (FM_put_IV 61 (s.1, s.2.1, s.2.2.1, (0, s.2.2.2.1.2), s.2.2.2.2)).bind fun r1601 => (FM_W x0 r1601).bind fun r1604 => some r1604
set_option maxRecDepth 20000 in
theorem CM_showFormula {w : xw_G} {h : xw_H} (hb : xMb h) {x0 : Nat} {s : xMs} {out : xMs} (hF : FM_showFormula x0 s = some out) : (s.2.2.1.2.2.2.2.2.2.1 ≤ out.2.2.1.2.2.2.2.2.2.1 ∧ s.2.2.1.2.2.2.2.2.2.2 ≤ out.2.2.1.2.2.2.2.2.2.2) ∧ xw_C w (mM_showFormula { frames := 271, cells := out.2.2.1.2.2.2.2.2.2.1 - s.2.2.1.2.2.2.2.2.2.1, slots := out.2.2.1.2.2.2.2.2.2.2 - s.2.2.1.2.2.2.2.2.2.2, locals := 15624 }) (xw_R none (mV out h)) [.ref 2000, .ref (xn x0)] (mV s h) := by
  unfold FM_showFormula at hF
  refine xy_enter (L := [some (.ref 2000), some (.ref (xn x0))]) (fun _ => rfl) (fun _ => rfl) (fun _ => (show plainName "FormulaShaperModel" = true by decide +kernel)) (fun _ => (Nat.le_of_ble_eq_true rfl)) (fun _ => rfl) ?_
  have hm : s.2.2.1.2.2.2.2.2.2.1 ≤ s.2.2.1.2.2.2.2.2.2.1 ∧ s.2.2.1.2.2.2.2.2.2.2 ≤ s.2.2.1.2.2.2.2.2.2.2 := ⟨Nat.le_refl _, Nat.le_refl _⟩
  refine xy_r (xw_aload_n dM_showFormula_0 rfl) ?_
  refine xy_r (xw_iconst (0) dM_showFormula_1 (by decide)) ?_
  refine xy_r (xg_put dM_showFormula_2 fM_420 rfl (by decide) (Nat.le_of_ble_eq_true rfl) (fun _ => rfl) (fun _ => rfl) (mV_o (s' := (s.1, s.2.1, s.2.2.1, (0, s.2.2.2.1.2), s.2.2.2.2)) rfl)) ?_
  refine xy_r (xw_aload_n dM_showFormula_5 rfl) ?_
  refine xy_r (xw_bipush (61) dM_showFormula_6 (by decide)) ?_
  obtain ⟨r1601, er1601, hF⟩ := xg_b hF
  have hm1602 : s.2.2.1.2.2.2.2.2.2.1 ≤ r1601.2.2.1.2.2.2.2.2.2.1 ∧ s.2.2.1.2.2.2.2.2.2.2 ≤ r1601.2.2.1.2.2.2.2.2.2.2 := xy_le hm (show s.2.2.1.2.2.2.2.2.2.1 ≤ r1601.2.2.1.2.2.2.2.2.2.1 ∧ s.2.2.1.2.2.2.2.2.2.2 ≤ r1601.2.2.1.2.2.2.2.2.2.2 from (CM_put_IV (w := w) (h := h) hb (s := (s.1, s.2.1, s.2.2.1, (0, s.2.2.2.1.2), s.2.2.2.2)) er1601).1)
  refine xy_V0 (nl := 4) (sm := s.2.2.1.2.2.2.2.2.2.1) (sn := s.2.2.1.2.2.2.2.2.2.2) (tm := r1601.2.2.1.2.2.2.2.2.2.1) (tn := r1601.2.2.1.2.2.2.2.2.2.2) (CM_put_IV hb (s := (s.1, s.2.1, s.2.2.1, (0, s.2.2.2.1.2), s.2.2.2.2)) er1601) rfl rfl hm (fun _ => rfl) (fun _ => rfl) (fun _ => rfl) (fun _ => dM_showFormula_8) (fun _ R => kM_423 R) (fun _ => rfl) ⟨(Nat.le_of_ble_eq_true rfl), (Nat.le_of_ble_eq_true rfl)⟩ rfl rfl rfl (fun _ => rfl) (Nat.le_of_ble_eq_true rfl) ?_
  refine xy_r (xw_aload_n dM_showFormula_11 rfl) ?_
  refine xy_r (xw_aload_n dM_showFormula_12 rfl) ?_
  obtain ⟨r1604, er1604, hF⟩ := xg_b hF
  have hm1605 : s.2.2.1.2.2.2.2.2.2.1 ≤ r1604.2.2.1.2.2.2.2.2.2.1 ∧ s.2.2.1.2.2.2.2.2.2.2 ≤ r1604.2.2.1.2.2.2.2.2.2.2 := xy_le hm1602 (show r1601.2.2.1.2.2.2.2.2.2.1 ≤ r1604.2.2.1.2.2.2.2.2.2.1 ∧ r1601.2.2.1.2.2.2.2.2.2.2 ≤ r1604.2.2.1.2.2.2.2.2.2.2 from (CM_W (w := w) (h := h) hb (s := r1601) er1604).1)
  refine xy_V0 (nl := 5) (sm := r1601.2.2.1.2.2.2.2.2.2.1) (sn := r1601.2.2.1.2.2.2.2.2.2.2) (tm := r1604.2.2.1.2.2.2.2.2.2.1) (tn := r1604.2.2.1.2.2.2.2.2.2.2) (CM_W hb (s := r1601) er1604) rfl rfl hm1602 (fun _ => rfl) (fun _ => rfl) (fun _ => rfl) (fun _ => dM_showFormula_13) (fun _ R => kM_437 R) (fun _ => rfl) ⟨(Nat.le_of_ble_eq_true rfl), (Nat.le_of_ble_eq_true rfl)⟩ rfl rfl rfl (fun _ => rfl) (Nat.le_of_ble_eq_true rfl) ?_
  obtain rfl := Option.some.inj hF
  exact xy_end (xw_return dM_showFormula_16 rfl (Nat.le_refl _) (Nat.le_refl _) ⟨rfl, rfl⟩)
