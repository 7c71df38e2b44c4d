def FM_constant_53 (t0 : Int32) (s : xMs) : Option (xo (Option Nat) xMs) := if t0 ≤ 0 then ((FM_wordLength s).bind fun r196 => (FM_says r196 75 s).bind fun r197 => if r197 = true then ((FM_node 2 s).bind fun r199 => if r196 = 4 then (if r199.1 < r199.2.2.2.1.2.2.2.2.1 then (some (.inl ((some r199.1), (r199.2.1, (r199.2.2.1.1, (r199.2.2.1.2.1 + r196), r199.2.2.1.2.2), (r199.2.2.2.1.1, r199.2.2.2.1.2.1, r199.2.2.2.1.2.2.1, r199.2.2.2.1.2.2.2.1, r199.2.2.2.1.2.2.2.2.1, (va_up r199.2.2.2.1.2.2.2.2.2.1 r199.1 (nA (r199.2.2.2.1.2.2.2.2.2.1 r199.1) 1)), r199.2.2.2.1.2.2.2.2.2.2), r199.2.2.2.2)))) else none) else (if r199.1 < r199.2.2.2.1.2.2.2.2.1 then (some (.inl ((some r199.1), (r199.2.1, (r199.2.2.1.1, (r199.2.2.1.2.1 + r196), r199.2.2.1.2.2), (r199.2.2.2.1.1, r199.2.2.2.1.2.1, r199.2.2.2.1.2.2.1, r199.2.2.2.1.2.2.2.1, r199.2.2.2.1.2.2.2.2.1, (va_up r199.2.2.2.1.2.2.2.2.2.1 r199.1 (nA (r199.2.2.2.1.2.2.2.2.2.1 r199.1) 0)), r199.2.2.2.1.2.2.2.2.2.2), r199.2.2.2.2)))) else none)) else ((FM_says r196 76 s).bind fun r205 => if r205 = true then ((FM_node 2 s).bind fun r207 => if r196 = 4 then (if r207.1 < r207.2.2.2.1.2.2.2.2.1 then (some (.inl ((some r207.1), (r207.2.1, (r207.2.2.1.1, (r207.2.2.1.2.1 + r196), r207.2.2.1.2.2), (r207.2.2.2.1.1, r207.2.2.2.1.2.1, r207.2.2.2.1.2.2.1, r207.2.2.2.1.2.2.2.1, r207.2.2.2.1.2.2.2.2.1, (va_up r207.2.2.2.1.2.2.2.2.2.1 r207.1 (nA (r207.2.2.2.1.2.2.2.2.2.1 r207.1) 1)), r207.2.2.2.1.2.2.2.2.2.2), r207.2.2.2.2)))) else none) else (if r207.1 < r207.2.2.2.1.2.2.2.2.1 then (some (.inl ((some r207.1), (r207.2.1, (r207.2.2.1.1, (r207.2.2.1.2.1 + r196), r207.2.2.1.2.2), (r207.2.2.2.1.1, r207.2.2.2.1.2.1, r207.2.2.2.1.2.2.1, r207.2.2.2.1.2.2.2.1, r207.2.2.2.1.2.2.2.2.1, (va_up r207.2.2.2.1.2.2.2.2.2.1 r207.1 (nA (r207.2.2.2.1.2.2.2.2.2.1 r207.1) 0)), r207.2.2.2.1.2.2.2.2.2.2), r207.2.2.2.2)))) else none)) else (some (.inl (none, s))))) else (if 0 ≤ (t0 - 1) ∧ (t0 - 1) < nI 8 then ((xk_err[((t0 - 1)).toNatClampNeg]?).bind fun k214 => if k214 < xk_N then ((FM_node 3 (s.1, (s.2.1.1, (s.2.1.2.1 + (nI (xk_by k214).length)), s.2.1.2.2), s.2.2)).bind fun r216 => if r216.1 < r216.2.2.2.1.2.2.2.2.1 then (some (.inl ((some r216.1), (r216.2.1, r216.2.2.1, (r216.2.2.2.1.1, r216.2.2.2.1.2.1, r216.2.2.2.1.2.2.1, r216.2.2.2.1.2.2.2.1, r216.2.2.2.1.2.2.2.2.1, (va_up r216.2.2.2.1.2.2.2.2.2.1 r216.1 (nA (r216.2.2.2.1.2.2.2.2.2.1 r216.1) t0)), r216.2.2.2.1.2.2.2.2.2.2), r216.2.2.2.2)))) else none) else none) else none)
/-- FormulaShaperModel.constant -/
def FM_constant  (s : xMs) : Option (xo (Option Nat) xMs) := (FM_peek s).bind fun r191 => if (sM_digit r191) = 0 then (if r191 = 34 then (xo_b (FM_quoted s) fun r221 => some (.inl ((some r221.1), r221.2))) else (if r191 = 35 then ((FM_errorHere s).bind fun r220 => FM_constant_53 r220 s) else (FM_constant_53 0 s))) else ((FM_node 0 s).bind fun r224 => xo_b (FM_digits r224.2) fun r227 => if r224.1 < r227.2.2.2.1.2.2.2.2.1 then (some (.inl ((some r224.1), (r227.2.1, r227.2.2.1, (r227.2.2.2.1.1, r227.2.2.2.1.2.1, r227.2.2.2.1.2.2.1, r227.2.2.2.1.2.2.2.1, r227.2.2.2.1.2.2.2.2.1, (va_up r227.2.2.2.1.2.2.2.2.2.1 r224.1 (nNumber (r227.2.2.2.1.2.2.2.2.2.1 r224.1) r227.1)), r227.2.2.2.1.2.2.2.2.2.2), r227.2.2.2.2)))) else none)
set_option maxRecDepth 20000 in
theorem CM_constant_53 {w : xw_G} {h : xw_H} (hb : xMb h)  {t0 : Int32} {s : xMs} {out : (xo (Option Nat) xMs)} {h0 : xw_H} {m0 n0 : Nat} (hm : m0 ≤ s.2.2.1.2.2.2.2.2.2.1 ∧ n0 ≤ s.2.2.1.2.2.2.2.2.2.2) (hF : FM_constant_53 t0 s = some out) : xw_Y w mM_constant 8 147 (xo_P (fun x => some (xw_rf x)) (fun s => mV s h) out) h0 m0 n0 s.2.2.1.2.2.2.2.2.2.1 s.2.2.1.2.2.2.2.2.2.2 (xo_s out).2.2.1.2.2.2.2.2.2.1 (xo_s out).2.2.1.2.2.2.2.2.2.2 53 [some (.ref 2000), none, none, none, none] [.int t0] (mV s h) := by
  unfold FM_constant_53 at hF
  refine xy_r (xw_istore_n dM_constant_53 (Nat.le_of_ble_eq_true rfl)) ?_
  refine xy_r (xw_Ln (L' := [some (.ref 2000), none, some (.int t0), none, none]) rfl) ?_
  refine xy_r (xw_iload_n dM_constant_54 rfl) ?_
  refine xy_br (xw_if_le 91 dM_constant_55 (by decide)) (fun c195 => ?_) (fun c195 => ?_)
  · replace hF := xg_t c195 hF
    refine xy_r (xw_aload_n dM_constant_91 rfl) ?_
    obtain ⟨r196, er196, hF⟩ := xg_b hF
    refine xy_q (fun hq => xg_V1 (k1 := _) (n1 := _) (CM_wordLength er196) rfl rfl rfl dM_constant_92 (kM_317 _) ⟨Nat.le_of_ble_eq_true rfl, Nat.le_of_ble_eq_true rfl⟩ rfl rfl rfl rfl (Nat.le_of_ble_eq_true rfl) (Nat.le_refl _) (Nat.le_refl _) (Nat.sub_le_sub_right hq.1 _) (Nat.sub_le_sub_right hq.2 _)) ?_
    refine xy_r (xw_istore_n dM_constant_95 (Nat.le_of_ble_eq_true rfl)) ?_
    refine xy_r (xw_Ln (L' := [some (.ref 2000), none, some (.int t0), some (.int r196), none]) rfl) ?_
    refine xy_r (xw_aload_n dM_constant_96 rfl) ?_
    refine xy_r (xw_iload_n dM_constant_97 rfl) ?_
    refine xy_r (xw_ldcSw 75 dM_constant_98 (List.mem_of_getElem? (i := 75) rfl) (by decide)) ?_
    obtain ⟨r197, er197, hF⟩ := xg_b hF
    refine xy_q (fun hq => xg_V1 (k1 := _) (n1 := _) (CM_says er197) rfl rfl rfl dM_constant_101 (kM_326 _) ⟨Nat.le_of_ble_eq_true rfl, Nat.le_of_ble_eq_true rfl⟩ rfl rfl rfl rfl (Nat.le_of_ble_eq_true rfl) (Nat.le_refl _) (Nat.le_refl _) (Nat.sub_le_sub_right hq.1 _) (Nat.sub_le_sub_right hq.2 _)) ?_
    refine xy_br (xw_if_neB 120 dM_constant_104 (by decide)) (fun c198 => ?_) (fun c198 => ?_)
    · replace hF := xg_t c198 hF
      refine xy_r (xw_aload_n dM_constant_120 rfl) ?_
      refine xy_r (xw_iconst (2) dM_constant_121 (by decide)) ?_
      obtain ⟨r199, er199, hF⟩ := xg_b hF
      have hm200 : m0 ≤ r199.2.2.2.1.2.2.2.2.2.2.1 ∧ n0 ≤ r199.2.2.2.1.2.2.2.2.2.2.2 := xy_le hm (show s.2.2.1.2.2.2.2.2.2.1 ≤ r199.2.2.2.1.2.2.2.2.2.2.1 ∧ s.2.2.1.2.2.2.2.2.2.2 ≤ r199.2.2.2.1.2.2.2.2.2.2.2 from (CM_node (w := w) (h := h) hb (s := s) er199).1)
      refine xy_V1 (nl := 4) (sm := s.2.2.1.2.2.2.2.2.2.1) (sn := s.2.2.1.2.2.2.2.2.2.2) (tm := r199.2.2.2.1.2.2.2.2.2.2.1) (tn := r199.2.2.2.1.2.2.2.2.2.2.2) (CM_node hb (s := s) er199) rfl rfl hm (fun _ => rfl) (fun _ => rfl) (fun _ => rfl) (fun _ => dM_constant_122) (fun _ R => kM_253 R) (fun _ => rfl) ⟨(Nat.le_of_ble_eq_true rfl), (Nat.le_of_ble_eq_true rfl)⟩ rfl rfl rfl (fun _ => rfl) (Nat.le_of_ble_eq_true rfl) ?_
      refine xy_r (xw_astore dM_constant_125 (Nat.le_of_ble_eq_true rfl)) ?_
      refine xy_r (xw_Ln (L' := [some (.ref 2000), none, some (.int t0), some (.int r196), some (.ref (xn r199.1))]) rfl) ?_
      refine xy_r (xw_aload dM_constant_127 rfl) ?_
      refine xy_r (xw_iload_n dM_constant_129 rfl) ?_
      refine xy_r (xw_iconst (4) dM_constant_130 (by decide)) ?_
      refine xy_brn (xw_icmp_ne 138 dM_constant_131 (by decide)) (fun c202 => ?_) (fun c202 => ?_)
      · replace hF := xg_f c202 hF
        refine xy_r (xw_iconst (0) dM_constant_138 (by decide)) ?_
        obtain ⟨g203, hF⟩ := xg_g hF
        refine xy_r (xg_put dM_constant_139 fM_195 (mV_n g203) (xn_le _) (Nat.le_of_ble_eq_true rfl) (fun _ => rfl) (fun _ => rfl) (mV_e (s' := (r199.2.1, r199.2.2.1, (r199.2.2.2.1.1, r199.2.2.2.1.2.1, r199.2.2.2.1.2.2.1, r199.2.2.2.1.2.2.2.1, r199.2.2.2.1.2.2.2.2.1, (va_up r199.2.2.2.1.2.2.2.2.2.1 r199.1 (nA (r199.2.2.2.1.2.2.2.2.2.1 r199.1) 0)), r199.2.2.2.1.2.2.2.2.2.2), r199.2.2.2.2)) (mV_pn (q := (nA (r199.2.2.2.1.2.2.2.2.2.1 r199.1) 0)) g203) rfl)) ?_
        refine xy_r (xw_aload_n dM_constant_142 rfl) ?_
        refine xy_r (xw_dup_r dM_constant_143) ?_
        refine xy_r (xw_get dM_constant_144 fM_221 rfl rfl) ?_
        refine xy_r (xw_iload_n dM_constant_147 rfl) ?_
        refine xy_r (xw_iadd dM_constant_148) ?_
        refine xy_r (xg_put dM_constant_149 fM_221 rfl (by decide) (Nat.le_of_ble_eq_true rfl) (fun _ => rfl) (fun _ => rfl) (mV_o (s' := (r199.2.1, (r199.2.2.1.1, (r199.2.2.1.2.1 + r196), r199.2.2.1.2.2), (r199.2.2.2.1.1, r199.2.2.2.1.2.1, r199.2.2.2.1.2.2.1, r199.2.2.2.1.2.2.2.1, r199.2.2.2.1.2.2.2.2.1, (va_up r199.2.2.2.1.2.2.2.2.2.1 r199.1 (nA (r199.2.2.2.1.2.2.2.2.2.1 r199.1) 0)), r199.2.2.2.1.2.2.2.2.2.2), r199.2.2.2.2)) rfl)) ?_
        refine xy_r (xw_aload dM_constant_152 rfl) ?_
        obtain rfl := Option.some.inj hF
        exact xy_end (xw_areturn dM_constant_154 rfl (Or.inl ⟨_, rfl⟩) (Nat.le_refl _) (Nat.le_refl _) ⟨rfl, rfl⟩)
      · replace hF := xg_t c202 hF
        refine xy_r (xw_iconst (1) dM_constant_134 (by decide)) ?_
        refine xy_r (xw_goto 139 dM_constant_135 (by decide)) ?_
        obtain ⟨g204, hF⟩ := xg_g hF
        refine xy_r (xg_put dM_constant_139 fM_195 (mV_n g204) (xn_le _) (Nat.le_of_ble_eq_true rfl) (fun _ => rfl) (fun _ => rfl) (mV_e (s' := (r199.2.1, r199.2.2.1, (r199.2.2.2.1.1, r199.2.2.2.1.2.1, r199.2.2.2.1.2.2.1, r199.2.2.2.1.2.2.2.1, r199.2.2.2.1.2.2.2.2.1, (va_up r199.2.2.2.1.2.2.2.2.2.1 r199.1 (nA (r199.2.2.2.1.2.2.2.2.2.1 r199.1) 1)), r199.2.2.2.1.2.2.2.2.2.2), r199.2.2.2.2)) (mV_pn (q := (nA (r199.2.2.2.1.2.2.2.2.2.1 r199.1) 1)) g204) rfl)) ?_
        refine xy_r (xw_aload_n dM_constant_142 rfl) ?_
        refine xy_r (xw_dup_r dM_constant_143) ?_
        refine xy_r (xw_get dM_constant_144 fM_221 rfl rfl) ?_
        refine xy_r (xw_iload_n dM_constant_147 rfl) ?_
        refine xy_r (xw_iadd dM_constant_148) ?_
        refine xy_r (xg_put dM_constant_149 fM_221 rfl (by decide) (Nat.le_of_ble_eq_true rfl) (fun _ => rfl) (fun _ => rfl) (mV_o (s' := (r199.2.1, (r199.2.2.1.1, (r199.2.2.1.2.1 + r196), r199.2.2.1.2.2), (r199.2.2.2.1.1, r199.2.2.2.1.2.1, r199.2.2.2.1.2.2.1, r199.2.2.2.1.2.2.2.1, r199.2.2.2.1.2.2.2.2.1, (va_up r199.2.2.2.1.2.2.2.2.2.1 r199.1 (nA (r199.2.2.2.1.2.2.2.2.2.1 r199.1) 1)), r199.2.2.2.1.2.2.2.2.2.2), r199.2.2.2.2)) rfl)) ?_
        refine xy_r (xw_aload dM_constant_152 rfl) ?_
        obtain rfl := Option.some.inj hF
        exact xy_end (xw_areturn dM_constant_154 rfl (Or.inl ⟨_, rfl⟩) (Nat.le_refl _) (Nat.le_refl _) ⟨rfl, rfl⟩)
    · replace hF := xg_f c198 hF
      refine xy_r (xw_aload_n dM_constant_107 rfl) ?_
      refine xy_r (xw_iload_n dM_constant_108 rfl) ?_
      refine xy_r (xw_ldcSw 76 dM_constant_109 (List.mem_of_getElem? (i := 76) rfl) (by decide)) ?_
      obtain ⟨r205, er205, hF⟩ := xg_b hF
      refine xy_q (fun hq => xg_V1 (k1 := _) (n1 := _) (CM_says er205) rfl rfl rfl dM_constant_112 (kM_326 _) ⟨Nat.le_of_ble_eq_true rfl, Nat.le_of_ble_eq_true rfl⟩ rfl rfl rfl rfl (Nat.le_of_ble_eq_true rfl) (Nat.le_refl _) (Nat.le_refl _) (Nat.sub_le_sub_right hq.1 _) (Nat.sub_le_sub_right hq.2 _)) ?_
      refine xy_br (xw_if_neB 120 dM_constant_115 (by decide)) (fun c206 => ?_) (fun c206 => ?_)
      · replace hF := xg_t c206 hF
        refine xy_r (xw_aload_n dM_constant_120 rfl) ?_
        refine xy_r (xw_iconst (2) dM_constant_121 (by decide)) ?_
        obtain ⟨r207, er207, hF⟩ := xg_b hF
        have hm208 : m0 ≤ r207.2.2.2.1.2.2.2.2.2.2.1 ∧ n0 ≤ r207.2.2.2.1.2.2.2.2.2.2.2 := xy_le hm (show s.2.2.1.2.2.2.2.2.2.1 ≤ r207.2.2.2.1.2.2.2.2.2.2.1 ∧ s.2.2.1.2.2.2.2.2.2.2 ≤ r207.2.2.2.1.2.2.2.2.2.2.2 from (CM_node (w := w) (h := h) hb (s := s) er207).1)
        refine xy_V1 (nl := 4) (sm := s.2.2.1.2.2.2.2.2.2.1) (sn := s.2.2.1.2.2.2.2.2.2.2) (tm := r207.2.2.2.1.2.2.2.2.2.2.1) (tn := r207.2.2.2.1.2.2.2.2.2.2.2) (CM_node hb (s := s) er207) rfl rfl hm (fun _ => rfl) (fun _ => rfl) (fun _ => rfl) (fun _ => dM_constant_122) (fun _ R => kM_253 R) (fun _ => rfl) ⟨(Nat.le_of_ble_eq_true rfl), (Nat.le_of_ble_eq_true rfl)⟩ rfl rfl rfl (fun _ => rfl) (Nat.le_of_ble_eq_true rfl) ?_
        refine xy_r (xw_astore dM_constant_125 (Nat.le_of_ble_eq_true rfl)) ?_
        refine xy_r (xw_Ln (L' := [some (.ref 2000), none, some (.int t0), some (.int r196), some (.ref (xn r207.1))]) rfl) ?_
        refine xy_r (xw_aload dM_constant_127 rfl) ?_
        refine xy_r (xw_iload_n dM_constant_129 rfl) ?_
        refine xy_r (xw_iconst (4) dM_constant_130 (by decide)) ?_
        refine xy_brn (xw_icmp_ne 138 dM_constant_131 (by decide)) (fun c210 => ?_) (fun c210 => ?_)
        · replace hF := xg_f c210 hF
          refine xy_r (xw_iconst (0) dM_constant_138 (by decide)) ?_
          obtain ⟨g211, hF⟩ := xg_g hF
          refine xy_r (xg_put dM_constant_139 fM_195 (mV_n g211) (xn_le _) (Nat.le_of_ble_eq_true rfl) (fun _ => rfl) (fun _ => rfl) (mV_e (s' := (r207.2.1, r207.2.2.1, (r207.2.2.2.1.1, r207.2.2.2.1.2.1, r207.2.2.2.1.2.2.1, r207.2.2.2.1.2.2.2.1, r207.2.2.2.1.2.2.2.2.1, (va_up r207.2.2.2.1.2.2.2.2.2.1 r207.1 (nA (r207.2.2.2.1.2.2.2.2.2.1 r207.1) 0)), r207.2.2.2.1.2.2.2.2.2.2), r207.2.2.2.2)) (mV_pn (q := (nA (r207.2.2.2.1.2.2.2.2.2.1 r207.1) 0)) g211) rfl)) ?_
          refine xy_r (xw_aload_n dM_constant_142 rfl) ?_
          refine xy_r (xw_dup_r dM_constant_143) ?_
          refine xy_r (xw_get dM_constant_144 fM_221 rfl rfl) ?_
          refine xy_r (xw_iload_n dM_constant_147 rfl) ?_
          refine xy_r (xw_iadd dM_constant_148) ?_
          refine xy_r (xg_put dM_constant_149 fM_221 rfl (by decide) (Nat.le_of_ble_eq_true rfl) (fun _ => rfl) (fun _ => rfl) (mV_o (s' := (r207.2.1, (r207.2.2.1.1, (r207.2.2.1.2.1 + r196), r207.2.2.1.2.2), (r207.2.2.2.1.1, r207.2.2.2.1.2.1, r207.2.2.2.1.2.2.1, r207.2.2.2.1.2.2.2.1, r207.2.2.2.1.2.2.2.2.1, (va_up r207.2.2.2.1.2.2.2.2.2.1 r207.1 (nA (r207.2.2.2.1.2.2.2.2.2.1 r207.1) 0)), r207.2.2.2.1.2.2.2.2.2.2), r207.2.2.2.2)) rfl)) ?_
          refine xy_r (xw_aload dM_constant_152 rfl) ?_
          obtain rfl := Option.some.inj hF
          exact xy_end (xw_areturn dM_constant_154 rfl (Or.inl ⟨_, rfl⟩) (Nat.le_refl _) (Nat.le_refl _) ⟨rfl, rfl⟩)
        · replace hF := xg_t c210 hF
          refine xy_r (xw_iconst (1) dM_constant_134 (by decide)) ?_
          refine xy_r (xw_goto 139 dM_constant_135 (by decide)) ?_
          obtain ⟨g212, hF⟩ := xg_g hF
          refine xy_r (xg_put dM_constant_139 fM_195 (mV_n g212) (xn_le _) (Nat.le_of_ble_eq_true rfl) (fun _ => rfl) (fun _ => rfl) (mV_e (s' := (r207.2.1, r207.2.2.1, (r207.2.2.2.1.1, r207.2.2.2.1.2.1, r207.2.2.2.1.2.2.1, r207.2.2.2.1.2.2.2.1, r207.2.2.2.1.2.2.2.2.1, (va_up r207.2.2.2.1.2.2.2.2.2.1 r207.1 (nA (r207.2.2.2.1.2.2.2.2.2.1 r207.1) 1)), r207.2.2.2.1.2.2.2.2.2.2), r207.2.2.2.2)) (mV_pn (q := (nA (r207.2.2.2.1.2.2.2.2.2.1 r207.1) 1)) g212) rfl)) ?_
          refine xy_r (xw_aload_n dM_constant_142 rfl) ?_
          refine xy_r (xw_dup_r dM_constant_143) ?_
          refine xy_r (xw_get dM_constant_144 fM_221 rfl rfl) ?_
          refine xy_r (xw_iload_n dM_constant_147 rfl) ?_
          refine xy_r (xw_iadd dM_constant_148) ?_
          refine xy_r (xg_put dM_constant_149 fM_221 rfl (by decide) (Nat.le_of_ble_eq_true rfl) (fun _ => rfl) (fun _ => rfl) (mV_o (s' := (r207.2.1, (r207.2.2.1.1, (r207.2.2.1.2.1 + r196), r207.2.2.1.2.2), (r207.2.2.2.1.1, r207.2.2.2.1.2.1, r207.2.2.2.1.2.2.1, r207.2.2.2.1.2.2.2.1, r207.2.2.2.1.2.2.2.2.1, (va_up r207.2.2.2.1.2.2.2.2.2.1 r207.1 (nA (r207.2.2.2.1.2.2.2.2.2.1 r207.1) 1)), r207.2.2.2.1.2.2.2.2.2.2), r207.2.2.2.2)) rfl)) ?_
          refine xy_r (xw_aload dM_constant_152 rfl) ?_
          obtain rfl := Option.some.inj hF
          exact xy_end (xw_areturn dM_constant_154 rfl (Or.inl ⟨_, rfl⟩) (Nat.le_refl _) (Nat.le_refl _) ⟨rfl, rfl⟩)
      · replace hF := xg_f c206 hF
        refine xy_r (xw_null dM_constant_118) ?_
        obtain rfl := Option.some.inj hF
        exact xy_end (xw_areturnN dM_constant_119 rfl (Or.inl ⟨_, rfl⟩) (Nat.le_refl _) (Nat.le_refl _) ⟨rfl, rfl⟩)
  · replace hF := xg_f c195 hF
    refine xy_r (xw_aload_n dM_constant_58 rfl) ?_
    refine xy_r (xw_dup_r dM_constant_59) ?_
    refine xy_r (xw_get dM_constant_60 fM_221 rfl rfl) ?_
    refine xy_r (xw_aload_n dM_constant_63 rfl) ?_
    refine xy_r (xw_get dM_constant_64 fM_47 rfl rfl) ?_
    refine xy_r (xw_iload_n dM_constant_67 rfl) ?_
    refine xy_r (xw_iconst (1) dM_constant_68 (by decide)) ?_
    refine xy_r (xw_isub dM_constant_69) ?_
    obtain ⟨g213, hF⟩ := xg_g hF
    obtain ⟨k214, ek214, hF⟩ := xg_b hF
    refine xy_r (xg_saload g213 (by decide) ek214 dM_constant_70 rfl) ?_
    obtain ⟨g215, hF⟩ := xg_g hF
    refine xy_q (fun hq => xg_K1 (k1 := _) (n1 := _) (cQ_length w g215) rfl rfl rfl dM_constant_71 (kM_171 _) ⟨Nat.le_of_ble_eq_true rfl, Nat.le_of_ble_eq_true rfl⟩ rfl rfl (xk_mO g215) (xk_lt9 g215) (Nat.le_of_ble_eq_true rfl) (Nat.le_refl _) (Nat.le_refl _) (Nat.sub_le_sub_right hq.1 _) (Nat.sub_le_sub_right hq.2 _)) ?_
    refine xy_r (xw_iadd dM_constant_74) ?_
    refine xy_r (xg_put dM_constant_75 fM_221 rfl (by decide) (Nat.le_of_ble_eq_true rfl) (fun _ => rfl) (fun _ => rfl) (mV_o (s' := (s.1, (s.2.1.1, (s.2.1.2.1 + (nI (xk_by k214).length)), s.2.1.2.2), s.2.2)) rfl)) ?_
    refine xy_r (xw_aload_n dM_constant_78 rfl) ?_
    refine xy_r (xw_iconst (3) dM_constant_79 (by decide)) ?_
    obtain ⟨r216, er216, hF⟩ := xg_b hF
    have hm217 : m0 ≤ r216.2.2.2.1.2.2.2.2.2.2.1 ∧ n0 ≤ r216.2.2.2.1.2.2.2.2.2.2.2 := xy_le hm (show s.2.2.1.2.2.2.2.2.2.1 ≤ r216.2.2.2.1.2.2.2.2.2.2.1 ∧ s.2.2.1.2.2.2.2.2.2.2 ≤ r216.2.2.2.1.2.2.2.2.2.2.2 from (CM_node (w := w) (h := h) hb (s := (s.1, (s.2.1.1, (s.2.1.2.1 + (nI (xk_by k214).length)), s.2.1.2.2), s.2.2)) er216).1)
    refine xy_V1 (nl := 4) (sm := s.2.2.1.2.2.2.2.2.2.1) (sn := s.2.2.1.2.2.2.2.2.2.2) (tm := r216.2.2.2.1.2.2.2.2.2.2.1) (tn := r216.2.2.2.1.2.2.2.2.2.2.2) (CM_node hb (s := (s.1, (s.2.1.1, (s.2.1.2.1 + (nI (xk_by k214).length)), s.2.1.2.2), s.2.2)) er216) rfl rfl hm (fun _ => rfl) (fun _ => rfl) (fun _ => rfl) (fun _ => dM_constant_80) (fun _ R => kM_253 R) (fun _ => rfl) ⟨(Nat.le_of_ble_eq_true rfl), (Nat.le_of_ble_eq_true rfl)⟩ rfl rfl rfl (fun _ => rfl) (Nat.le_of_ble_eq_true rfl) ?_
    refine xy_r (xw_astore_n dM_constant_83 (Nat.le_of_ble_eq_true rfl)) ?_
    refine xy_r (xw_Ln (L' := [some (.ref 2000), none, some (.int t0), some (.ref (xn r216.1)), none]) rfl) ?_
    refine xy_r (xw_aload_n dM_constant_84 rfl) ?_
    refine xy_r (xw_iload_n dM_constant_85 rfl) ?_
    obtain ⟨g219, hF⟩ := xg_g hF
    refine xy_r (xg_put dM_constant_86 fM_195 (mV_n g219) (xn_le _) (Nat.le_of_ble_eq_true rfl) (fun _ => rfl) (fun _ => rfl) (mV_e (s' := (r216.2.1, r216.2.2.1, (r216.2.2.2.1.1, r216.2.2.2.1.2.1, r216.2.2.2.1.2.2.1, r216.2.2.2.1.2.2.2.1, r216.2.2.2.1.2.2.2.2.1, (va_up r216.2.2.2.1.2.2.2.2.2.1 r216.1 (nA (r216.2.2.2.1.2.2.2.2.2.1 r216.1) t0)), r216.2.2.2.1.2.2.2.2.2.2), r216.2.2.2.2)) (mV_pn (q := (nA (r216.2.2.2.1.2.2.2.2.2.1 r216.1) t0)) g219) rfl)) ?_
    refine xy_r (xw_aload_n dM_constant_89 rfl) ?_
    obtain rfl := Option.some.inj hF
    exact xy_end (xw_areturn dM_constant_90 rfl (Or.inl ⟨_, rfl⟩) (Nat.le_refl _) (Nat.le_refl _) ⟨rfl, rfl⟩)
set_option maxRecDepth 20000 in
theorem CM_constant {w : xw_G} {h : xw_H} (hb : xMb h)  {s : xMs} {out : (xo (Option Nat) xMs)} (hF : FM_constant  s = some out) : (s.2.2.1.2.2.2.2.2.2.1 ≤ (xo_s out).2.2.1.2.2.2.2.2.2.1 ∧ s.2.2.1.2.2.2.2.2.2.2 ≤ (xo_s out).2.2.1.2.2.2.2.2.2.2) ∧ xw_C w (mM_constant { frames := 8, cells := (xo_s out).2.2.1.2.2.2.2.2.2.1 - s.2.2.1.2.2.2.2.2.2.1, slots := (xo_s out).2.2.1.2.2.2.2.2.2.2 - s.2.2.1.2.2.2.2.2.2.2, locals := 147 }) (xo_P (fun x => some (xw_rf x)) (fun s => mV s h) out) [.ref 2000] (mV s h) := by
  unfold FM_constant at hF
  refine xy_enter (L := [some (.ref 2000), none, none, none, none]) (fun _ => rfl) (fun _ => rfl) (fun _ => (show plainName "FormulaShaperModel" = true by decide +kernel)) (fun _ => (Nat.le_of_ble_eq_true rfl)) (fun _ => rfl) ?_
  have hm : s.2.2.1.2.2.2.2.2.2.1 ≤ s.2.2.1.2.2.2.2.2.2.1 ∧ s.2.2.1.2.2.2.2.2.2.2 ≤ s.2.2.1.2.2.2.2.2.2.2 := ⟨Nat.le_refl _, Nat.le_refl _⟩
  refine xy_r (xw_aload_n dM_constant_0 rfl) ?_
  obtain ⟨r191, er191, hF⟩ := xg_b hF
  refine xy_q (fun hq => xg_V1 (k1 := _) (n1 := _) (CM_peek er191) rfl rfl rfl dM_constant_1 (kM_230 _) ⟨Nat.le_of_ble_eq_true rfl, Nat.le_of_ble_eq_true rfl⟩ rfl rfl rfl rfl (Nat.le_of_ble_eq_true rfl) (Nat.le_refl _) (Nat.le_refl _) (Nat.sub_le_sub_right hq.1 _) (Nat.sub_le_sub_right hq.2 _)) ?_
  refine xy_r (xw_istore_n dM_constant_4 (Nat.le_of_ble_eq_true rfl)) ?_
  refine xy_r (xw_Ln (L' := [some (.ref 2000), some (.int r191), none, none, none]) rfl) ?_
  refine xy_r (xw_iload_n dM_constant_5 rfl) ?_
  refine xy_q (fun hq => xg_S1 (k1 := _) (n1 := _) (cM_digit w) rfl rfl rfl dM_constant_6 (kM_295 _) ⟨Nat.le_of_ble_eq_true rfl, Nat.le_of_ble_eq_true rfl⟩ rfl rfl (Nat.le_of_ble_eq_true rfl) (Nat.le_refl _) (Nat.le_refl _) (Nat.sub_le_sub_right hq.1 _) (Nat.sub_le_sub_right hq.2 _)) ?_
  refine xy_br (xw_if_eq 28 dM_constant_9 (by decide)) (fun c192 => ?_) (fun c192 => ?_)
  · replace hF := xg_t c192 hF
    refine xy_r (xw_iload_n dM_constant_28 rfl) ?_
    refine xy_r (xw_bipush (34) dM_constant_29 (by decide)) ?_
    refine xy_brn (xw_icmp_ne 39 dM_constant_31 (by decide)) (fun c193 => ?_) (fun c193 => ?_)
    · replace hF := xg_f c193 hF
      refine xy_r (xw_iload_n dM_constant_39 rfl) ?_
      refine xy_r (xw_bipush (35) dM_constant_40 (by decide)) ?_
      refine xy_brn (xw_icmp_ne 52 dM_constant_42 (by decide)) (fun c194 => ?_) (fun c194 => ?_)
      · replace hF := xg_f c194 hF
        refine xy_r (xw_iconst (0) dM_constant_52 (by decide)) ?_
        refine xy_r (xw_drop (L' := [some (.ref 2000), none, none, none, none]) ⟨rfl, trivial⟩) ?_
        exact CM_constant_53 hb (s := s) hm hF
      · replace hF := xg_t c194 hF
        refine xy_r (xw_aload_n dM_constant_45 rfl) ?_
        obtain ⟨r220, er220, hF⟩ := xg_b hF
        refine xy_q (fun hq => xg_V1 (k1 := _) (n1 := _) (CM_errorHere er220) rfl rfl rfl dM_constant_46 (kM_353 _) ⟨Nat.le_of_ble_eq_true rfl, Nat.le_of_ble_eq_true rfl⟩ rfl rfl rfl rfl (Nat.le_of_ble_eq_true rfl) (Nat.le_refl _) (Nat.le_refl _) (Nat.sub_le_sub_right hq.1 _) (Nat.sub_le_sub_right hq.2 _)) ?_
        refine xy_r (xw_goto 53 dM_constant_49 (by decide)) ?_
        refine xy_r (xw_drop (L' := [some (.ref 2000), none, none, none, none]) ⟨rfl, trivial⟩) ?_
        exact CM_constant_53 hb (s := s) hm hF
    · replace hF := xg_t c193 hF
      refine xy_r (xw_aload_n dM_constant_34 rfl) ?_
      rcases xg_o hF with ⟨r221, er221, hF⟩ | ⟨r221, er221, hF⟩
      · have hm222 : s.2.2.1.2.2.2.2.2.2.1 ≤ r221.2.2.2.1.2.2.2.2.2.2.1 ∧ s.2.2.1.2.2.2.2.2.2.2 ≤ r221.2.2.2.1.2.2.2.2.2.2.2 := xy_le hm (show s.2.2.1.2.2.2.2.2.2.1 ≤ r221.2.2.2.1.2.2.2.2.2.2.1 ∧ s.2.2.1.2.2.2.2.2.2.2 ≤ r221.2.2.2.1.2.2.2.2.2.2.2 from (CM_quoted (w := w) (h := h) hb (s := s) er221).1)
        refine xy_V1 (nl := 4) (sm := s.2.2.1.2.2.2.2.2.2.1) (sn := s.2.2.1.2.2.2.2.2.2.2) (tm := r221.2.2.2.1.2.2.2.2.2.2.1) (tn := r221.2.2.2.1.2.2.2.2.2.2.2) (CM_quoted hb (s := s) er221) rfl rfl hm (fun _ => rfl) (fun _ => rfl) (fun _ => rfl) (fun _ => dM_constant_35) (fun _ R => kM_350 R) (fun _ => rfl) ⟨(Nat.le_of_ble_eq_true rfl), (Nat.le_of_ble_eq_true rfl)⟩ rfl rfl rfl (fun _ => rfl) (Nat.le_of_ble_eq_true rfl) ?_
        obtain rfl := Option.some.inj hF
        exact xy_end (xw_areturn dM_constant_38 rfl (Or.inl ⟨_, rfl⟩) (Nat.le_refl _) (Nat.le_refl _) ⟨rfl, rfl⟩)
      · subst hF
        exact xy_Vt (nl := 4) (sm := s.2.2.1.2.2.2.2.2.2.1) (sn := s.2.2.1.2.2.2.2.2.2.2) (tm := r221.2.2.2.1.2.2.2.2.2.2.1) (tn := r221.2.2.2.1.2.2.2.2.2.2.2) (CM_quoted hb (s := s) er221) rfl rfl hm (fun _ => rfl) (fun _ => rfl) (fun _ => rfl) (fun _ => dM_constant_35) (fun _ R => kM_350 R) (fun _ => rfl) ⟨(Nat.le_of_ble_eq_true rfl), (Nat.le_of_ble_eq_true rfl)⟩ rfl rfl rfl (fun _ => rfl) (Nat.le_of_ble_eq_true rfl) ⟨rfl, rfl⟩
  · replace hF := xg_f c192 hF
    refine xy_r (xw_aload_n dM_constant_12 rfl) ?_
    refine xy_r (xw_iconst (0) dM_constant_13 (by decide)) ?_
    obtain ⟨r224, er224, hF⟩ := xg_b hF
    have hm225 : s.2.2.1.2.2.2.2.2.2.1 ≤ r224.2.2.2.1.2.2.2.2.2.2.1 ∧ s.2.2.1.2.2.2.2.2.2.2 ≤ r224.2.2.2.1.2.2.2.2.2.2.2 := xy_le hm (show s.2.2.1.2.2.2.2.2.2.1 ≤ r224.2.2.2.1.2.2.2.2.2.2.1 ∧ s.2.2.1.2.2.2.2.2.2.2 ≤ r224.2.2.2.1.2.2.2.2.2.2.2 from (CM_node (w := w) (h := h) hb (s := s) er224).1)
    refine xy_V1 (nl := 4) (sm := s.2.2.1.2.2.2.2.2.2.1) (sn := s.2.2.1.2.2.2.2.2.2.2) (tm := r224.2.2.2.1.2.2.2.2.2.2.1) (tn := r224.2.2.2.1.2.2.2.2.2.2.2) (CM_node hb (s := s) er224) rfl rfl hm (fun _ => rfl) (fun _ => rfl) (fun _ => rfl) (fun _ => dM_constant_14) (fun _ R => kM_253 R) (fun _ => rfl) ⟨(Nat.le_of_ble_eq_true rfl), (Nat.le_of_ble_eq_true rfl)⟩ rfl rfl rfl (fun _ => rfl) (Nat.le_of_ble_eq_true rfl) ?_
    refine xy_r (xw_astore_n dM_constant_17 (Nat.le_of_ble_eq_true rfl)) ?_
    refine xy_r (xw_Ln (L' := [some (.ref 2000), some (.int r191), some (.ref (xn r224.1)), none, none]) rfl) ?_
    refine xy_r (xw_aload_n dM_constant_18 rfl) ?_
    refine xy_r (xw_aload_n dM_constant_19 rfl) ?_
    rcases xg_o hF with ⟨r227, er227, hF⟩ | ⟨r227, er227, hF⟩
    · have hm228 : s.2.2.1.2.2.2.2.2.2.1 ≤ r227.2.2.2.1.2.2.2.2.2.2.1 ∧ s.2.2.1.2.2.2.2.2.2.2 ≤ r227.2.2.2.1.2.2.2.2.2.2.2 := xy_le hm225 (show r224.2.2.2.1.2.2.2.2.2.2.1 ≤ r227.2.2.2.1.2.2.2.2.2.2.1 ∧ r224.2.2.2.1.2.2.2.2.2.2.2 ≤ r227.2.2.2.1.2.2.2.2.2.2.2 from (CM_digits (w := w) (h := h) hb (s := r224.2) er227).1)
      refine xy_V1 (nl := 7) (sm := r224.2.2.2.1.2.2.2.2.2.2.1) (sn := r224.2.2.2.1.2.2.2.2.2.2.2) (tm := r227.2.2.2.1.2.2.2.2.2.2.1) (tn := r227.2.2.2.1.2.2.2.2.2.2.2) (CM_digits hb (s := r224.2) er227) rfl rfl hm225 (fun _ => rfl) (fun _ => rfl) (fun _ => rfl) (fun _ => dM_constant_20) (fun _ R => kM_346 R) (fun _ => rfl) ⟨(Nat.le_of_ble_eq_true rfl), (Nat.le_of_ble_eq_true rfl)⟩ rfl rfl rfl (fun _ => rfl) (Nat.le_of_ble_eq_true rfl) ?_
      obtain ⟨g230, hF⟩ := xg_g hF
      refine xy_r (xg_put dM_constant_23 fM_201 (mV_n g230) (xn_le _) (Nat.le_of_ble_eq_true rfl) (fun _ => rfl) (fun _ => rfl) (mV_e (s' := (r227.2.1, r227.2.2.1, (r227.2.2.2.1.1, r227.2.2.2.1.2.1, r227.2.2.2.1.2.2.1, r227.2.2.2.1.2.2.2.1, r227.2.2.2.1.2.2.2.2.1, (va_up r227.2.2.2.1.2.2.2.2.2.1 r224.1 (nNumber (r227.2.2.2.1.2.2.2.2.2.1 r224.1) r227.1)), r227.2.2.2.1.2.2.2.2.2.2), r227.2.2.2.2)) (mV_pn (q := (nNumber (r227.2.2.2.1.2.2.2.2.2.1 r224.1) r227.1)) g230) rfl)) ?_
      refine xy_r (xw_aload_n dM_constant_26 rfl) ?_
      obtain rfl := Option.some.inj hF
      exact xy_end (xw_areturn dM_constant_27 rfl (Or.inl ⟨_, rfl⟩) (Nat.le_refl _) (Nat.le_refl _) ⟨rfl, rfl⟩)
    · subst hF
      exact xy_Vt (nl := 7) (sm := r224.2.2.2.1.2.2.2.2.2.2.1) (sn := r224.2.2.2.1.2.2.2.2.2.2.2) (tm := r227.2.2.2.1.2.2.2.2.2.2.1) (tn := r227.2.2.2.1.2.2.2.2.2.2.2) (CM_digits hb (s := r224.2) er227) rfl rfl hm225 (fun _ => rfl) (fun _ => rfl) (fun _ => rfl) (fun _ => dM_constant_20) (fun _ R => kM_346 R) (fun _ => rfl) ⟨(Nat.le_of_ble_eq_true rfl), (Nat.le_of_ble_eq_true rfl)⟩ rfl rfl rfl (fun _ => rfl) (Nat.le_of_ble_eq_true rfl) ⟨rfl, rfl⟩
/-- FormulaShaperModel.corner -/
def FM_corner (x0 : Nat) (s : xMs) : Option xMs := if x0 < s.2.2.1.2.2.2.2.1 then (some (s.1, (s.2.1.1, s.2.1.2.2.2.2.1, s.2.1.2.2), (s.2.2.1.1, s.2.2.1.2.1, s.2.2.1.2.2.1, s.2.2.1.2.2.2.1, s.2.2.1.2.2.2.2.1, (va_up s.2.2.1.2.2.2.2.2.1 x0 (nCs (nRs (nCol (nRow (s.2.2.1.2.2.2.2.2.1 x0) s.2.1.2.2.2.2.2.2.2.1) s.2.1.2.2.2.2.2.2.2.2) s.2.1.2.2.2.2.2.1) s.2.1.2.2.2.2.2.2.1)), s.2.2.1.2.2.2.2.2.2), s.2.2.2)) else none
set_option maxRecDepth 20000 in
theorem CM_corner {w : xw_G} {h : xw_H} (hb : xMb h) {x0 : Nat} {s : xMs} {out : xMs} (hF : FM_corner x0 s = some out) : (s.2.2.1.2.2.2.2.2.2.1 ≤ out.2.2.1.2.2.2.2.2.2.1 ∧ s.2.2.1.2.2.2.2.2.2.2 ≤ out.2.2.1.2.2.2.2.2.2.2) ∧ xw_C w (mM_corner { frames := 0, cells := out.2.2.1.2.2.2.2.2.2.1 - s.2.2.1.2.2.2.2.2.2.1, slots := out.2.2.1.2.2.2.2.2.2.2 - s.2.2.1.2.2.2.2.2.2.2, locals := 0 }) (xw_R none (mV out h)) [.ref 2000, .ref (xn x0)] (mV s h) := by
  unfold FM_corner at hF
  refine xy_enter (L := [some (.ref 2000), some (.ref (xn x0))]) (fun _ => rfl) (fun _ => rfl) (fun _ => (show plainName "FormulaShaperModel" = true by decide +kernel)) (fun _ => (Nat.le_of_ble_eq_true rfl)) (fun _ => rfl) ?_
  have hm : s.2.2.1.2.2.2.2.2.2.1 ≤ s.2.2.1.2.2.2.2.2.2.1 ∧ s.2.2.1.2.2.2.2.2.2.2 ≤ s.2.2.1.2.2.2.2.2.2.2 := ⟨Nat.le_refl _, Nat.le_refl _⟩
  refine xy_r (xw_aload_n dM_corner_0 rfl) ?_
  refine xy_r (xw_aload_n dM_corner_1 rfl) ?_
  refine xy_r (xw_get dM_corner_2 fM_311 rfl rfl) ?_
  obtain ⟨g231, hF⟩ := xg_g hF
  refine xy_r (xg_put dM_corner_5 fM_368 (mV_n g231) (xn_le _) (Nat.le_of_ble_eq_true rfl) (fun _ => rfl) (fun _ => rfl) (mV_e (s' := (s.1, s.2.1, (s.2.2.1.1, s.2.2.1.2.1, s.2.2.1.2.2.1, s.2.2.1.2.2.2.1, s.2.2.1.2.2.2.2.1, (va_up s.2.2.1.2.2.2.2.2.1 x0 (nRow (s.2.2.1.2.2.2.2.2.1 x0) s.2.1.2.2.2.2.2.2.2.1)), s.2.2.1.2.2.2.2.2.2), s.2.2.2)) (mV_pn (q := (nRow (s.2.2.1.2.2.2.2.2.1 x0) s.2.1.2.2.2.2.2.2.2.1)) g231) rfl)) ?_
  refine xy_r (xw_aload_n dM_corner_8 rfl) ?_
  refine xy_r (xw_aload_n dM_corner_9 rfl) ?_
  refine xy_r (xw_get dM_corner_10 fM_302 rfl rfl) ?_
  refine xy_r (xg_put dM_corner_13 fM_371 (mV_nu (va_up_self _ _ _) g231) (xn_le _) (Nat.le_of_ble_eq_true rfl) (fun _ => rfl) (fun _ => rfl) (mV_e (s' := (s.1, s.2.1, (s.2.2.1.1, s.2.2.1.2.1, s.2.2.1.2.2.1, s.2.2.1.2.2.2.1, s.2.2.1.2.2.2.2.1, (va_up s.2.2.1.2.2.2.2.2.1 x0 (nCol (nRow (s.2.2.1.2.2.2.2.2.1 x0) s.2.1.2.2.2.2.2.2.2.1) s.2.1.2.2.2.2.2.2.2.2)), s.2.2.1.2.2.2.2.2.2), s.2.2.2)) (mV_pu (q := (nCol (nRow (s.2.2.1.2.2.2.2.2.1 x0) s.2.1.2.2.2.2.2.2.2.1) s.2.1.2.2.2.2.2.2.2.2)) g231 (va_up_up _ _ _ _)) rfl)) ?_
  refine xy_r (xw_aload_n dM_corner_16 rfl) ?_
  refine xy_r (xw_aload_n dM_corner_17 rfl) ?_
  refine xy_r (xw_get dM_corner_18 fM_305 rfl rfl) ?_
  refine xy_r (xg_put dM_corner_21 fM_374 (mV_nu (va_up_self _ _ _) g231) (xn_le _) (Nat.le_of_ble_eq_true rfl) (fun _ => xb_nar s.2.1.2.2.2.2.2.1) (fun _ => xb_fit s.2.1.2.2.2.2.2.1) (mV_e (s' := (s.1, s.2.1, (s.2.2.1.1, s.2.2.1.2.1, s.2.2.1.2.2.1, s.2.2.1.2.2.2.1, s.2.2.1.2.2.2.2.1, (va_up s.2.2.1.2.2.2.2.2.1 x0 (nRs (nCol (nRow (s.2.2.1.2.2.2.2.2.1 x0) s.2.1.2.2.2.2.2.2.2.1) s.2.1.2.2.2.2.2.2.2.2) s.2.1.2.2.2.2.2.1)), s.2.2.1.2.2.2.2.2.2), s.2.2.2)) (mV_pu (q := (nRs (nCol (nRow (s.2.2.1.2.2.2.2.2.1 x0) s.2.1.2.2.2.2.2.2.2.1) s.2.1.2.2.2.2.2.2.2.2) s.2.1.2.2.2.2.2.1)) g231 (va_up_up _ _ _ _)) rfl)) ?_
  refine xy_r (xw_aload_n dM_corner_24 rfl) ?_
  refine xy_r (xw_aload_n dM_corner_25 rfl) ?_
  refine xy_r (xw_get dM_corner_26 fM_298 rfl rfl) ?_
  refine xy_r (xg_put dM_corner_29 fM_377 (mV_nu (va_up_self _ _ _) g231) (xn_le _) (Nat.le_of_ble_eq_true rfl) (fun _ => xb_nar s.2.1.2.2.2.2.2.2.1) (fun _ => xb_fit s.2.1.2.2.2.2.2.2.1) (mV_e (s' := (s.1, s.2.1, (s.2.2.1.1, s.2.2.1.2.1, s.2.2.1.2.2.1, s.2.2.1.2.2.2.1, s.2.2.1.2.2.2.2.1, (va_up s.2.2.1.2.2.2.2.2.1 x0 (nCs (nRs (nCol (nRow (s.2.2.1.2.2.2.2.2.1 x0) s.2.1.2.2.2.2.2.2.2.1) s.2.1.2.2.2.2.2.2.2.2) s.2.1.2.2.2.2.2.1) s.2.1.2.2.2.2.2.2.1)), s.2.2.1.2.2.2.2.2.2), s.2.2.2)) (mV_pu (q := (nCs (nRs (nCol (nRow (s.2.2.1.2.2.2.2.2.1 x0) s.2.1.2.2.2.2.2.2.2.1) s.2.1.2.2.2.2.2.2.2.2) s.2.1.2.2.2.2.2.1) s.2.1.2.2.2.2.2.2.1)) g231 (va_up_up _ _ _ _)) rfl)) ?_
  refine xy_r (xw_aload_n dM_corner_32 rfl) ?_
  refine xy_r (xw_aload_n dM_corner_33 rfl) ?_
  refine xy_r (xw_get dM_corner_34 fM_314 rfl rfl) ?_
  refine xy_r (xg_put dM_corner_37 fM_221 rfl (by decide) (Nat.le_of_ble_eq_true rfl) (fun _ => rfl) (fun _ => rfl) (mV_o (s' := (s.1, (s.2.1.1, s.2.1.2.2.2.2.1, s.2.1.2.2), (s.2.2.1.1, s.2.2.1.2.1, s.2.2.1.2.2.1, s.2.2.1.2.2.2.1, s.2.2.1.2.2.2.2.1, (va_up s.2.2.1.2.2.2.2.2.1 x0 (nCs (nRs (nCol (nRow (s.2.2.1.2.2.2.2.2.1 x0) s.2.1.2.2.2.2.2.2.2.1) s.2.1.2.2.2.2.2.2.2.2) s.2.1.2.2.2.2.2.1) s.2.1.2.2.2.2.2.2.1)), s.2.2.1.2.2.2.2.2.2), s.2.2.2)) rfl)) ?_
  obtain rfl := Option.some.inj hF
  exact xy_end (xw_return dM_corner_40 rfl (Nat.le_refl _) (Nat.le_refl _) ⟨rfl, rfl⟩)
def FM_cells_201 (l1 : Nat) (s : xMs) : Option (xo Nat xMs) := if l1 < s.2.2.1.2.2.2.2.1 then (some (.inl (l1, (s.1, (s.2.1.1, s.2.1.2.2.2.2.1, s.2.1.2.2), (s.2.2.1.1, s.2.2.1.2.1, s.2.2.1.2.2.1, s.2.2.1.2.2.2.1, s.2.2.1.2.2.2.2.1, (va_up s.2.2.1.2.2.2.2.2.1 l1 (nCol (s.2.2.1.2.2.2.2.2.1 l1) (if s.2.1.2.2.2.2.2.2.2.2 < (s.2.2.1.2.2.2.2.2.1 l1).2.1.2.1 then s.2.1.2.2.2.2.2.2.2.2 else (s.2.2.1.2.2.2.2.2.1 l1).2.1.2.1))), s.2.2.1.2.2.2.2.2.2), s.2.2.2)))) else none
def FM_cells_179 (l1 : Nat) (t0 : Nat) (t1 : Bool) (s : xMs) : Option (xo Nat xMs) := if t0 < s.2.2.1.2.2.2.2.1 then (if l1 < s.2.2.1.2.2.2.2.1 then (if ((va_up s.2.2.1.2.2.2.2.2.1 t0 (nLcs (s.2.2.1.2.2.2.2.2.1 t0) t1)) l1).2.1.2.1 ≤ s.2.1.2.2.2.2.2.2.2.2 then (FM_cells_201 l1 (s.1, s.2.1, (s.2.2.1.1, s.2.2.1.2.1, s.2.2.1.2.2.1, s.2.2.1.2.2.2.1, s.2.2.1.2.2.2.2.1, (va_up s.2.2.1.2.2.2.2.2.1 t0 (nLcs (s.2.2.1.2.2.2.2.2.1 t0) t1)), s.2.2.1.2.2.2.2.2.2), s.2.2.2)) else (FM_cells_201 l1 (s.1, s.2.1, (s.2.2.1.1, s.2.2.1.2.1, s.2.2.1.2.2.1, s.2.2.1.2.2.2.1, s.2.2.1.2.2.2.2.1, (va_up (va_up s.2.2.1.2.2.2.2.2.1 t0 (nLcs (s.2.2.1.2.2.2.2.2.1 t0) t1)) l1 (nCs ((va_up s.2.2.1.2.2.2.2.2.1 t0 (nLcs (s.2.2.1.2.2.2.2.2.1 t0) t1)) l1) s.2.1.2.2.2.2.2.2.1)), s.2.2.1.2.2.2.2.2.2), s.2.2.2))) else none) else none
def FM_cells_126 (l1 : Nat) (s : xMs) : Option (xo Nat xMs) := if l1 < s.2.2.1.2.2.2.2.1 then (if (s.2.2.1.2.2.2.2.2.1 l1).2.1.2.1 ≤ s.2.1.2.2.2.2.2.2.2.2 then (FM_cells_179 l1 l1 s.2.1.2.2.2.2.2.2.1 (s.1, s.2.1, (s.2.2.1.1, s.2.2.1.2.1, s.2.2.1.2.2.1, s.2.2.1.2.2.2.1, s.2.2.1.2.2.2.2.1, (va_up s.2.2.1.2.2.2.2.2.1 l1 (nLc (nRow (s.2.2.1.2.2.2.2.2.1 l1) (if s.2.1.2.2.2.2.2.2.2.1 < (s.2.2.1.2.2.2.2.2.1 l1).2.1.1 then s.2.1.2.2.2.2.2.2.2.1 else (s.2.2.1.2.2.2.2.2.1 l1).2.1.1)) (if (s.2.2.1.2.2.2.2.2.1 l1).2.1.2.1 < s.2.1.2.2.2.2.2.2.2.2 then s.2.1.2.2.2.2.2.2.2.2 else (s.2.2.1.2.2.2.2.2.1 l1).2.1.2.1))), s.2.2.1.2.2.2.2.2.2), s.2.2.2)) else (FM_cells_179 l1 l1 (s.2.2.1.2.2.2.2.2.1 l1).2.1.2.2.2.1 (s.1, s.2.1, (s.2.2.1.1, s.2.2.1.2.1, s.2.2.1.2.2.1, s.2.2.1.2.2.2.1, s.2.2.1.2.2.2.2.1, (va_up s.2.2.1.2.2.2.2.2.1 l1 (nLc (nRow (s.2.2.1.2.2.2.2.2.1 l1) (if s.2.1.2.2.2.2.2.2.2.1 < (s.2.2.1.2.2.2.2.2.1 l1).2.1.1 then s.2.1.2.2.2.2.2.2.2.1 else (s.2.2.1.2.2.2.2.2.1 l1).2.1.1)) (if (s.2.2.1.2.2.2.2.2.1 l1).2.1.2.1 < s.2.1.2.2.2.2.2.2.2.2 then s.2.1.2.2.2.2.2.2.2.2 else (s.2.2.1.2.2.2.2.2.1 l1).2.1.2.1))), s.2.2.1.2.2.2.2.2.2), s.2.2.2))) else none
def FM_cells_104 (l1 : Nat) (t0 : Nat) (t1 : Bool) (s : xMs) : Option (xo Nat xMs) := if t0 < s.2.2.1.2.2.2.2.1 then (if l1 < s.2.2.1.2.2.2.2.1 then (if ((va_up s.2.2.1.2.2.2.2.2.1 t0 (nLrs (s.2.2.1.2.2.2.2.2.1 t0) t1)) l1).2.1.1 ≤ s.2.1.2.2.2.2.2.2.2.1 then (FM_cells_126 l1 (s.1, s.2.1, (s.2.2.1.1, s.2.2.1.2.1, s.2.2.1.2.2.1, s.2.2.1.2.2.2.1, s.2.2.1.2.2.2.2.1, (va_up s.2.2.1.2.2.2.2.2.1 t0 (nLrs (s.2.2.1.2.2.2.2.2.1 t0) t1)), s.2.2.1.2.2.2.2.2.2), s.2.2.2)) else (FM_cells_126 l1 (s.1, s.2.1, (s.2.2.1.1, s.2.2.1.2.1, s.2.2.1.2.2.1, s.2.2.1.2.2.2.1, s.2.2.1.2.2.2.2.1, (va_up (va_up s.2.2.1.2.2.2.2.2.1 t0 (nLrs (s.2.2.1.2.2.2.2.2.1 t0) t1)) l1 (nRs ((va_up s.2.2.1.2.2.2.2.2.1 t0 (nLrs (s.2.2.1.2.2.2.2.2.1 t0) t1)) l1) s.2.1.2.2.2.2.2.1)), s.2.2.1.2.2.2.2.2.2), s.2.2.2))) else none) else none
def FM_cells_61 (l1 : Nat) (s : xMs) : Option (xo Nat xMs) := if l1 < s.2.2.1.2.2.2.2.1 then (if (s.2.2.1.2.2.2.2.2.1 l1).2.1.1 ≤ s.2.1.2.2.2.2.2.2.2.1 then (FM_cells_104 l1 l1 s.2.1.2.2.2.2.2.1 (s.1, s.2.1, (s.2.2.1.1, s.2.2.1.2.1, s.2.2.1.2.2.1, s.2.2.1.2.2.2.1, s.2.2.1.2.2.2.2.1, (va_up s.2.2.1.2.2.2.2.2.1 l1 (nLr (nKind (s.2.2.1.2.2.2.2.2.1 l1) 5) (if (s.2.2.1.2.2.2.2.2.1 l1).2.1.1 < s.2.1.2.2.2.2.2.2.2.1 then s.2.1.2.2.2.2.2.2.2.1 else (s.2.2.1.2.2.2.2.2.1 l1).2.1.1))), s.2.2.1.2.2.2.2.2.2), s.2.2.2)) else (FM_cells_104 l1 l1 (s.2.2.1.2.2.2.2.2.1 l1).2.1.2.2.1 (s.1, s.2.1, (s.2.2.1.1, s.2.2.1.2.1, s.2.2.1.2.2.1, s.2.2.1.2.2.2.1, s.2.2.1.2.2.2.2.1, (va_up s.2.2.1.2.2.2.2.2.1 l1 (nLr (nKind (s.2.2.1.2.2.2.2.2.1 l1) 5) (if (s.2.2.1.2.2.2.2.2.1 l1).2.1.1 < s.2.1.2.2.2.2.2.2.2.1 then s.2.1.2.2.2.2.2.2.2.1 else (s.2.2.1.2.2.2.2.2.1 l1).2.1.1))), s.2.2.1.2.2.2.2.2.2), s.2.2.2))) else none
/-- FormulaShaperModel.cells -/
def FM_cells  (s : xMs) : Option (xo Nat xMs) := (FM_node 4 s).bind fun r232 => (FM_corner r232.1 r232.2).bind fun r235 => (FM_next 58 r235).bind fun r238 => if r238.1 = true then ((FM_blanks (r238.2.1, (r238.2.2.1.1, (r238.2.2.1.2.1 + 1), r238.2.2.1.2.2), r238.2.2.2)).bind fun r242 => (FM_cell_Z r242).bind fun r245 => if r245.1 = true then (FM_cells_61 r232.1 r245.2) else (xo_b (FM_bad r245.2.2.1.2.1 r245.2) fun r260 => FM_cells_61 r232.1 r260.2)) else (some (.inl (r232.1, (r238.2.1, (r238.2.2.1.1, r235.2.1.2.1, r238.2.2.1.2.2), r238.2.2.2))))
set_option maxRecDepth 20000 in
theorem CM_cells_201 {w : xw_G} {h : xw_H} (hb : xMb h)  {l1 : Nat} {s : xMs} {out : (xo Nat xMs)} {h0 : xw_H} {m0 n0 : Nat} (hm : m0 ≤ s.2.2.1.2.2.2.2.2.2.1 ∧ n0 ≤ s.2.2.1.2.2.2.2.2.2.2) (hF : FM_cells_201 l1 s = some out) : xw_Y w mM_cells 7 121 (xo_P (fun x => some (.ref (xn x))) (fun s => mV s h) out) h0 m0 n0 s.2.2.1.2.2.2.2.2.2.1 s.2.2.1.2.2.2.2.2.2.2 (xo_s out).2.2.1.2.2.2.2.2.2.1 (xo_s out).2.2.1.2.2.2.2.2.2.2 201 [some (.ref 2000), some (.ref (xn l1)), none] [] (mV s h) := by
  unfold FM_cells_201 at hF
  refine xy_r (xw_aload_n dM_cells_201 rfl) ?_
  refine xy_r (xw_aload_n dM_cells_202 rfl) ?_
  obtain ⟨g259, hF⟩ := xg_g hF
  refine xy_r (xw_get dM_cells_203 fM_371 (mV_n g259) rfl) ?_
  refine xy_r (xw_aload_n dM_cells_206 rfl) ?_
  refine xy_r (xw_get dM_cells_207 fM_302 rfl rfl) ?_
  refine xy_q (fun hq => xw_mmin dM_cells_210 tw_1268 (Nat.le_of_ble_eq_true rfl) (Nat.le_of_ble_eq_true rfl) (Nat.sub_le_sub_right hq.1 _) (Nat.sub_le_sub_right hq.2 _)) ?_
  refine xy_r (xg_put dM_cells_213 fM_371 (mV_n g259) (xn_le _) (Nat.le_of_ble_eq_true rfl) (fun _ => rfl) (fun _ => rfl) (mV_e (s' := (s.1, s.2.1, (s.2.2.1.1, s.2.2.1.2.1, s.2.2.1.2.2.1, s.2.2.1.2.2.2.1, s.2.2.1.2.2.2.2.1, (va_up s.2.2.1.2.2.2.2.2.1 l1 (nCol (s.2.2.1.2.2.2.2.2.1 l1) (if s.2.1.2.2.2.2.2.2.2.2 < (s.2.2.1.2.2.2.2.2.1 l1).2.1.2.1 then s.2.1.2.2.2.2.2.2.2.2 else (s.2.2.1.2.2.2.2.2.1 l1).2.1.2.1))), s.2.2.1.2.2.2.2.2.2), s.2.2.2)) (mV_pn (q := (nCol (s.2.2.1.2.2.2.2.2.1 l1) (if s.2.1.2.2.2.2.2.2.2.2 < (s.2.2.1.2.2.2.2.2.1 l1).2.1.2.1 then s.2.1.2.2.2.2.2.2.2.2 else (s.2.2.1.2.2.2.2.2.1 l1).2.1.2.1))) g259) rfl)) ?_
  refine xy_r (xw_aload_n dM_cells_216 rfl) ?_
  refine xy_r (xw_aload_n dM_cells_217 rfl) ?_
  refine xy_r (xw_get dM_cells_218 fM_314 rfl rfl) ?_
  refine xy_r (xg_put dM_cells_221 fM_221 rfl (by decide) (Nat.le_of_ble_eq_true rfl) (fun _ => rfl) (fun _ => rfl) (mV_o (s' := (s.1, (s.2.1.1, s.2.1.2.2.2.2.1, s.2.1.2.2), (s.2.2.1.1, s.2.2.1.2.1, s.2.2.1.2.2.1, s.2.2.1.2.2.2.1, s.2.2.1.2.2.2.2.1, (va_up s.2.2.1.2.2.2.2.2.1 l1 (nCol (s.2.2.1.2.2.2.2.2.1 l1) (if s.2.1.2.2.2.2.2.2.2.2 < (s.2.2.1.2.2.2.2.2.1 l1).2.1.2.1 then s.2.1.2.2.2.2.2.2.2.2 else (s.2.2.1.2.2.2.2.2.1 l1).2.1.2.1))), s.2.2.1.2.2.2.2.2.2), s.2.2.2)) rfl)) ?_
  refine xy_r (xw_aload_n dM_cells_224 rfl) ?_
  obtain rfl := Option.some.inj hF
  exact xy_end (xw_areturn dM_cells_225 rfl (Or.inl ⟨_, rfl⟩) (Nat.le_refl _) (Nat.le_refl _) ⟨rfl, rfl⟩)
set_option maxRecDepth 20000 in
theorem CM_cells_179 {w : xw_G} {h : xw_H} (hb : xMb h)  {l1 : Nat} {t0 : Nat} {t1 : Bool} {s : xMs} {out : (xo Nat xMs)} {h0 : xw_H} {m0 n0 : Nat} (hm : m0 ≤ s.2.2.1.2.2.2.2.2.2.1 ∧ n0 ≤ s.2.2.1.2.2.2.2.2.2.2) (hF : FM_cells_179 l1 t0 t1 s = some out) : xw_Y w mM_cells 7 121 (xo_P (fun x => some (.ref (xn x))) (fun s => mV s h) out) h0 m0 n0 s.2.2.1.2.2.2.2.2.2.1 s.2.2.1.2.2.2.2.2.2.2 (xo_s out).2.2.1.2.2.2.2.2.2.1 (xo_s out).2.2.1.2.2.2.2.2.2.2 179 [some (.ref 2000), some (.ref (xn l1)), none] [.int (xb t1), .ref (xn t0)] (mV s h) := by
  unfold FM_cells_179 at hF
  obtain ⟨g256, hF⟩ := xg_g hF
  refine xy_r (xg_put dM_cells_179 fM_401 (mV_n g256) (xn_le _) (Nat.le_of_ble_eq_true rfl) (fun _ => xb_nar t1) (fun _ => xb_fit t1) (mV_e (s' := (s.1, s.2.1, (s.2.2.1.1, s.2.2.1.2.1, s.2.2.1.2.2.1, s.2.2.1.2.2.2.1, s.2.2.1.2.2.2.2.1, (va_up s.2.2.1.2.2.2.2.2.1 t0 (nLcs (s.2.2.1.2.2.2.2.2.1 t0) t1)), s.2.2.1.2.2.2.2.2.2), s.2.2.2)) (mV_pn (q := (nLcs (s.2.2.1.2.2.2.2.2.1 t0) t1)) g256) rfl)) ?_
  refine xy_r (xw_aload_n dM_cells_182 rfl) ?_
  refine xy_r (xw_get dM_cells_183 fM_302 rfl rfl) ?_
  refine xy_r (xw_aload_n dM_cells_186 rfl) ?_
  obtain ⟨g257, hF⟩ := xg_g hF
  refine xy_r (xw_get dM_cells_187 fM_371 (mV_n g257) rfl) ?_
  refine xy_br (xw_icmp_ge 201 dM_cells_190 (by decide)) (fun c258 => ?_) (fun c258 => ?_)
  · replace hF := xg_t c258 hF
    exact CM_cells_201 hb (s := (s.1, s.2.1, (s.2.2.1.1, s.2.2.1.2.1, s.2.2.1.2.2.1, s.2.2.1.2.2.2.1, s.2.2.1.2.2.2.2.1, (va_up s.2.2.1.2.2.2.2.2.1 t0 (nLcs (s.2.2.1.2.2.2.2.2.1 t0) t1)), s.2.2.1.2.2.2.2.2.2), s.2.2.2)) hm hF
  · replace hF := xg_f c258 hF
    refine xy_r (xw_aload_n dM_cells_193 rfl) ?_
    refine xy_r (xw_aload_n dM_cells_194 rfl) ?_
    refine xy_r (xw_get dM_cells_195 fM_298 rfl rfl) ?_
    refine xy_r (xg_put dM_cells_198 fM_377 (mV_n g257) (xn_le _) (Nat.le_of_ble_eq_true rfl) (fun _ => xb_nar s.2.1.2.2.2.2.2.2.1) (fun _ => xb_fit s.2.1.2.2.2.2.2.2.1) (mV_e (s' := (s.1, s.2.1, (s.2.2.1.1, s.2.2.1.2.1, s.2.2.1.2.2.1, s.2.2.1.2.2.2.1, s.2.2.1.2.2.2.2.1, (va_up (va_up s.2.2.1.2.2.2.2.2.1 t0 (nLcs (s.2.2.1.2.2.2.2.2.1 t0) t1)) l1 (nCs ((va_up s.2.2.1.2.2.2.2.2.1 t0 (nLcs (s.2.2.1.2.2.2.2.2.1 t0) t1)) l1) s.2.1.2.2.2.2.2.2.1)), s.2.2.1.2.2.2.2.2.2), s.2.2.2)) (mV_pn (q := (nCs ((va_up s.2.2.1.2.2.2.2.2.1 t0 (nLcs (s.2.2.1.2.2.2.2.2.1 t0) t1)) l1) s.2.1.2.2.2.2.2.2.1)) g257) rfl)) ?_
    exact CM_cells_201 hb (s := (s.1, s.2.1, (s.2.2.1.1, s.2.2.1.2.1, s.2.2.1.2.2.1, s.2.2.1.2.2.2.1, s.2.2.1.2.2.2.2.1, (va_up (va_up s.2.2.1.2.2.2.2.2.1 t0 (nLcs (s.2.2.1.2.2.2.2.2.1 t0) t1)) l1 (nCs ((va_up s.2.2.1.2.2.2.2.2.1 t0 (nLcs (s.2.2.1.2.2.2.2.2.1 t0) t1)) l1) s.2.1.2.2.2.2.2.2.1)), s.2.2.1.2.2.2.2.2.2), s.2.2.2)) hm hF
set_option maxRecDepth 20000 in
theorem CM_cells_126 {w : xw_G} {h : xw_H} (hb : xMb h)  {l1 : Nat} {s : xMs} {out : (xo Nat xMs)} {h0 : xw_H} {m0 n0 : Nat} (hm : m0 ≤ s.2.2.1.2.2.2.2.2.2.1 ∧ n0 ≤ s.2.2.1.2.2.2.2.2.2.2) (hF : FM_cells_126 l1 s = some out) : xw_Y w mM_cells 7 121 (xo_P (fun x => some (.ref (xn x))) (fun s => mV s h) out) h0 m0 n0 s.2.2.1.2.2.2.2.2.2.1 s.2.2.1.2.2.2.2.2.2.2 (xo_s out).2.2.1.2.2.2.2.2.2.1 (xo_s out).2.2.1.2.2.2.2.2.2.2 126 [some (.ref 2000), some (.ref (xn l1)), none] [] (mV s h) := by
  unfold FM_cells_126 at hF
  refine xy_r (xw_aload_n dM_cells_126 rfl) ?_
  refine xy_r (xw_aload_n dM_cells_127 rfl) ?_
  obtain ⟨g254, hF⟩ := xg_g hF
  refine xy_r (xw_get dM_cells_128 fM_368 (mV_n g254) rfl) ?_
  refine xy_r (xw_aload_n dM_cells_131 rfl) ?_
  refine xy_r (xw_get dM_cells_132 fM_311 rfl rfl) ?_
  refine xy_q (fun hq => xw_mmin dM_cells_135 tw_1268 (Nat.le_of_ble_eq_true rfl) (Nat.le_of_ble_eq_true rfl) (Nat.sub_le_sub_right hq.1 _) (Nat.sub_le_sub_right hq.2 _)) ?_
  refine xy_r (xg_put dM_cells_138 fM_368 (mV_n g254) (xn_le _) (Nat.le_of_ble_eq_true rfl) (fun _ => rfl) (fun _ => rfl) (mV_e (s' := (s.1, s.2.1, (s.2.2.1.1, s.2.2.1.2.1, s.2.2.1.2.2.1, s.2.2.1.2.2.2.1, s.2.2.1.2.2.2.2.1, (va_up s.2.2.1.2.2.2.2.2.1 l1 (nRow (s.2.2.1.2.2.2.2.2.1 l1) (if s.2.1.2.2.2.2.2.2.2.1 < (s.2.2.1.2.2.2.2.2.1 l1).2.1.1 then s.2.1.2.2.2.2.2.2.2.1 else (s.2.2.1.2.2.2.2.2.1 l1).2.1.1))), s.2.2.1.2.2.2.2.2.2), s.2.2.2)) (mV_pn (q := (nRow (s.2.2.1.2.2.2.2.2.1 l1) (if s.2.1.2.2.2.2.2.2.2.1 < (s.2.2.1.2.2.2.2.2.1 l1).2.1.1 then s.2.1.2.2.2.2.2.2.2.1 else (s.2.2.1.2.2.2.2.2.1 l1).2.1.1))) g254) rfl)) ?_
  refine xy_r (xw_aload_n dM_cells_141 rfl) ?_
  refine xy_r (xw_aload_n dM_cells_142 rfl) ?_
  refine xy_r (xw_get dM_cells_143 fM_371 (mV_nu (va_up_self _ _ _) g254) rfl) ?_
  refine xy_r (xw_aload_n dM_cells_146 rfl) ?_
  refine xy_r (xw_get dM_cells_147 fM_302 rfl rfl) ?_
  refine xy_q (fun hq => xw_mmax dM_cells_150 tw_1267 (Nat.le_of_ble_eq_true rfl) (Nat.le_of_ble_eq_true rfl) (Nat.sub_le_sub_right hq.1 _) (Nat.sub_le_sub_right hq.2 _)) ?_
  refine xy_r (xg_put dM_cells_153 fM_398 (mV_nu (va_up_self _ _ _) g254) (xn_le _) (Nat.le_of_ble_eq_true rfl) (fun _ => rfl) (fun _ => rfl) (mV_e (s' := (s.1, s.2.1, (s.2.2.1.1, s.2.2.1.2.1, s.2.2.1.2.2.1, s.2.2.1.2.2.2.1, s.2.2.1.2.2.2.2.1, (va_up s.2.2.1.2.2.2.2.2.1 l1 (nLc (nRow (s.2.2.1.2.2.2.2.2.1 l1) (if s.2.1.2.2.2.2.2.2.2.1 < (s.2.2.1.2.2.2.2.2.1 l1).2.1.1 then s.2.1.2.2.2.2.2.2.2.1 else (s.2.2.1.2.2.2.2.2.1 l1).2.1.1)) (if (s.2.2.1.2.2.2.2.2.1 l1).2.1.2.1 < s.2.1.2.2.2.2.2.2.2.2 then s.2.1.2.2.2.2.2.2.2.2 else (s.2.2.1.2.2.2.2.2.1 l1).2.1.2.1))), s.2.2.1.2.2.2.2.2.2), s.2.2.2)) (mV_pu (q := (nLc (nRow (s.2.2.1.2.2.2.2.2.1 l1) (if s.2.1.2.2.2.2.2.2.2.1 < (s.2.2.1.2.2.2.2.2.1 l1).2.1.1 then s.2.1.2.2.2.2.2.2.2.1 else (s.2.2.1.2.2.2.2.2.1 l1).2.1.1)) (if (s.2.2.1.2.2.2.2.2.1 l1).2.1.2.1 < s.2.1.2.2.2.2.2.2.2.2 then s.2.1.2.2.2.2.2.2.2.2 else (s.2.2.1.2.2.2.2.2.1 l1).2.1.2.1))) g254 (va_up_up _ _ _ _)) rfl)) ?_
  refine xy_r (xw_aload_n dM_cells_156 rfl) ?_
  refine xy_r (xw_aload_n dM_cells_157 rfl) ?_
  refine xy_r (xw_get dM_cells_158 fM_371 (mV_nu (va_up_self _ _ _) g254) rfl) ?_
  refine xy_r (xw_aload_n dM_cells_161 rfl) ?_
  refine xy_r (xw_get dM_cells_162 fM_302 rfl rfl) ?_
  refine xy_br (xw_icmp_le 175 dM_cells_165 (by decide)) (fun c255 => ?_) (fun c255 => ?_)
  · replace hF := xg_t c255 hF
    refine xy_r (xw_aload_n dM_cells_175 rfl) ?_
    refine xy_r (xw_get dM_cells_176 fM_298 rfl rfl) ?_
    exact CM_cells_179 hb (s := (s.1, s.2.1, (s.2.2.1.1, s.2.2.1.2.1, s.2.2.1.2.2.1, s.2.2.1.2.2.2.1, s.2.2.1.2.2.2.2.1, (va_up s.2.2.1.2.2.2.2.2.1 l1 (nLc (nRow (s.2.2.1.2.2.2.2.2.1 l1) (if s.2.1.2.2.2.2.2.2.2.1 < (s.2.2.1.2.2.2.2.2.1 l1).2.1.1 then s.2.1.2.2.2.2.2.2.2.1 else (s.2.2.1.2.2.2.2.2.1 l1).2.1.1)) (if (s.2.2.1.2.2.2.2.2.1 l1).2.1.2.1 < s.2.1.2.2.2.2.2.2.2.2 then s.2.1.2.2.2.2.2.2.2.2 else (s.2.2.1.2.2.2.2.2.1 l1).2.1.2.1))), s.2.2.1.2.2.2.2.2.2), s.2.2.2)) hm hF
  · replace hF := xg_f c255 hF
    refine xy_r (xw_aload_n dM_cells_168 rfl) ?_
    refine xy_r (xw_get dM_cells_169 fM_377 (mV_nu (va_up_self _ _ _) g254) rfl) ?_
    refine xy_r (xw_goto 179 dM_cells_172 (by decide)) ?_
    exact CM_cells_179 hb (s := (s.1, s.2.1, (s.2.2.1.1, s.2.2.1.2.1, s.2.2.1.2.2.1, s.2.2.1.2.2.2.1, s.2.2.1.2.2.2.2.1, (va_up s.2.2.1.2.2.2.2.2.1 l1 (nLc (nRow (s.2.2.1.2.2.2.2.2.1 l1) (if s.2.1.2.2.2.2.2.2.2.1 < (s.2.2.1.2.2.2.2.2.1 l1).2.1.1 then s.2.1.2.2.2.2.2.2.2.1 else (s.2.2.1.2.2.2.2.2.1 l1).2.1.1)) (if (s.2.2.1.2.2.2.2.2.1 l1).2.1.2.1 < s.2.1.2.2.2.2.2.2.2.2 then s.2.1.2.2.2.2.2.2.2.2 else (s.2.2.1.2.2.2.2.2.1 l1).2.1.2.1))), s.2.2.1.2.2.2.2.2.2), s.2.2.2)) hm hF
set_option maxRecDepth 20000 in
theorem CM_cells_104 {w : xw_G} {h : xw_H} (hb : xMb h)  {l1 : Nat} {t0 : Nat} {t1 : Bool} {s : xMs} {out : (xo Nat xMs)} {h0 : xw_H} {m0 n0 : Nat} (hm : m0 ≤ s.2.2.1.2.2.2.2.2.2.1 ∧ n0 ≤ s.2.2.1.2.2.2.2.2.2.2) (hF : FM_cells_104 l1 t0 t1 s = some out) : xw_Y w mM_cells 7 121 (xo_P (fun x => some (.ref (xn x))) (fun s => mV s h) out) h0 m0 n0 s.2.2.1.2.2.2.2.2.2.1 s.2.2.1.2.2.2.2.2.2.2 (xo_s out).2.2.1.2.2.2.2.2.2.1 (xo_s out).2.2.1.2.2.2.2.2.2.2 104 [some (.ref 2000), some (.ref (xn l1)), none] [.int (xb t1), .ref (xn t0)] (mV s h) := by
  unfold FM_cells_104 at hF
  obtain ⟨g251, hF⟩ := xg_g hF
  refine xy_r (xg_put dM_cells_104 fM_392 (mV_n g251) (xn_le _) (Nat.le_of_ble_eq_true rfl) (fun _ => xb_nar t1) (fun _ => xb_fit t1) (mV_e (s' := (s.1, s.2.1, (s.2.2.1.1, s.2.2.1.2.1, s.2.2.1.2.2.1, s.2.2.1.2.2.2.1, s.2.2.1.2.2.2.2.1, (va_up s.2.2.1.2.2.2.2.2.1 t0 (nLrs (s.2.2.1.2.2.2.2.2.1 t0) t1)), s.2.2.1.2.2.2.2.2.2), s.2.2.2)) (mV_pn (q := (nLrs (s.2.2.1.2.2.2.2.2.1 t0) t1)) g251) rfl)) ?_
  refine xy_r (xw_aload_n dM_cells_107 rfl) ?_
  refine xy_r (xw_get dM_cells_108 fM_311 rfl rfl) ?_
  refine xy_r (xw_aload_n dM_cells_111 rfl) ?_
  obtain ⟨g252, hF⟩ := xg_g hF
  refine xy_r (xw_get dM_cells_112 fM_368 (mV_n g252) rfl) ?_
  refine xy_br (xw_icmp_ge 126 dM_cells_115 (by decide)) (fun c253 => ?_) (fun c253 => ?_)
  · replace hF := xg_t c253 hF
    exact CM_cells_126 hb (s := (s.1, s.2.1, (s.2.2.1.1, s.2.2.1.2.1, s.2.2.1.2.2.1, s.2.2.1.2.2.2.1, s.2.2.1.2.2.2.2.1, (va_up s.2.2.1.2.2.2.2.2.1 t0 (nLrs (s.2.2.1.2.2.2.2.2.1 t0) t1)), s.2.2.1.2.2.2.2.2.2), s.2.2.2)) hm hF
  · replace hF := xg_f c253 hF
    refine xy_r (xw_aload_n dM_cells_118 rfl) ?_
    refine xy_r (xw_aload_n dM_cells_119 rfl) ?_
    refine xy_r (xw_get dM_cells_120 fM_305 rfl rfl) ?_
    refine xy_r (xg_put dM_cells_123 fM_374 (mV_n g252) (xn_le _) (Nat.le_of_ble_eq_true rfl) (fun _ => xb_nar s.2.1.2.2.2.2.2.1) (fun _ => xb_fit s.2.1.2.2.2.2.2.1) (mV_e (s' := (s.1, s.2.1, (s.2.2.1.1, s.2.2.1.2.1, s.2.2.1.2.2.1, s.2.2.1.2.2.2.1, s.2.2.1.2.2.2.2.1, (va_up (va_up s.2.2.1.2.2.2.2.2.1 t0 (nLrs (s.2.2.1.2.2.2.2.2.1 t0) t1)) l1 (nRs ((va_up s.2.2.1.2.2.2.2.2.1 t0 (nLrs (s.2.2.1.2.2.2.2.2.1 t0) t1)) l1) s.2.1.2.2.2.2.2.1)), s.2.2.1.2.2.2.2.2.2), s.2.2.2)) (mV_pn (q := (nRs ((va_up s.2.2.1.2.2.2.2.2.1 t0 (nLrs (s.2.2.1.2.2.2.2.2.1 t0) t1)) l1) s.2.1.2.2.2.2.2.1)) g252) rfl)) ?_
    exact CM_cells_126 hb (s := (s.1, s.2.1, (s.2.2.1.1, s.2.2.1.2.1, s.2.2.1.2.2.1, s.2.2.1.2.2.2.1, s.2.2.1.2.2.2.2.1, (va_up (va_up s.2.2.1.2.2.2.2.2.1 t0 (nLrs (s.2.2.1.2.2.2.2.2.1 t0) t1)) l1 (nRs ((va_up s.2.2.1.2.2.2.2.2.1 t0 (nLrs (s.2.2.1.2.2.2.2.2.1 t0) t1)) l1) s.2.1.2.2.2.2.2.1)), s.2.2.1.2.2.2.2.2.2), s.2.2.2)) hm hF
set_option maxRecDepth 20000 in
theorem CM_cells_61 {w : xw_G} {h : xw_H} (hb : xMb h)  {l1 : Nat} {s : xMs} {out : (xo Nat xMs)} {h0 : xw_H} {m0 n0 : Nat} (hm : m0 ≤ s.2.2.1.2.2.2.2.2.2.1 ∧ n0 ≤ s.2.2.1.2.2.2.2.2.2.2) (hF : FM_cells_61 l1 s = some out) : xw_Y w mM_cells 7 121 (xo_P (fun x => some (.ref (xn x))) (fun s => mV s h) out) h0 m0 n0 s.2.2.1.2.2.2.2.2.2.1 s.2.2.1.2.2.2.2.2.2.2 (xo_s out).2.2.1.2.2.2.2.2.2.1 (xo_s out).2.2.1.2.2.2.2.2.2.2 61 [some (.ref 2000), some (.ref (xn l1)), none] [] (mV s h) := by
  unfold FM_cells_61 at hF
  refine xy_r (xw_aload_n dM_cells_61 rfl) ?_
  refine xy_r (xw_iconst (5) dM_cells_62 (by decide)) ?_
  obtain ⟨g249, hF⟩ := xg_g hF
  refine xy_r (xg_put dM_cells_63 fM_192 (mV_n g249) (xn_le _) (Nat.le_of_ble_eq_true rfl) (fun _ => rfl) (fun _ => rfl) (mV_e (s' := (s.1, s.2.1, (s.2.2.1.1, s.2.2.1.2.1, s.2.2.1.2.2.1, s.2.2.1.2.2.2.1, s.2.2.1.2.2.2.2.1, (va_up s.2.2.1.2.2.2.2.2.1 l1 (nKind (s.2.2.1.2.2.2.2.2.1 l1) 5)), s.2.2.1.2.2.2.2.2.2), s.2.2.2)) (mV_pn (q := (nKind (s.2.2.1.2.2.2.2.2.1 l1) 5)) g249) rfl)) ?_
  refine xy_r (xw_aload_n dM_cells_66 rfl) ?_
  refine xy_r (xw_aload_n dM_cells_67 rfl) ?_
  refine xy_r (xw_get dM_cells_68 fM_368 (mV_nu (va_up_self _ _ _) g249) rfl) ?_
  refine xy_r (xw_aload_n dM_cells_71 rfl) ?_
  refine xy_r (xw_get dM_cells_72 fM_311 rfl rfl) ?_
  refine xy_q (fun hq => xw_mmax dM_cells_75 tw_1267 (Nat.le_of_ble_eq_true rfl) (Nat.le_of_ble_eq_true rfl) (Nat.sub_le_sub_right hq.1 _) (Nat.sub_le_sub_right hq.2 _)) ?_
  refine xy_r (xg_put dM_cells_78 fM_389 (mV_nu (va_up_self _ _ _) g249) (xn_le _) (Nat.le_of_ble_eq_true rfl) (fun _ => rfl) (fun _ => rfl) (mV_e (s' := (s.1, s.2.1, (s.2.2.1.1, s.2.2.1.2.1, s.2.2.1.2.2.1, s.2.2.1.2.2.2.1, s.2.2.1.2.2.2.2.1, (va_up s.2.2.1.2.2.2.2.2.1 l1 (nLr (nKind (s.2.2.1.2.2.2.2.2.1 l1) 5) (if (s.2.2.1.2.2.2.2.2.1 l1).2.1.1 < s.2.1.2.2.2.2.2.2.2.1 then s.2.1.2.2.2.2.2.2.2.1 else (s.2.2.1.2.2.2.2.2.1 l1).2.1.1))), s.2.2.1.2.2.2.2.2.2), s.2.2.2)) (mV_pu (q := (nLr (nKind (s.2.2.1.2.2.2.2.2.1 l1) 5) (if (s.2.2.1.2.2.2.2.2.1 l1).2.1.1 < s.2.1.2.2.2.2.2.2.2.1 then s.2.1.2.2.2.2.2.2.2.1 else (s.2.2.1.2.2.2.2.2.1 l1).2.1.1))) g249 (va_up_up _ _ _ _)) rfl)) ?_
  refine xy_r (xw_aload_n dM_cells_81 rfl) ?_
  refine xy_r (xw_aload_n dM_cells_82 rfl) ?_
  refine xy_r (xw_get dM_cells_83 fM_368 (mV_nu (va_up_self _ _ _) g249) rfl) ?_
  refine xy_r (xw_aload_n dM_cells_86 rfl) ?_
  refine xy_r (xw_get dM_cells_87 fM_311 rfl rfl) ?_
  refine xy_br (xw_icmp_le 100 dM_cells_90 (by decide)) (fun c250 => ?_) (fun c250 => ?_)
  · replace hF := xg_t c250 hF
    refine xy_r (xw_aload_n dM_cells_100 rfl) ?_
    refine xy_r (xw_get dM_cells_101 fM_305 rfl rfl) ?_
    exact CM_cells_104 hb (s := (s.1, s.2.1, (s.2.2.1.1, s.2.2.1.2.1, s.2.2.1.2.2.1, s.2.2.1.2.2.2.1, s.2.2.1.2.2.2.2.1, (va_up s.2.2.1.2.2.2.2.2.1 l1 (nLr (nKind (s.2.2.1.2.2.2.2.2.1 l1) 5) (if (s.2.2.1.2.2.2.2.2.1 l1).2.1.1 < s.2.1.2.2.2.2.2.2.2.1 then s.2.1.2.2.2.2.2.2.2.1 else (s.2.2.1.2.2.2.2.2.1 l1).2.1.1))), s.2.2.1.2.2.2.2.2.2), s.2.2.2)) hm hF
  · replace hF := xg_f c250 hF
    refine xy_r (xw_aload_n dM_cells_93 rfl) ?_
    refine xy_r (xw_get dM_cells_94 fM_374 (mV_nu (va_up_self _ _ _) g249) rfl) ?_
    refine xy_r (xw_goto 104 dM_cells_97 (by decide)) ?_
    exact CM_cells_104 hb (s := (s.1, s.2.1, (s.2.2.1.1, s.2.2.1.2.1, s.2.2.1.2.2.1, s.2.2.1.2.2.2.1, s.2.2.1.2.2.2.2.1, (va_up s.2.2.1.2.2.2.2.2.1 l1 (nLr (nKind (s.2.2.1.2.2.2.2.2.1 l1) 5) (if (s.2.2.1.2.2.2.2.2.1 l1).2.1.1 < s.2.1.2.2.2.2.2.2.2.1 then s.2.1.2.2.2.2.2.2.2.1 else (s.2.2.1.2.2.2.2.2.1 l1).2.1.1))), s.2.2.1.2.2.2.2.2.2), s.2.2.2)) hm hF
set_option maxRecDepth 20000 in
theorem CM_cells {w : xw_G} {h : xw_H} (hb : xMb h)  {s : xMs} {out : (xo Nat xMs)} (hF : FM_cells  s = some out) : (s.2.2.1.2.2.2.2.2.2.1 ≤ (xo_s out).2.2.1.2.2.2.2.2.2.1 ∧ s.2.2.1.2.2.2.2.2.2.2 ≤ (xo_s out).2.2.1.2.2.2.2.2.2.2) ∧ xw_C w (mM_cells { frames := 7, cells := (xo_s out).2.2.1.2.2.2.2.2.2.1 - s.2.2.1.2.2.2.2.2.2.1, slots := (xo_s out).2.2.1.2.2.2.2.2.2.2 - s.2.2.1.2.2.2.2.2.2.2, locals := 121 }) (xo_P (fun x => some (.ref (xn x))) (fun s => mV s h) out) [.ref 2000] (mV s h) := by
  unfold FM_cells at hF
  refine xy_enter (L := [some (.ref 2000), none, none]) (fun _ => rfl) (fun _ => rfl) (fun _ => (show plainName "FormulaShaperModel" = true by decide +kernel)) (fun _ => (Nat.le_of_ble_eq_true rfl)) (fun _ => rfl) ?_
  have hm : s.2.2.1.2.2.2.2.2.2.1 ≤ s.2.2.1.2.2.2.2.2.2.1 ∧ s.2.2.1.2.2.2.2.2.2.2 ≤ s.2.2.1.2.2.2.2.2.2.2 := ⟨Nat.le_refl _, Nat.le_refl _⟩
  refine xy_r (xw_aload_n dM_cells_0 rfl) ?_
  refine xy_r (xw_iconst (4) dM_cells_1 (by decide)) ?_
  obtain ⟨r232, er232, hF⟩ := xg_b hF
  have hm233 : s.2.2.1.2.2.2.2.2.2.1 ≤ r232.2.2.2.1.2.2.2.2.2.2.1 ∧ s.2.2.1.2.2.2.2.2.2.2 ≤ r232.2.2.2.1.2.2.2.2.2.2.2 := xy_le hm (show s.2.2.1.2.2.2.2.2.2.1 ≤ r232.2.2.2.1.2.2.2.2.2.2.1 ∧ s.2.2.1.2.2.2.2.2.2.2 ≤ r232.2.2.2.1.2.2.2.2.2.2.2 from (CM_node (w := w) (h := h) hb (s := s) er232).1)
  refine xy_V1 (nl := 4) (sm := s.2.2.1.2.2.2.2.2.2.1) (sn := s.2.2.1.2.2.2.2.2.2.2) (tm := r232.2.2.2.1.2.2.2.2.2.2.1) (tn := r232.2.2.2.1.2.2.2.2.2.2.2) (CM_node hb (s := s) er232) rfl rfl hm (fun _ => rfl) (fun _ => rfl) (fun _ => rfl) (fun _ => dM_cells_2) (fun _ R => kM_253 R) (fun _ => rfl) ⟨(Nat.le_of_ble_eq_true rfl), (Nat.le_of_ble_eq_true rfl)⟩ rfl rfl rfl (fun _ => rfl) (Nat.le_of_ble_eq_true rfl) ?_
  refine xy_r (xw_astore_n dM_cells_5 (Nat.le_of_ble_eq_true rfl)) ?_
  refine xy_r (xw_Ln (L' := [some (.ref 2000), some (.ref (xn r232.1)), none]) rfl) ?_
  refine xy_r (xw_aload_n dM_cells_6 rfl) ?_
  refine xy_r (xw_aload_n dM_cells_7 rfl) ?_
  obtain ⟨r235, er235, hF⟩ := xg_b hF
  have hm236 : s.2.2.1.2.2.2.2.2.2.1 ≤ r235.2.2.1.2.2.2.2.2.2.1 ∧ s.2.2.1.2.2.2.2.2.2.2 ≤ r235.2.2.1.2.2.2.2.2.2.2 := xy_le hm233 (show r232.2.2.2.1.2.2.2.2.2.2.1 ≤ r235.2.2.1.2.2.2.2.2.2.1 ∧ r232.2.2.2.1.2.2.2.2.2.2.2 ≤ r235.2.2.1.2.2.2.2.2.2.2 from (CM_corner (w := w) (h := h) hb (s := r232.2) er235).1)
  refine xy_V0 (nl := 2) (sm := r232.2.2.2.1.2.2.2.2.2.2.1) (sn := r232.2.2.2.1.2.2.2.2.2.2.2) (tm := r235.2.2.1.2.2.2.2.2.2.1) (tn := r235.2.2.1.2.2.2.2.2.2.2) (CM_corner hb (s := r232.2) er235) rfl rfl hm233 (fun _ => rfl) (fun _ => rfl) (fun _ => rfl) (fun _ => dM_cells_8) (fun _ R => kM_380 R) (fun _ => rfl) ⟨(Nat.le_of_ble_eq_true rfl), (Nat.le_of_ble_eq_true rfl)⟩ rfl rfl rfl (fun _ => rfl) (Nat.le_of_ble_eq_true rfl) ?_
  refine xy_r (xw_aload_n dM_cells_11 rfl) ?_
  refine xy_r (xw_get dM_cells_12 fM_221 rfl rfl) ?_
  refine xy_r (xw_istore_n dM_cells_15 (Nat.le_of_ble_eq_true rfl)) ?_
  refine xy_r (xw_Ln (L' := [some (.ref 2000), some (.ref (xn r232.1)), some (.int r235.2.1.2.1)]) rfl) ?_
  refine xy_r (xw_aload_n dM_cells_16 rfl) ?_
  refine xy_r (xw_bipush (58) dM_cells_17 (by decide)) ?_
  obtain ⟨r238, er238, hF⟩ := xg_b hF
  have hm239 : s.2.2.1.2.2.2.2.2.2.1 ≤ r238.2.2.2.1.2.2.2.2.2.2.1 ∧ s.2.2.1.2.2.2.2.2.2.2 ≤ r238.2.2.2.1.2.2.2.2.2.2.2 := xy_le hm236 (show r235.2.2.1.2.2.2.2.2.2.1 ≤ r238.2.2.2.1.2.2.2.2.2.2.1 ∧ r235.2.2.1.2.2.2.2.2.2.2 ≤ r238.2.2.2.1.2.2.2.2.2.2.2 from (CM_next (w := w) (h := h) hb (s := r235) er238).1)
  refine xy_V1 (nl := 2) (sm := r235.2.2.1.2.2.2.2.2.2.1) (sn := r235.2.2.1.2.2.2.2.2.2.2) (tm := r238.2.2.2.1.2.2.2.2.2.2.1) (tn := r238.2.2.2.1.2.2.2.2.2.2.2) (CM_next hb (s := r235) er238) rfl rfl hm236 (fun _ => rfl) (fun _ => rfl) (fun _ => rfl) (fun _ => dM_cells_19) (fun _ R => kM_236 R) (fun _ => rfl) ⟨(Nat.le_of_ble_eq_true rfl), (Nat.le_of_ble_eq_true rfl)⟩ rfl rfl rfl (fun _ => rfl) (Nat.le_of_ble_eq_true rfl) ?_
  refine xy_br (xw_if_neB 32 dM_cells_22 (by decide)) (fun c241 => ?_) (fun c241 => ?_)
  · replace hF := xg_t c241 hF
    refine xy_r (xw_aload_n dM_cells_32 rfl) ?_
    refine xy_r (xw_dup_r dM_cells_33) ?_
    refine xy_r (xw_get dM_cells_34 fM_221 rfl rfl) ?_
    refine xy_r (xw_iconst (1) dM_cells_37 (by decide)) ?_
    refine xy_r (xw_iadd dM_cells_38) ?_
    refine xy_r (xg_put dM_cells_39 fM_221 rfl (by decide) (Nat.le_of_ble_eq_true rfl) (fun _ => rfl) (fun _ => rfl) (mV_o (s' := (r238.2.1, (r238.2.2.1.1, (r238.2.2.1.2.1 + 1), r238.2.2.1.2.2), r238.2.2.2)) rfl)) ?_
    refine xy_r (xw_aload_n dM_cells_42 rfl) ?_
    obtain ⟨r242, er242, hF⟩ := xg_b hF
    have hm243 : s.2.2.1.2.2.2.2.2.2.1 ≤ r242.2.2.1.2.2.2.2.2.2.1 ∧ s.2.2.1.2.2.2.2.2.2.2 ≤ r242.2.2.1.2.2.2.2.2.2.2 := xy_le hm239 (show r238.2.2.2.1.2.2.2.2.2.2.1 ≤ r242.2.2.1.2.2.2.2.2.2.1 ∧ r238.2.2.2.1.2.2.2.2.2.2.2 ≤ r242.2.2.1.2.2.2.2.2.2.2 from (CM_blanks (w := w) (h := h) hb (s := (r238.2.1, (r238.2.2.1.1, (r238.2.2.1.2.1 + 1), r238.2.2.1.2.2), r238.2.2.2)) er242).1)
    refine xy_V0 (nl := 1) (sm := r238.2.2.2.1.2.2.2.2.2.2.1) (sn := r238.2.2.2.1.2.2.2.2.2.2.2) (tm := r242.2.2.1.2.2.2.2.2.2.1) (tn := r242.2.2.1.2.2.2.2.2.2.2) (CM_blanks hb (s := (r238.2.1, (r238.2.2.1.1, (r238.2.2.1.2.1 + 1), r238.2.2.1.2.2), r238.2.2.2)) er242) rfl rfl hm239 (fun _ => rfl) (fun _ => rfl) (fun _ => rfl) (fun _ => dM_cells_43) (fun _ R => kM_233 R) (fun _ => rfl) ⟨(Nat.le_of_ble_eq_true rfl), (Nat.le_of_ble_eq_true rfl)⟩ rfl rfl rfl (fun _ => rfl) (Nat.le_of_ble_eq_true rfl) ?_
    refine xy_r (xw_aload_n dM_cells_46 rfl) ?_
    obtain ⟨r245, er245, hF⟩ := xg_b hF
    have hm246 : s.2.2.1.2.2.2.2.2.2.1 ≤ r245.2.2.2.1.2.2.2.2.2.2.1 ∧ s.2.2.1.2.2.2.2.2.2.2 ≤ r245.2.2.2.1.2.2.2.2.2.2.2 := xy_le hm243 (show r242.2.2.1.2.2.2.2.2.2.1 ≤ r245.2.2.2.1.2.2.2.2.2.2.1 ∧ r242.2.2.1.2.2.2.2.2.2.2 ≤ r245.2.2.2.1.2.2.2.2.2.2.2 from (CM_cell_Z (w := w) (h := h) hb (s := r242) er245).1)
    refine xy_V1 (nl := 3) (sm := r242.2.2.1.2.2.2.2.2.2.1) (sn := r242.2.2.1.2.2.2.2.2.2.2) (tm := r245.2.2.2.1.2.2.2.2.2.2.1) (tn := r245.2.2.2.1.2.2.2.2.2.2.2) (CM_cell_Z hb (s := r242) er245) rfl rfl hm243 (fun _ => rfl) (fun _ => rfl) (fun _ => rfl) (fun _ => dM_cells_47) (fun _ R => kM_320 R) (fun _ => rfl) ⟨(Nat.le_of_ble_eq_true rfl), (Nat.le_of_ble_eq_true rfl)⟩ rfl rfl rfl (fun _ => rfl) (Nat.le_of_ble_eq_true rfl) ?_
    refine xy_br (xw_if_neB 61 dM_cells_50 (by decide)) (fun c248 => ?_) (fun c248 => ?_)
    · replace hF := xg_t c248 hF
      refine xy_r (xw_drop (L' := [some (.ref 2000), some (.ref (xn r232.1)), none]) ⟨rfl, ⟨rfl, trivial⟩⟩) ?_
      exact CM_cells_61 hb (s := r245.2) hm246 hF
    · replace hF := xg_f c248 hF
      refine xy_r (xw_aload_n dM_cells_53 rfl) ?_
      refine xy_r (xw_aload_n dM_cells_54 rfl) ?_
      refine xy_r (xw_get dM_cells_55 fM_221 rfl rfl) ?_
      rcases xg_o hF with ⟨r260, er260, hF⟩ | ⟨r260, er260, hF⟩
      · have hm261 : s.2.2.1.2.2.2.2.2.2.1 ≤ r260.2.2.2.1.2.2.2.2.2.2.1 ∧ s.2.2.1.2.2.2.2.2.2.2 ≤ r260.2.2.2.1.2.2.2.2.2.2.2 := xy_le hm246 (show r245.2.2.2.1.2.2.2.2.2.2.1 ≤ r260.2.2.2.1.2.2.2.2.2.2.1 ∧ r245.2.2.2.1.2.2.2.2.2.2.2 ≤ r260.2.2.2.1.2.2.2.2.2.2.2 from (CM_bad (w := w) (h := h) hb (s := r245.2) er260).1)
        refine xy_V0 (nl := 2) (sm := r245.2.2.2.1.2.2.2.2.2.2.1) (sn := r245.2.2.2.1.2.2.2.2.2.2.2) (tm := r260.2.2.2.1.2.2.2.2.2.2.1) (tn := r260.2.2.2.1.2.2.2.2.2.2.2) (CM_bad hb (s := r245.2) er260) rfl rfl hm246 (fun _ => rfl) (fun _ => rfl) (fun _ => rfl) (fun _ => dM_cells_58) (fun _ R => kM_239 R) (fun _ => rfl) ⟨(Nat.le_of_ble_eq_true rfl), (Nat.le_of_ble_eq_true rfl)⟩ rfl rfl rfl (fun _ => rfl) (Nat.le_of_ble_eq_true rfl) ?_
        refine xy_r (xw_drop (L' := [some (.ref 2000), some (.ref (xn r232.1)), none]) ⟨rfl, ⟨rfl, trivial⟩⟩) ?_
        exact CM_cells_61 hb (s := r260.2) hm261 hF
      · subst hF
        exact xy_Vt (nl := 2) (sm := r245.2.2.2.1.2.2.2.2.2.2.1) (sn := r245.2.2.2.1.2.2.2.2.2.2.2) (tm := r260.2.2.2.1.2.2.2.2.2.2.1) (tn := r260.2.2.2.1.2.2.2.2.2.2.2) (CM_bad hb (s := r245.2) er260) rfl rfl hm246 (fun _ => rfl) (fun _ => rfl) (fun _ => rfl) (fun _ => dM_cells_58) (fun _ R => kM_239 R) (fun _ => rfl) ⟨(Nat.le_of_ble_eq_true rfl), (Nat.le_of_ble_eq_true rfl)⟩ rfl rfl rfl (fun _ => rfl) (Nat.le_of_ble_eq_true rfl) ⟨rfl, rfl⟩
  · replace hF := xg_f c241 hF
    refine xy_r (xw_aload_n dM_cells_25 rfl) ?_
    refine xy_r (xw_iload_n dM_cells_26 rfl) ?_
    refine xy_r (xg_put dM_cells_27 fM_221 rfl (by decide) (Nat.le_of_ble_eq_true rfl) (fun _ => rfl) (fun _ => rfl) (mV_o (s' := (r238.2.1, (r238.2.2.1.1, r235.2.1.2.1, r238.2.2.1.2.2), r238.2.2.2)) rfl)) ?_
    refine xy_r (xw_aload_n dM_cells_30 rfl) ?_
    obtain rfl := Option.some.inj hF
    exact xy_end (xw_areturn dM_cells_31 rfl (Or.inl ⟨_, rfl⟩) (Nat.le_refl _) (Nat.le_refl _) ⟨rfl, rfl⟩)
def FM_literal_18 (t0 : Bool) (s : xMs) : Option (xo Nat xMs) := if t0 = true then ((FM_blanks (s.1, (s.2.1.1, (s.2.1.2.1 + 1), s.2.1.2.2), s.2.2)).bind fun r279 => (FM_peek r279).bind fun r282 => if (sM_digit r282) = 0 then (xo_b (FM_bad r279.2.1.2.1 r279) fun r294 => xo_b (FM_constant r294.2) fun r297 => xm r297.1 (xo_b (FM_bad r297.2.2.1.2.1 r297.2) fun r301 => if t0 = true then (none) else (none)) (fun i300 => if t0 = true then (if i300 < r297.2.2.2.1.2.2.2.2.1 then (some (.inl (i300, (r297.2.1, r297.2.2.1, (r297.2.2.2.1.1, r297.2.2.2.1.2.1, r297.2.2.2.1.2.2.1, r297.2.2.2.1.2.2.2.1, r297.2.2.2.1.2.2.2.2.1, (va_up r297.2.2.2.1.2.2.2.2.2.1 i300 (nA (nNumber (r297.2.2.2.1.2.2.2.2.2.1 i300) (-(r297.2.2.2.1.2.2.2.2.2.1 i300).1.2.2.2)) 1)), r297.2.2.2.1.2.2.2.2.2.2), r297.2.2.2.2)))) else none) else (some (.inl (i300, r297.2))))) else (xo_b (FM_constant r279) fun r284 => xm r284.1 (xo_b (FM_bad r284.2.2.1.2.1 r284.2) fun r288 => if t0 = true then (none) else (none)) (fun i287 => if t0 = true then (if i287 < r284.2.2.2.1.2.2.2.2.1 then (some (.inl (i287, (r284.2.1, r284.2.2.1, (r284.2.2.2.1.1, r284.2.2.2.1.2.1, r284.2.2.2.1.2.2.1, r284.2.2.2.1.2.2.2.1, r284.2.2.2.1.2.2.2.2.1, (va_up r284.2.2.2.1.2.2.2.2.2.1 i287 (nA (nNumber (r284.2.2.2.1.2.2.2.2.2.1 i287) (-(r284.2.2.2.1.2.2.2.2.2.1 i287).1.2.2.2)) 1)), r284.2.2.2.1.2.2.2.2.2.2), r284.2.2.2.2)))) else none) else (some (.inl (i287, r284.2)))))) else (xo_b (FM_constant s) fun r269 => xm r269.1 (xo_b (FM_bad r269.2.2.1.2.1 r269.2) fun r273 => if t0 = true then (none) else (none)) (fun i272 => if t0 = true then (if i272 < r269.2.2.2.1.2.2.2.2.1 then (some (.inl (i272, (r269.2.1, r269.2.2.1, (r269.2.2.2.1.1, r269.2.2.2.1.2.1, r269.2.2.2.1.2.2.1, r269.2.2.2.1.2.2.2.1, r269.2.2.2.1.2.2.2.2.1, (va_up r269.2.2.2.1.2.2.2.2.2.1 i272 (nA (nNumber (r269.2.2.2.1.2.2.2.2.2.1 i272) (-(r269.2.2.2.1.2.2.2.2.2.1 i272).1.2.2.2)) 1)), r269.2.2.2.1.2.2.2.2.2.2), r269.2.2.2.2)))) else none) else (some (.inl (i272, r269.2)))))
/-- FormulaShaperModel.literal -/
def FM_literal  (s : xMs) : Option (xo Nat xMs) := (FM_blanks s).bind fun r263 => (FM_peek r263).bind fun r266 => if r266 = 45 then (FM_literal_18 true r263) else (FM_literal_18 false r263)
set_option maxRecDepth 20000 in
theorem CM_literal_18 {w : xw_G} {h : xw_H} (hb : xMb h)  {t0 : Bool} {s : xMs} {out : (xo Nat xMs)} {h0 : xw_H} {m0 n0 : Nat} (hm : m0 ≤ s.2.2.1.2.2.2.2.2.2.1 ∧ n0 ≤ s.2.2.1.2.2.2.2.2.2.2) (hF : FM_literal_18 t0 s = some out) : xw_Y w mM_literal 9 171 (xo_P (fun x => some (.ref (xn x))) (fun s => mV s h) out) h0 m0 n0 s.2.2.1.2.2.2.2.2.2.1 s.2.2.1.2.2.2.2.2.2.2 (xo_s out).2.2.1.2.2.2.2.2.2.1 (xo_s out).2.2.1.2.2.2.2.2.2.2 18 [some (.ref 2000), none, none] [.int (xb t0)] (mV s h) := by
  unfold FM_literal_18 at hF
  refine xy_r (xw_istore_n dM_literal_18 (Nat.le_of_ble_eq_true rfl)) ?_
  refine xy_r (xw_Ln (L' := [some (.ref 2000), some (.int (xb t0)), none]) rfl) ?_
  refine xy_r (xw_iload_n dM_literal_19 rfl) ?_
  refine xy_brn (xw_if_eqB 55 dM_literal_20 (by decide)) (fun c268 => ?_) (fun c268 => ?_)
  · replace hF := xg_f c268 hF
    refine xy_r (xw_aload_n dM_literal_55 rfl) ?_
    rcases xg_o hF with ⟨r269, er269, hF⟩ | ⟨r269, er269, hF⟩
    · have hm270 : m0 ≤ r269.2.2.2.1.2.2.2.2.2.2.1 ∧ n0 ≤ r269.2.2.2.1.2.2.2.2.2.2.2 := xy_le hm (show s.2.2.1.2.2.2.2.2.2.1 ≤ r269.2.2.2.1.2.2.2.2.2.2.1 ∧ s.2.2.1.2.2.2.2.2.2.2 ≤ r269.2.2.2.1.2.2.2.2.2.2.2 from (CM_constant (w := w) (h := h) hb (s := s) er269).1)
      refine xy_V1 (nl := 5) (sm := s.2.2.1.2.2.2.2.2.2.1) (sn := s.2.2.1.2.2.2.2.2.2.2) (tm := r269.2.2.2.1.2.2.2.2.2.2.1) (tn := r269.2.2.2.1.2.2.2.2.2.2.2) (CM_constant hb (s := s) er269) rfl rfl hm (fun _ => rfl) (fun _ => rfl) (fun _ => rfl) (fun _ => dM_literal_56) (fun _ R => kM_359 R) (fun _ => rfl) ⟨(Nat.le_of_ble_eq_true rfl), (Nat.le_of_ble_eq_true rfl)⟩ rfl rfl rfl (fun _ => rfl) (Nat.le_of_ble_eq_true rfl) ?_
      refine xy_r (xg_astore_n dM_literal_59 (Nat.le_of_ble_eq_true rfl)) ?_
      refine xy_r (xw_Ln (L' := [some (.ref 2000), some (.int (xb t0)), some (xw_rf r269.1)]) rfl) ?_
      refine xy_r (xg_aload_n dM_literal_60 rfl) ?_
      rcases xg_m hF with ⟨ei272, hF⟩ | ⟨i272, ei272, hF⟩
      · refine xy_r (xw_Ln (L' := [some (.ref 2000), some (.int (xb t0)), some (.null)]) (by first | (rw [ei272]; done) | (rw [ei272]; rfl))) ?_
        refine xy_r (xw_Sn (st' := [.null]) (by first | (rw [ei272]; done) | (rw [ei272]; rfl))) ?_
        refine xy_r (xw_ifnonnull_n dM_literal_61) ?_
        refine xy_r (xw_aload_n dM_literal_64 rfl) ?_
        refine xy_r (xw_aload_n dM_literal_65 rfl) ?_
        refine xy_r (xw_get dM_literal_66 fM_221 rfl rfl) ?_
        rcases xg_o hF with ⟨r273, er273, hF⟩ | ⟨r273, er273, hF⟩
        · have hm274 : m0 ≤ r273.2.2.2.1.2.2.2.2.2.2.1 ∧ n0 ≤ r273.2.2.2.1.2.2.2.2.2.2.2 := xy_le hm270 (show r269.2.2.2.1.2.2.2.2.2.2.1 ≤ r273.2.2.2.1.2.2.2.2.2.2.1 ∧ r269.2.2.2.1.2.2.2.2.2.2.2 ≤ r273.2.2.2.1.2.2.2.2.2.2.2 from (CM_bad (w := w) (h := h) hb (s := r269.2) er273).1)
          refine xy_V0 (nl := 2) (sm := r269.2.2.2.1.2.2.2.2.2.2.1) (sn := r269.2.2.2.1.2.2.2.2.2.2.2) (tm := r273.2.2.2.1.2.2.2.2.2.2.1) (tn := r273.2.2.2.1.2.2.2.2.2.2.2) (CM_bad hb (s := r269.2) er273) rfl rfl hm270 (fun _ => rfl) (fun _ => rfl) (fun _ => rfl) (fun _ => dM_literal_69) (fun _ R => kM_239 R) (fun _ => rfl) ⟨(Nat.le_of_ble_eq_true rfl), (Nat.le_of_ble_eq_true rfl)⟩ rfl rfl rfl (fun _ => rfl) (Nat.le_of_ble_eq_true rfl) ?_
          refine xy_r (xw_iload_n dM_literal_72 rfl) ?_
          refine xy_brn (xw_if_eqB 90 dM_literal_73 (by decide)) (fun c276 => ?_) (fun c276 => ?_)
          · replace hF := xg_f c276 hF
            refine xy_r (xw_aload_nN dM_literal_90 rfl) ?_
            cases hF
          · replace hF := xg_t c276 hF
            refine xy_r (xw_aload_nN dM_literal_76 rfl) ?_
            refine xy_r (xw_aload_nN dM_literal_77 rfl) ?_
            cases hF
        · subst hF
          exact xy_Vt (nl := 2) (sm := r269.2.2.2.1.2.2.2.2.2.2.1) (sn := r269.2.2.2.1.2.2.2.2.2.2.2) (tm := r273.2.2.2.1.2.2.2.2.2.2.1) (tn := r273.2.2.2.1.2.2.2.2.2.2.2) (CM_bad hb (s := r269.2) er273) rfl rfl hm270 (fun _ => rfl) (fun _ => rfl) (fun _ => rfl) (fun _ => dM_literal_69) (fun _ R => kM_239 R) (fun _ => rfl) ⟨(Nat.le_of_ble_eq_true rfl), (Nat.le_of_ble_eq_true rfl)⟩ rfl rfl rfl (fun _ => rfl) (Nat.le_of_ble_eq_true rfl) ⟨rfl, rfl⟩
      · refine xy_r (xw_Ln (L' := [some (.ref 2000), some (.int (xb t0)), some (.ref (xn i272))]) (by first | (rw [ei272]; done) | (rw [ei272]; rfl))) ?_
        refine xy_r (xw_Sn (st' := [.ref (xn i272)]) (by first | (rw [ei272]; done) | (rw [ei272]; rfl))) ?_
        refine xy_r (xw_ifnonnull_r 72 dM_literal_61 (by decide)) ?_
        refine xy_r (xw_iload_n dM_literal_72 rfl) ?_
        refine xy_brn (xw_if_eqB 90 dM_literal_73 (by decide)) (fun c277 => ?_) (fun c277 => ?_)
        · replace hF := xg_f c277 hF
          refine xy_r (xw_aload_n dM_literal_90 rfl) ?_
          obtain rfl := Option.some.inj hF
          exact xy_end (xw_areturn dM_literal_91 rfl (Or.inl ⟨_, rfl⟩) (Nat.le_refl _) (Nat.le_refl _) ⟨rfl, rfl⟩)
        · replace hF := xg_t c277 hF
          refine xy_r (xw_aload_n dM_literal_76 rfl) ?_
          refine xy_r (xw_aload_n dM_literal_77 rfl) ?_
          obtain ⟨g278, hF⟩ := xg_g hF
          refine xy_r (xw_get dM_literal_78 fM_201 (mV_n g278) rfl) ?_
          refine xy_r (xw_lneg dM_literal_81) ?_
          refine xy_r (xg_put dM_literal_82 fM_201 (mV_n g278) (xn_le _) (Nat.le_of_ble_eq_true rfl) (fun _ => rfl) (fun _ => rfl) (mV_e (s' := (r269.2.1, r269.2.2.1, (r269.2.2.2.1.1, r269.2.2.2.1.2.1, r269.2.2.2.1.2.2.1, r269.2.2.2.1.2.2.2.1, r269.2.2.2.1.2.2.2.2.1, (va_up r269.2.2.2.1.2.2.2.2.2.1 i272 (nNumber (r269.2.2.2.1.2.2.2.2.2.1 i272) (-(r269.2.2.2.1.2.2.2.2.2.1 i272).1.2.2.2))), r269.2.2.2.1.2.2.2.2.2.2), r269.2.2.2.2)) (mV_pn (q := (nNumber (r269.2.2.2.1.2.2.2.2.2.1 i272) (-(r269.2.2.2.1.2.2.2.2.2.1 i272).1.2.2.2))) g278) rfl)) ?_
          refine xy_r (xw_aload_n dM_literal_85 rfl) ?_
          refine xy_r (xw_iconst (1) dM_literal_86 (by decide)) ?_
          refine xy_r (xg_put dM_literal_87 fM_195 (mV_nu (va_up_self _ _ _) g278) (xn_le _) (Nat.le_of_ble_eq_true rfl) (fun _ => rfl) (fun _ => rfl) (mV_e (s' := (r269.2.1, r269.2.2.1, (r269.2.2.2.1.1, r269.2.2.2.1.2.1, r269.2.2.2.1.2.2.1, r269.2.2.2.1.2.2.2.1, r269.2.2.2.1.2.2.2.2.1, (va_up r269.2.2.2.1.2.2.2.2.2.1 i272 (nA (nNumber (r269.2.2.2.1.2.2.2.2.2.1 i272) (-(r269.2.2.2.1.2.2.2.2.2.1 i272).1.2.2.2)) 1)), r269.2.2.2.1.2.2.2.2.2.2), r269.2.2.2.2)) (mV_pu (q := (nA (nNumber (r269.2.2.2.1.2.2.2.2.2.1 i272) (-(r269.2.2.2.1.2.2.2.2.2.1 i272).1.2.2.2)) 1)) g278 (va_up_up _ _ _ _)) rfl)) ?_
          refine xy_r (xw_aload_n dM_literal_90 rfl) ?_
          obtain rfl := Option.some.inj hF
          exact xy_end (xw_areturn dM_literal_91 rfl (Or.inl ⟨_, rfl⟩) (Nat.le_refl _) (Nat.le_refl _) ⟨rfl, rfl⟩)
    · subst hF
      exact xy_Vt (nl := 5) (sm := s.2.2.1.2.2.2.2.2.2.1) (sn := s.2.2.1.2.2.2.2.2.2.2) (tm := r269.2.2.2.1.2.2.2.2.2.2.1) (tn := r269.2.2.2.1.2.2.2.2.2.2.2) (CM_constant hb (s := s) er269) rfl rfl hm (fun _ => rfl) (fun _ => rfl) (fun _ => rfl) (fun _ => dM_literal_56) (fun _ R => kM_359 R) (fun _ => rfl) ⟨(Nat.le_of_ble_eq_true rfl), (Nat.le_of_ble_eq_true rfl)⟩ rfl rfl rfl (fun _ => rfl) (Nat.le_of_ble_eq_true rfl) ⟨rfl, rfl⟩
  · replace hF := xg_t c268 hF
    refine xy_r (xw_aload_n dM_literal_23 rfl) ?_
    refine xy_r (xw_dup_r dM_literal_24) ?_
    refine xy_r (xw_get dM_literal_25 fM_221 rfl rfl) ?_
    refine xy_r (xw_iconst (1) dM_literal_28 (by decide)) ?_
    refine xy_r (xw_iadd dM_literal_29) ?_
    refine xy_r (xg_put dM_literal_30 fM_221 rfl (by decide) (Nat.le_of_ble_eq_true rfl) (fun _ => rfl) (fun _ => rfl) (mV_o (s' := (s.1, (s.2.1.1, (s.2.1.2.1 + 1), s.2.1.2.2), s.2.2)) rfl)) ?_
    refine xy_r (xw_aload_n dM_literal_33 rfl) ?_
    obtain ⟨r279, er279, hF⟩ := xg_b hF
    have hm280 : m0 ≤ r279.2.2.1.2.2.2.2.2.2.1 ∧ n0 ≤ r279.2.2.1.2.2.2.2.2.2.2 := xy_le hm (show s.2.2.1.2.2.2.2.2.2.1 ≤ r279.2.2.1.2.2.2.2.2.2.1 ∧ s.2.2.1.2.2.2.2.2.2.2 ≤ r279.2.2.1.2.2.2.2.2.2.2 from (CM_blanks (w := w) (h := h) hb (s := (s.1, (s.2.1.1, (s.2.1.2.1 + 1), s.2.1.2.2), s.2.2)) er279).1)
    refine xy_V0 (nl := 1) (sm := s.2.2.1.2.2.2.2.2.2.1) (sn := s.2.2.1.2.2.2.2.2.2.2) (tm := r279.2.2.1.2.2.2.2.2.2.1) (tn := r279.2.2.1.2.2.2.2.2.2.2) (CM_blanks hb (s := (s.1, (s.2.1.1, (s.2.1.2.1 + 1), s.2.1.2.2), s.2.2)) er279) rfl rfl hm (fun _ => rfl) (fun _ => rfl) (fun _ => rfl) (fun _ => dM_literal_34) (fun _ R => kM_233 R) (fun _ => rfl) ⟨(Nat.le_of_ble_eq_true rfl), (Nat.le_of_ble_eq_true rfl)⟩ rfl rfl rfl (fun _ => rfl) (Nat.le_of_ble_eq_true rfl) ?_
    refine xy_r (xw_aload_n dM_literal_37 rfl) ?_
    obtain ⟨r282, er282, hF⟩ := xg_b hF
    refine xy_q (fun hq => xg_V1 (k1 := _) (n1 := _) (CM_peek er282) rfl rfl rfl dM_literal_38 (kM_230 _) ⟨Nat.le_of_ble_eq_true rfl, Nat.le_of_ble_eq_true rfl⟩ rfl rfl rfl rfl (Nat.le_of_ble_eq_true rfl) (Nat.le_refl _) (Nat.le_refl _) (Nat.sub_le_sub_right hq.1 _) (Nat.sub_le_sub_right hq.2 _)) ?_
    refine xy_q (fun hq => xg_S1 (k1 := _) (n1 := _) (cM_digit w) rfl rfl rfl dM_literal_41 (kM_295 _) ⟨Nat.le_of_ble_eq_true rfl, Nat.le_of_ble_eq_true rfl⟩ rfl rfl (Nat.le_of_ble_eq_true rfl) (Nat.le_refl _) (Nat.le_refl _) (Nat.sub_le_sub_right hq.1 _) (Nat.sub_le_sub_right hq.2 _)) ?_
    refine xy_brn (xw_if_ne 55 dM_literal_44 (by decide)) (fun c283 => ?_) (fun c283 => ?_)
    · replace hF := xg_f c283 hF
      refine xy_r (xw_aload_n dM_literal_55 rfl) ?_
      rcases xg_o hF with ⟨r284, er284, hF⟩ | ⟨r284, er284, hF⟩
      · have hm285 : m0 ≤ r284.2.2.2.1.2.2.2.2.2.2.1 ∧ n0 ≤ r284.2.2.2.1.2.2.2.2.2.2.2 := xy_le hm280 (show r279.2.2.1.2.2.2.2.2.2.1 ≤ r284.2.2.2.1.2.2.2.2.2.2.1 ∧ r279.2.2.1.2.2.2.2.2.2.2 ≤ r284.2.2.2.1.2.2.2.2.2.2.2 from (CM_constant (w := w) (h := h) hb (s := r279) er284).1)
        refine xy_V1 (nl := 5) (sm := r279.2.2.1.2.2.2.2.2.2.1) (sn := r279.2.2.1.2.2.2.2.2.2.2) (tm := r284.2.2.2.1.2.2.2.2.2.2.1) (tn := r284.2.2.2.1.2.2.2.2.2.2.2) (CM_constant hb (s := r279) er284) rfl rfl hm280 (fun _ => rfl) (fun _ => rfl) (fun _ => rfl) (fun _ => dM_literal_56) (fun _ R => kM_359 R) (fun _ => rfl) ⟨(Nat.le_of_ble_eq_true rfl), (Nat.le_of_ble_eq_true rfl)⟩ rfl rfl rfl (fun _ => rfl) (Nat.le_of_ble_eq_true rfl) ?_
        refine xy_r (xg_astore_n dM_literal_59 (Nat.le_of_ble_eq_true rfl)) ?_
        refine xy_r (xw_Ln (L' := [some (.ref 2000), some (.int (xb t0)), some (xw_rf r284.1)]) rfl) ?_
        refine xy_r (xg_aload_n dM_literal_60 rfl) ?_
        rcases xg_m hF with ⟨ei287, hF⟩ | ⟨i287, ei287, hF⟩
        · refine xy_r (xw_Ln (L' := [some (.ref 2000), some (.int (xb t0)), some (.null)]) (by first | (rw [ei287]; done) | (rw [ei287]; rfl))) ?_
          refine xy_r (xw_Sn (st' := [.null]) (by first | (rw [ei287]; done) | (rw [ei287]; rfl))) ?_
          refine xy_r (xw_ifnonnull_n dM_literal_61) ?_
          refine xy_r (xw_aload_n dM_literal_64 rfl) ?_
          refine xy_r (xw_aload_n dM_literal_65 rfl) ?_
          refine xy_r (xw_get dM_literal_66 fM_221 rfl rfl) ?_
          rcases xg_o hF with ⟨r288, er288, hF⟩ | ⟨r288, er288, hF⟩
          · have hm289 : m0 ≤ r288.2.2.2.1.2.2.2.2.2.2.1 ∧ n0 ≤ r288.2.2.2.1.2.2.2.2.2.2.2 := xy_le hm285 (show r284.2.2.2.1.2.2.2.2.2.2.1 ≤ r288.2.2.2.1.2.2.2.2.2.2.1 ∧ r284.2.2.2.1.2.2.2.2.2.2.2 ≤ r288.2.2.2.1.2.2.2.2.2.2.2 from (CM_bad (w := w) (h := h) hb (s := r284.2) er288).1)
            refine xy_V0 (nl := 2) (sm := r284.2.2.2.1.2.2.2.2.2.2.1) (sn := r284.2.2.2.1.2.2.2.2.2.2.2) (tm := r288.2.2.2.1.2.2.2.2.2.2.1) (tn := r288.2.2.2.1.2.2.2.2.2.2.2) (CM_bad hb (s := r284.2) er288) rfl rfl hm285 (fun _ => rfl) (fun _ => rfl) (fun _ => rfl) (fun _ => dM_literal_69) (fun _ R => kM_239 R) (fun _ => rfl) ⟨(Nat.le_of_ble_eq_true rfl), (Nat.le_of_ble_eq_true rfl)⟩ rfl rfl rfl (fun _ => rfl) (Nat.le_of_ble_eq_true rfl) ?_
            refine xy_r (xw_iload_n dM_literal_72 rfl) ?_
            refine xy_brn (xw_if_eqB 90 dM_literal_73 (by decide)) (fun c291 => ?_) (fun c291 => ?_)
            · replace hF := xg_f c291 hF
              refine xy_r (xw_aload_nN dM_literal_90 rfl) ?_
              cases hF
            · replace hF := xg_t c291 hF
              refine xy_r (xw_aload_nN dM_literal_76 rfl) ?_
              refine xy_r (xw_aload_nN dM_literal_77 rfl) ?_
              cases hF
          · subst hF
            exact xy_Vt (nl := 2) (sm := r284.2.2.2.1.2.2.2.2.2.2.1) (sn := r284.2.2.2.1.2.2.2.2.2.2.2) (tm := r288.2.2.2.1.2.2.2.2.2.2.1) (tn := r288.2.2.2.1.2.2.2.2.2.2.2) (CM_bad hb (s := r284.2) er288) rfl rfl hm285 (fun _ => rfl) (fun _ => rfl) (fun _ => rfl) (fun _ => dM_literal_69) (fun _ R => kM_239 R) (fun _ => rfl) ⟨(Nat.le_of_ble_eq_true rfl), (Nat.le_of_ble_eq_true rfl)⟩ rfl rfl rfl (fun _ => rfl) (Nat.le_of_ble_eq_true rfl) ⟨rfl, rfl⟩
        · refine xy_r (xw_Ln (L' := [some (.ref 2000), some (.int (xb t0)), some (.ref (xn i287))]) (by first | (rw [ei287]; done) | (rw [ei287]; rfl))) ?_
          refine xy_r (xw_Sn (st' := [.ref (xn i287)]) (by first | (rw [ei287]; done) | (rw [ei287]; rfl))) ?_
          refine xy_r (xw_ifnonnull_r 72 dM_literal_61 (by decide)) ?_
          refine xy_r (xw_iload_n dM_literal_72 rfl) ?_
          refine xy_brn (xw_if_eqB 90 dM_literal_73 (by decide)) (fun c292 => ?_) (fun c292 => ?_)
          · replace hF := xg_f c292 hF
            refine xy_r (xw_aload_n dM_literal_90 rfl) ?_
            obtain rfl := Option.some.inj hF
            exact xy_end (xw_areturn dM_literal_91 rfl (Or.inl ⟨_, rfl⟩) (Nat.le_refl _) (Nat.le_refl _) ⟨rfl, rfl⟩)
          · replace hF := xg_t c292 hF
            refine xy_r (xw_aload_n dM_literal_76 rfl) ?_
            refine xy_r (xw_aload_n dM_literal_77 rfl) ?_
            obtain ⟨g293, hF⟩ := xg_g hF
            refine xy_r (xw_get dM_literal_78 fM_201 (mV_n g293) rfl) ?_
            refine xy_r (xw_lneg dM_literal_81) ?_
            refine xy_r (xg_put dM_literal_82 fM_201 (mV_n g293) (xn_le _) (Nat.le_of_ble_eq_true rfl) (fun _ => rfl) (fun _ => rfl) (mV_e (s' := (r284.2.1, r284.2.2.1, (r284.2.2.2.1.1, r284.2.2.2.1.2.1, r284.2.2.2.1.2.2.1, r284.2.2.2.1.2.2.2.1, r284.2.2.2.1.2.2.2.2.1, (va_up r284.2.2.2.1.2.2.2.2.2.1 i287 (nNumber (r284.2.2.2.1.2.2.2.2.2.1 i287) (-(r284.2.2.2.1.2.2.2.2.2.1 i287).1.2.2.2))), r284.2.2.2.1.2.2.2.2.2.2), r284.2.2.2.2)) (mV_pn (q := (nNumber (r284.2.2.2.1.2.2.2.2.2.1 i287) (-(r284.2.2.2.1.2.2.2.2.2.1 i287).1.2.2.2))) g293) rfl)) ?_
            refine xy_r (xw_aload_n dM_literal_85 rfl) ?_
            refine xy_r (xw_iconst (1) dM_literal_86 (by decide)) ?_
            refine xy_r (xg_put dM_literal_87 fM_195 (mV_nu (va_up_self _ _ _) g293) (xn_le _) (Nat.le_of_ble_eq_true rfl) (fun _ => rfl) (fun _ => rfl) (mV_e (s' := (r284.2.1, r284.2.2.1, (r284.2.2.2.1.1, r284.2.2.2.1.2.1, r284.2.2.2.1.2.2.1, r284.2.2.2.1.2.2.2.1, r284.2.2.2.1.2.2.2.2.1, (va_up r284.2.2.2.1.2.2.2.2.2.1 i287 (nA (nNumber (r284.2.2.2.1.2.2.2.2.2.1 i287) (-(r284.2.2.2.1.2.2.2.2.2.1 i287).1.2.2.2)) 1)), r284.2.2.2.1.2.2.2.2.2.2), r284.2.2.2.2)) (mV_pu (q := (nA (nNumber (r284.2.2.2.1.2.2.2.2.2.1 i287) (-(r284.2.2.2.1.2.2.2.2.2.1 i287).1.2.2.2)) 1)) g293 (va_up_up _ _ _ _)) rfl)) ?_
            refine xy_r (xw_aload_n dM_literal_90 rfl) ?_
            obtain rfl := Option.some.inj hF
            exact xy_end (xw_areturn dM_literal_91 rfl (Or.inl ⟨_, rfl⟩) (Nat.le_refl _) (Nat.le_refl _) ⟨rfl, rfl⟩)
      · subst hF
        exact xy_Vt (nl := 5) (sm := r279.2.2.1.2.2.2.2.2.2.1) (sn := r279.2.2.1.2.2.2.2.2.2.2) (tm := r284.2.2.2.1.2.2.2.2.2.2.1) (tn := r284.2.2.2.1.2.2.2.2.2.2.2) (CM_constant hb (s := r279) er284) rfl rfl hm280 (fun _ => rfl) (fun _ => rfl) (fun _ => rfl) (fun _ => dM_literal_56) (fun _ R => kM_359 R) (fun _ => rfl) ⟨(Nat.le_of_ble_eq_true rfl), (Nat.le_of_ble_eq_true rfl)⟩ rfl rfl rfl (fun _ => rfl) (Nat.le_of_ble_eq_true rfl) ⟨rfl, rfl⟩
    · replace hF := xg_t c283 hF
      refine xy_r (xw_aload_n dM_literal_47 rfl) ?_
      refine xy_r (xw_aload_n dM_literal_48 rfl) ?_
      refine xy_r (xw_get dM_literal_49 fM_221 rfl rfl) ?_
      rcases xg_o hF with ⟨r294, er294, hF⟩ | ⟨r294, er294, hF⟩
      · have hm295 : m0 ≤ r294.2.2.2.1.2.2.2.2.2.2.1 ∧ n0 ≤ r294.2.2.2.1.2.2.2.2.2.2.2 := xy_le hm280 (show r279.2.2.1.2.2.2.2.2.2.1 ≤ r294.2.2.2.1.2.2.2.2.2.2.1 ∧ r279.2.2.1.2.2.2.2.2.2.2 ≤ r294.2.2.2.1.2.2.2.2.2.2.2 from (CM_bad (w := w) (h := h) hb (s := r279) er294).1)
        refine xy_V0 (nl := 2) (sm := r279.2.2.1.2.2.2.2.2.2.1) (sn := r279.2.2.1.2.2.2.2.2.2.2) (tm := r294.2.2.2.1.2.2.2.2.2.2.1) (tn := r294.2.2.2.1.2.2.2.2.2.2.2) (CM_bad hb (s := r279) er294) rfl rfl hm280 (fun _ => rfl) (fun _ => rfl) (fun _ => rfl) (fun _ => dM_literal_52) (fun _ R => kM_239 R) (fun _ => rfl) ⟨(Nat.le_of_ble_eq_true rfl), (Nat.le_of_ble_eq_true rfl)⟩ rfl rfl rfl (fun _ => rfl) (Nat.le_of_ble_eq_true rfl) ?_
        refine xy_r (xw_aload_n dM_literal_55 rfl) ?_
        rcases xg_o hF with ⟨r297, er297, hF⟩ | ⟨r297, er297, hF⟩
        · have hm298 : m0 ≤ r297.2.2.2.1.2.2.2.2.2.2.1 ∧ n0 ≤ r297.2.2.2.1.2.2.2.2.2.2.2 := xy_le hm295 (show r294.2.2.2.1.2.2.2.2.2.2.1 ≤ r297.2.2.2.1.2.2.2.2.2.2.1 ∧ r294.2.2.2.1.2.2.2.2.2.2.2 ≤ r297.2.2.2.1.2.2.2.2.2.2.2 from (CM_constant (w := w) (h := h) hb (s := r294.2) er297).1)
          refine xy_V1 (nl := 5) (sm := r294.2.2.2.1.2.2.2.2.2.2.1) (sn := r294.2.2.2.1.2.2.2.2.2.2.2) (tm := r297.2.2.2.1.2.2.2.2.2.2.1) (tn := r297.2.2.2.1.2.2.2.2.2.2.2) (CM_constant hb (s := r294.2) er297) rfl rfl hm295 (fun _ => rfl) (fun _ => rfl) (fun _ => rfl) (fun _ => dM_literal_56) (fun _ R => kM_359 R) (fun _ => rfl) ⟨(Nat.le_of_ble_eq_true rfl), (Nat.le_of_ble_eq_true rfl)⟩ rfl rfl rfl (fun _ => rfl) (Nat.le_of_ble_eq_true rfl) ?_
          refine xy_r (xg_astore_n dM_literal_59 (Nat.le_of_ble_eq_true rfl)) ?_
          refine xy_r (xw_Ln (L' := [some (.ref 2000), some (.int (xb t0)), some (xw_rf r297.1)]) rfl) ?_
          refine xy_r (xg_aload_n dM_literal_60 rfl) ?_
          rcases xg_m hF with ⟨ei300, hF⟩ | ⟨i300, ei300, hF⟩
          · refine xy_r (xw_Ln (L' := [some (.ref 2000), some (.int (xb t0)), some (.null)]) (by first | (rw [ei300]; done) | (rw [ei300]; rfl))) ?_
            refine xy_r (xw_Sn (st' := [.null]) (by first | (rw [ei300]; done) | (rw [ei300]; rfl))) ?_
            refine xy_r (xw_ifnonnull_n dM_literal_61) ?_
            refine xy_r (xw_aload_n dM_literal_64 rfl) ?_
            refine xy_r (xw_aload_n dM_literal_65 rfl) ?_
            refine xy_r (xw_get dM_literal_66 fM_221 rfl rfl) ?_
            rcases xg_o hF with ⟨r301, er301, hF⟩ | ⟨r301, er301, hF⟩
            · have hm302 : m0 ≤ r301.2.2.2.1.2.2.2.2.2.2.1 ∧ n0 ≤ r301.2.2.2.1.2.2.2.2.2.2.2 := xy_le hm298 (show r297.2.2.2.1.2.2.2.2.2.2.1 ≤ r301.2.2.2.1.2.2.2.2.2.2.1 ∧ r297.2.2.2.1.2.2.2.2.2.2.2 ≤ r301.2.2.2.1.2.2.2.2.2.2.2 from (CM_bad (w := w) (h := h) hb (s := r297.2) er301).1)
              refine xy_V0 (nl := 2) (sm := r297.2.2.2.1.2.2.2.2.2.2.1) (sn := r297.2.2.2.1.2.2.2.2.2.2.2) (tm := r301.2.2.2.1.2.2.2.2.2.2.1) (tn := r301.2.2.2.1.2.2.2.2.2.2.2) (CM_bad hb (s := r297.2) er301) rfl rfl hm298 (fun _ => rfl) (fun _ => rfl) (fun _ => rfl) (fun _ => dM_literal_69) (fun _ R => kM_239 R) (fun _ => rfl) ⟨(Nat.le_of_ble_eq_true rfl), (Nat.le_of_ble_eq_true rfl)⟩ rfl rfl rfl (fun _ => rfl) (Nat.le_of_ble_eq_true rfl) ?_
              refine xy_r (xw_iload_n dM_literal_72 rfl) ?_
              refine xy_brn (xw_if_eqB 90 dM_literal_73 (by decide)) (fun c304 => ?_) (fun c304 => ?_)
              · replace hF := xg_f c304 hF
                refine xy_r (xw_aload_nN dM_literal_90 rfl) ?_
                cases hF
              · replace hF := xg_t c304 hF
                refine xy_r (xw_aload_nN dM_literal_76 rfl) ?_
                refine xy_r (xw_aload_nN dM_literal_77 rfl) ?_
                cases hF
            · subst hF
              exact xy_Vt (nl := 2) (sm := r297.2.2.2.1.2.2.2.2.2.2.1) (sn := r297.2.2.2.1.2.2.2.2.2.2.2) (tm := r301.2.2.2.1.2.2.2.2.2.2.1) (tn := r301.2.2.2.1.2.2.2.2.2.2.2) (CM_bad hb (s := r297.2) er301) rfl rfl hm298 (fun _ => rfl) (fun _ => rfl) (fun _ => rfl) (fun _ => dM_literal_69) (fun _ R => kM_239 R) (fun _ => rfl) ⟨(Nat.le_of_ble_eq_true rfl), (Nat.le_of_ble_eq_true rfl)⟩ rfl rfl rfl (fun _ => rfl) (Nat.le_of_ble_eq_true rfl) ⟨rfl, rfl⟩
          · refine xy_r (xw_Ln (L' := [some (.ref 2000), some (.int (xb t0)), some (.ref (xn i300))]) (by first | (rw [ei300]; done) | (rw [ei300]; rfl))) ?_
            refine xy_r (xw_Sn (st' := [.ref (xn i300)]) (by first | (rw [ei300]; done) | (rw [ei300]; rfl))) ?_
            refine xy_r (xw_ifnonnull_r 72 dM_literal_61 (by decide)) ?_
            refine xy_r (xw_iload_n dM_literal_72 rfl) ?_
            refine xy_brn (xw_if_eqB 90 dM_literal_73 (by decide)) (fun c305 => ?_) (fun c305 => ?_)
            · replace hF := xg_f c305 hF
              refine xy_r (xw_aload_n dM_literal_90 rfl) ?_
              obtain rfl := Option.some.inj hF
              exact xy_end (xw_areturn dM_literal_91 rfl (Or.inl ⟨_, rfl⟩) (Nat.le_refl _) (Nat.le_refl _) ⟨rfl, rfl⟩)
            · replace hF := xg_t c305 hF
              refine xy_r (xw_aload_n dM_literal_76 rfl) ?_
              refine xy_r (xw_aload_n dM_literal_77 rfl) ?_
              obtain ⟨g306, hF⟩ := xg_g hF
              refine xy_r (xw_get dM_literal_78 fM_201 (mV_n g306) rfl) ?_
              refine xy_r (xw_lneg dM_literal_81) ?_
              refine xy_r (xg_put dM_literal_82 fM_201 (mV_n g306) (xn_le _) (Nat.le_of_ble_eq_true rfl) (fun _ => rfl) (fun _ => rfl) (mV_e (s' := (r297.2.1, r297.2.2.1, (r297.2.2.2.1.1, r297.2.2.2.1.2.1, r297.2.2.2.1.2.2.1, r297.2.2.2.1.2.2.2.1, r297.2.2.2.1.2.2.2.2.1, (va_up r297.2.2.2.1.2.2.2.2.2.1 i300 (nNumber (r297.2.2.2.1.2.2.2.2.2.1 i300) (-(r297.2.2.2.1.2.2.2.2.2.1 i300).1.2.2.2))), r297.2.2.2.1.2.2.2.2.2.2), r297.2.2.2.2)) (mV_pn (q := (nNumber (r297.2.2.2.1.2.2.2.2.2.1 i300) (-(r297.2.2.2.1.2.2.2.2.2.1 i300).1.2.2.2))) g306) rfl)) ?_
              refine xy_r (xw_aload_n dM_literal_85 rfl) ?_
              refine xy_r (xw_iconst (1) dM_literal_86 (by decide)) ?_
              refine xy_r (xg_put dM_literal_87 fM_195 (mV_nu (va_up_self _ _ _) g306) (xn_le _) (Nat.le_of_ble_eq_true rfl) (fun _ => rfl) (fun _ => rfl) (mV_e (s' := (r297.2.1, r297.2.2.1, (r297.2.2.2.1.1, r297.2.2.2.1.2.1, r297.2.2.2.1.2.2.1, r297.2.2.2.1.2.2.2.1, r297.2.2.2.1.2.2.2.2.1, (va_up r297.2.2.2.1.2.2.2.2.2.1 i300 (nA (nNumber (r297.2.2.2.1.2.2.2.2.2.1 i300) (-(r297.2.2.2.1.2.2.2.2.2.1 i300).1.2.2.2)) 1)), r297.2.2.2.1.2.2.2.2.2.2), r297.2.2.2.2)) (mV_pu (q := (nA (nNumber (r297.2.2.2.1.2.2.2.2.2.1 i300) (-(r297.2.2.2.1.2.2.2.2.2.1 i300).1.2.2.2)) 1)) g306 (va_up_up _ _ _ _)) rfl)) ?_
              refine xy_r (xw_aload_n dM_literal_90 rfl) ?_
              obtain rfl := Option.some.inj hF
              exact xy_end (xw_areturn dM_literal_91 rfl (Or.inl ⟨_, rfl⟩) (Nat.le_refl _) (Nat.le_refl _) ⟨rfl, rfl⟩)
        · subst hF
          exact xy_Vt (nl := 5) (sm := r294.2.2.2.1.2.2.2.2.2.2.1) (sn := r294.2.2.2.1.2.2.2.2.2.2.2) (tm := r297.2.2.2.1.2.2.2.2.2.2.1) (tn := r297.2.2.2.1.2.2.2.2.2.2.2) (CM_constant hb (s := r294.2) er297) rfl rfl hm295 (fun _ => rfl) (fun _ => rfl) (fun _ => rfl) (fun _ => dM_literal_56) (fun _ R => kM_359 R) (fun _ => rfl) ⟨(Nat.le_of_ble_eq_true rfl), (Nat.le_of_ble_eq_true rfl)⟩ rfl rfl rfl (fun _ => rfl) (Nat.le_of_ble_eq_true rfl) ⟨rfl, rfl⟩
      · subst hF
        exact xy_Vt (nl := 2) (sm := r279.2.2.1.2.2.2.2.2.2.1) (sn := r279.2.2.1.2.2.2.2.2.2.2) (tm := r294.2.2.2.1.2.2.2.2.2.2.1) (tn := r294.2.2.2.1.2.2.2.2.2.2.2) (CM_bad hb (s := r279) er294) rfl rfl hm280 (fun _ => rfl) (fun _ => rfl) (fun _ => rfl) (fun _ => dM_literal_52) (fun _ R => kM_239 R) (fun _ => rfl) ⟨(Nat.le_of_ble_eq_true rfl), (Nat.le_of_ble_eq_true rfl)⟩ rfl rfl rfl (fun _ => rfl) (Nat.le_of_ble_eq_true rfl) ⟨rfl, rfl⟩
set_option maxRecDepth 20000 in
theorem CM_literal {w : xw_G} {h : xw_H} (hb : xMb h)  {s : xMs} {out : (xo Nat xMs)} (hF : FM_literal  s = some out) : (s.2.2.1.2.2.2.2.2.2.1 ≤ (xo_s out).2.2.1.2.2.2.2.2.2.1 ∧ s.2.2.1.2.2.2.2.2.2.2 ≤ (xo_s out).2.2.1.2.2.2.2.2.2.2) ∧ xw_C w (mM_literal { frames := 9, cells := (xo_s out).2.2.1.2.2.2.2.2.2.1 - s.2.2.1.2.2.2.2.2.2.1, slots := (xo_s out).2.2.1.2.2.2.2.2.2.2 - s.2.2.1.2.2.2.2.2.2.2, locals := 171 }) (xo_P (fun x => some (.ref (xn x))) (fun s => mV s h) out) [.ref 2000] (mV s h) := by
  unfold FM_literal at hF
  refine xy_enter (L := [some (.ref 2000), none, none]) (fun _ => rfl) (fun _ => rfl) (fun _ => (show plainName "FormulaShaperModel" = true by decide +kernel)) (fun _ => (Nat.le_of_ble_eq_true rfl)) (fun _ => rfl) ?_
  have hm : s.2.2.1.2.2.2.2.2.2.1 ≤ s.2.2.1.2.2.2.2.2.2.1 ∧ s.2.2.1.2.2.2.2.2.2.2 ≤ s.2.2.1.2.2.2.2.2.2.2 := ⟨Nat.le_refl _, Nat.le_refl _⟩
  refine xy_r (xw_aload_n dM_literal_0 rfl) ?_
  obtain ⟨r263, er263, hF⟩ := xg_b hF
  have hm264 : s.2.2.1.2.2.2.2.2.2.1 ≤ r263.2.2.1.2.2.2.2.2.2.1 ∧ s.2.2.1.2.2.2.2.2.2.2 ≤ r263.2.2.1.2.2.2.2.2.2.2 := xy_le hm (show s.2.2.1.2.2.2.2.2.2.1 ≤ r263.2.2.1.2.2.2.2.2.2.1 ∧ s.2.2.1.2.2.2.2.2.2.2 ≤ r263.2.2.1.2.2.2.2.2.2.2 from (CM_blanks (w := w) (h := h) hb (s := s) er263).1)
  refine xy_V0 (nl := 1) (sm := s.2.2.1.2.2.2.2.2.2.1) (sn := s.2.2.1.2.2.2.2.2.2.2) (tm := r263.2.2.1.2.2.2.2.2.2.1) (tn := r263.2.2.1.2.2.2.2.2.2.2) (CM_blanks hb (s := s) er263) rfl rfl hm (fun _ => rfl) (fun _ => rfl) (fun _ => rfl) (fun _ => dM_literal_1) (fun _ R => kM_233 R) (fun _ => rfl) ⟨(Nat.le_of_ble_eq_true rfl), (Nat.le_of_ble_eq_true rfl)⟩ rfl rfl rfl (fun _ => rfl) (Nat.le_of_ble_eq_true rfl) ?_
  refine xy_r (xw_aload_n dM_literal_4 rfl) ?_
  obtain ⟨r266, er266, hF⟩ := xg_b hF
  refine xy_q (fun hq => xg_V1 (k1 := _) (n1 := _) (CM_peek er266) rfl rfl rfl dM_literal_5 (kM_230 _) ⟨Nat.le_of_ble_eq_true rfl, Nat.le_of_ble_eq_true rfl⟩ rfl rfl rfl rfl (Nat.le_of_ble_eq_true rfl) (Nat.le_refl _) (Nat.le_refl _) (Nat.sub_le_sub_right hq.1 _) (Nat.sub_le_sub_right hq.2 _)) ?_
  refine xy_r (xw_bipush (45) dM_literal_8 (by decide)) ?_
  refine xy_brn (xw_icmp_ne 17 dM_literal_10 (by decide)) (fun c267 => ?_) (fun c267 => ?_)
  · replace hF := xg_f c267 hF
    refine xy_r (xw_iconst (0) dM_literal_17 (by decide)) ?_
    exact CM_literal_18 hb (s := r263) hm264 hF
  · replace hF := xg_t c267 hF
    refine xy_r (xw_iconst (1) dM_literal_13 (by decide)) ?_
    refine xy_r (xw_goto 18 dM_literal_14 (by decide)) ?_
    exact CM_literal_18 hb (s := r263) hm264 hF
def FM_rows_L : Nat → (Nat → Int32 → xMs → Option (xo Nat xMs)) × (Nat → Int32 → Int32 → xMs → Option (xo Nat xMs))
  | 0 => (fun _ _ _ => none, fun _ _ _ _ => none)
  | fu + 1 => (fun l1 l2 s => xo_b (FM_literal s) fun r313 => if l1 < r313.2.2.2.1.2.2.2.2.1 then ((FN_add l1 r313.1 r313.2).bind fun r317 => (FM_rows_L fu).2 l1 l2 1 r317) else none, fun l1 l2 l3 s => (FM_next 44 s).bind fun r320 => if r320.1 = true then (if l1 < r320.2.2.2.1.2.2.2.2.1 then (if (r320.2.2.2.1.2.2.2.2.2.1 l1).1.2.1 ≤ 0 then (xo_b (FM_literal (r320.2.1, (r320.2.2.1.1, (r320.2.2.1.2.1 + 1), r320.2.2.1.2.2), r320.2.2.2)) fun r426 => if l1 < r426.2.2.2.1.2.2.2.2.1 then ((FN_add l1 r426.1 r426.2).bind fun r430 => (FM_rows_L fu).2 l1 l2 (l3 + 1) r430) else none) else (if l3 = l2 then (xo_b (FM_bad r320.2.2.1.2.1 r320.2) fun r441 => xo_b (FM_literal (r441.2.1, (r441.2.2.1.1, (r441.2.2.1.2.1 + 1), r441.2.2.1.2.2), r441.2.2.2)) fun r444 => if l1 < r444.2.2.2.1.2.2.2.2.1 then ((FN_add l1 r444.1 r444.2).bind fun r448 => (FM_rows_L fu).2 l1 l2 (l3 + 1) r448) else none) else (xo_b (FM_literal (r320.2.1, (r320.2.2.1.1, (r320.2.2.1.2.1 + 1), r320.2.2.1.2.2), r320.2.2.2)) fun r434 => if l1 < r434.2.2.2.1.2.2.2.2.1 then ((FN_add l1 r434.1 r434.2).bind fun r438 => (FM_rows_L fu).2 l1 l2 (l3 + 1) r438) else none))) else none) else (if l1 < r320.2.2.2.1.2.2.2.2.1 then (if (r320.2.2.2.1.2.2.2.2.2.1 l1).1.2.1 ≤ 0 then (if (r320.2.2.2.1.2.2.2.2.2.1 l1).1.2.1 = 0 then ((FM_next 59 (r320.2.1, r320.2.2.1, (r320.2.2.2.1.1, r320.2.2.2.1.2.1, r320.2.2.2.1.2.2.1, r320.2.2.2.1.2.2.2.1, r320.2.2.2.1.2.2.2.2.1, (va_up r320.2.2.2.1.2.2.2.2.2.1 l1 (nA (r320.2.2.2.1.2.2.2.2.2.1 l1) ((r320.2.2.2.1.2.2.2.2.2.1 l1).1.2.1 + 1))), r320.2.2.2.1.2.2.2.2.2.2), r320.2.2.2.2)).bind fun r335 => if r335.1 = true then ((FM_rows_L fu).1 l1 l3 (r335.2.1, (r335.2.2.1.1, (r335.2.2.1.2.1 + 1), r335.2.2.1.2.2), r335.2.2.2)) else (if l1 < r335.2.2.2.1.2.2.2.2.1 then (xo_b (FM_close 125 (r335.2.1, r335.2.2.1, (r335.2.2.2.1.1, r335.2.2.2.1.2.1, r335.2.2.2.1.2.2.1, r335.2.2.2.1.2.2.2.1, r335.2.2.2.1.2.2.2.2.1, (va_up r335.2.2.2.1.2.2.2.2.2.1 l1 (nB (r335.2.2.2.1.2.2.2.2.2.1 l1) l3)), r335.2.2.2.1.2.2.2.2.2.2), r335.2.2.2.2)) fun r340 => some (.inl (l1, r340.2))) else none)) else ((FM_next 59 (r320.2.1, r320.2.2.1, (r320.2.2.2.1.1, r320.2.2.2.1.2.1, r320.2.2.2.1.2.2.1, r320.2.2.2.1.2.2.2.1, r320.2.2.2.1.2.2.2.2.1, (va_up r320.2.2.2.1.2.2.2.2.2.1 l1 (nA (r320.2.2.2.1.2.2.2.2.2.1 l1) ((r320.2.2.2.1.2.2.2.2.2.1 l1).1.2.1 + 1))), r320.2.2.2.1.2.2.2.2.2.2), r320.2.2.2.2)).bind fun r327 => if r327.1 = true then ((FM_rows_L fu).1 l1 l2 (r327.2.1, (r327.2.2.1.1, (r327.2.2.1.2.1 + 1), r327.2.2.1.2.2), r327.2.2.2)) else (if l1 < r327.2.2.2.1.2.2.2.2.1 then (xo_b (FM_close 125 (r327.2.1, r327.2.2.1, (r327.2.2.2.1.1, r327.2.2.2.1.2.1, r327.2.2.2.1.2.2.1, r327.2.2.2.1.2.2.2.1, r327.2.2.2.1.2.2.2.2.1, (va_up r327.2.2.2.1.2.2.2.2.2.1 l1 (nB (r327.2.2.2.1.2.2.2.2.2.1 l1) l2)), r327.2.2.2.1.2.2.2.2.2.2), r327.2.2.2.2)) fun r332 => some (.inl (l1, r332.2))) else none))) else (if l2 ≤ l3 then (if (r320.2.2.2.1.2.2.2.2.2.1 l1).1.2.1 = 0 then ((FM_next 59 (r320.2.1, r320.2.2.1, (r320.2.2.2.1.1, r320.2.2.2.1.2.1, r320.2.2.2.1.2.2.1, r320.2.2.2.1.2.2.2.1, r320.2.2.2.1.2.2.2.2.1, (va_up r320.2.2.2.1.2.2.2.2.2.1 l1 (nA (r320.2.2.2.1.2.2.2.2.2.1 l1) ((r320.2.2.2.1.2.2.2.2.2.1 l1).1.2.1 + 1))), r320.2.2.2.1.2.2.2.2.2.2), r320.2.2.2.2)).bind fun r353 => if r353.1 = true then ((FM_rows_L fu).1 l1 l3 (r353.2.1, (r353.2.2.1.1, (r353.2.2.1.2.1 + 1), r353.2.2.1.2.2), r353.2.2.2)) else (if l1 < r353.2.2.2.1.2.2.2.2.1 then (xo_b (FM_close 125 (r353.2.1, r353.2.2.1, (r353.2.2.2.1.1, r353.2.2.2.1.2.1, r353.2.2.2.1.2.2.1, r353.2.2.2.1.2.2.2.1, r353.2.2.2.1.2.2.2.2.1, (va_up r353.2.2.2.1.2.2.2.2.2.1 l1 (nB (r353.2.2.2.1.2.2.2.2.2.1 l1) l3)), r353.2.2.2.1.2.2.2.2.2.2), r353.2.2.2.2)) fun r358 => some (.inl (l1, r358.2))) else none)) else ((FM_next 59 (r320.2.1, r320.2.2.1, (r320.2.2.2.1.1, r320.2.2.2.1.2.1, r320.2.2.2.1.2.2.1, r320.2.2.2.1.2.2.2.1, r320.2.2.2.1.2.2.2.2.1, (va_up r320.2.2.2.1.2.2.2.2.2.1 l1 (nA (r320.2.2.2.1.2.2.2.2.2.1 l1) ((r320.2.2.2.1.2.2.2.2.2.1 l1).1.2.1 + 1))), r320.2.2.2.1.2.2.2.2.2.2), r320.2.2.2.2)).bind fun r345 => if r345.1 = true then ((FM_rows_L fu).1 l1 l2 (r345.2.1, (r345.2.2.1.1, (r345.2.2.1.2.1 + 1), r345.2.2.1.2.2), r345.2.2.2)) else (if l1 < r345.2.2.2.1.2.2.2.2.1 then (xo_b (FM_close 125 (r345.2.1, r345.2.2.1, (r345.2.2.2.1.1, r345.2.2.2.1.2.1, r345.2.2.2.1.2.2.1, r345.2.2.2.1.2.2.2.1, r345.2.2.2.1.2.2.2.2.1, (va_up r345.2.2.2.1.2.2.2.2.2.1 l1 (nB (r345.2.2.2.1.2.2.2.2.2.1 l1) l2)), r345.2.2.2.1.2.2.2.2.2.2), r345.2.2.2.2)) fun r350 => some (.inl (l1, r350.2))) else none))) else ((FM_peek r320.2).bind fun r361 => if r361 = 59 then (xo_b (FM_bad r320.2.2.1.2.1 r320.2) fun r363 => if l1 < r363.2.2.2.1.2.2.2.2.1 then (if (r363.2.2.2.1.2.2.2.2.2.1 l1).1.2.1 = 0 then ((FM_next 59 (r363.2.1, r363.2.2.1, (r363.2.2.2.1.1, r363.2.2.2.1.2.1, r363.2.2.2.1.2.2.1, r363.2.2.2.1.2.2.2.1, r363.2.2.2.1.2.2.2.2.1, (va_up r363.2.2.2.1.2.2.2.2.2.1 l1 (nA (r363.2.2.2.1.2.2.2.2.2.1 l1) ((r363.2.2.2.1.2.2.2.2.2.1 l1).1.2.1 + 1))), r363.2.2.2.1.2.2.2.2.2.2), r363.2.2.2.2)).bind fun r376 => if r376.1 = true then ((FM_rows_L fu).1 l1 l3 (r376.2.1, (r376.2.2.1.1, (r376.2.2.1.2.1 + 1), r376.2.2.1.2.2), r376.2.2.2)) else (if l1 < r376.2.2.2.1.2.2.2.2.1 then (xo_b (FM_close 125 (r376.2.1, r376.2.2.1, (r376.2.2.2.1.1, r376.2.2.2.1.2.1, r376.2.2.2.1.2.2.1, r376.2.2.2.1.2.2.2.1, r376.2.2.2.1.2.2.2.2.1, (va_up r376.2.2.2.1.2.2.2.2.2.1 l1 (nB (r376.2.2.2.1.2.2.2.2.2.1 l1) l3)), r376.2.2.2.1.2.2.2.2.2.2), r376.2.2.2.2)) fun r381 => some (.inl (l1, r381.2))) else none)) else ((FM_next 59 (r363.2.1, r363.2.2.1, (r363.2.2.2.1.1, r363.2.2.2.1.2.1, r363.2.2.2.1.2.2.1, r363.2.2.2.1.2.2.2.1, r363.2.2.2.1.2.2.2.2.1, (va_up r363.2.2.2.1.2.2.2.2.2.1 l1 (nA (r363.2.2.2.1.2.2.2.2.2.1 l1) ((r363.2.2.2.1.2.2.2.2.2.1 l1).1.2.1 + 1))), r363.2.2.2.1.2.2.2.2.2.2), r363.2.2.2.2)).bind fun r368 => if r368.1 = true then ((FM_rows_L fu).1 l1 l2 (r368.2.1, (r368.2.2.1.1, (r368.2.2.1.2.1 + 1), r368.2.2.1.2.2), r368.2.2.2)) else (if l1 < r368.2.2.2.1.2.2.2.2.1 then (xo_b (FM_close 125 (r368.2.1, r368.2.2.1, (r368.2.2.2.1.1, r368.2.2.2.1.2.1, r368.2.2.2.1.2.2.1, r368.2.2.2.1.2.2.2.1, r368.2.2.2.1.2.2.2.2.1, (va_up r368.2.2.2.1.2.2.2.2.2.1 l1 (nB (r368.2.2.2.1.2.2.2.2.2.1 l1) l2)), r368.2.2.2.1.2.2.2.2.2.2), r368.2.2.2.2)) fun r373 => some (.inl (l1, r373.2))) else none))) else none) else ((FM_peek r320.2).bind fun r384 => if r384 = 125 then (xo_b (FM_bad r320.2.2.1.2.1 r320.2) fun r403 => if l1 < r403.2.2.2.1.2.2.2.2.1 then (if (r403.2.2.2.1.2.2.2.2.2.1 l1).1.2.1 = 0 then ((FM_next 59 (r403.2.1, r403.2.2.1, (r403.2.2.2.1.1, r403.2.2.2.1.2.1, r403.2.2.2.1.2.2.1, r403.2.2.2.1.2.2.2.1, r403.2.2.2.1.2.2.2.2.1, (va_up r403.2.2.2.1.2.2.2.2.2.1 l1 (nA (r403.2.2.2.1.2.2.2.2.2.1 l1) ((r403.2.2.2.1.2.2.2.2.2.1 l1).1.2.1 + 1))), r403.2.2.2.1.2.2.2.2.2.2), r403.2.2.2.2)).bind fun r416 => if r416.1 = true then ((FM_rows_L fu).1 l1 l3 (r416.2.1, (r416.2.2.1.1, (r416.2.2.1.2.1 + 1), r416.2.2.1.2.2), r416.2.2.2)) else (if l1 < r416.2.2.2.1.2.2.2.2.1 then (xo_b (FM_close 125 (r416.2.1, r416.2.2.1, (r416.2.2.2.1.1, r416.2.2.2.1.2.1, r416.2.2.2.1.2.2.1, r416.2.2.2.1.2.2.2.1, r416.2.2.2.1.2.2.2.2.1, (va_up r416.2.2.2.1.2.2.2.2.2.1 l1 (nB (r416.2.2.2.1.2.2.2.2.2.1 l1) l3)), r416.2.2.2.1.2.2.2.2.2.2), r416.2.2.2.2)) fun r421 => some (.inl (l1, r421.2))) else none)) else ((FM_next 59 (r403.2.1, r403.2.2.1, (r403.2.2.2.1.1, r403.2.2.2.1.2.1, r403.2.2.2.1.2.2.1, r403.2.2.2.1.2.2.2.1, r403.2.2.2.1.2.2.2.2.1, (va_up r403.2.2.2.1.2.2.2.2.2.1 l1 (nA (r403.2.2.2.1.2.2.2.2.2.1 l1) ((r403.2.2.2.1.2.2.2.2.2.1 l1).1.2.1 + 1))), r403.2.2.2.1.2.2.2.2.2.2), r403.2.2.2.2)).bind fun r408 => if r408.1 = true then ((FM_rows_L fu).1 l1 l2 (r408.2.1, (r408.2.2.1.1, (r408.2.2.1.2.1 + 1), r408.2.2.1.2.2), r408.2.2.2)) else (if l1 < r408.2.2.2.1.2.2.2.2.1 then (xo_b (FM_close 125 (r408.2.1, r408.2.2.1, (r408.2.2.2.1.1, r408.2.2.2.1.2.1, r408.2.2.2.1.2.2.1, r408.2.2.2.1.2.2.2.1, r408.2.2.2.1.2.2.2.2.1, (va_up r408.2.2.2.1.2.2.2.2.2.1 l1 (nB (r408.2.2.2.1.2.2.2.2.2.1 l1) l2)), r408.2.2.2.1.2.2.2.2.2.2), r408.2.2.2.2)) fun r413 => some (.inl (l1, r413.2))) else none))) else none) else (if (r320.2.2.2.1.2.2.2.2.2.1 l1).1.2.1 = 0 then ((FM_next 59 (r320.2.1, r320.2.2.1, (r320.2.2.2.1.1, r320.2.2.2.1.2.1, r320.2.2.2.1.2.2.1, r320.2.2.2.1.2.2.2.1, r320.2.2.2.1.2.2.2.2.1, (va_up r320.2.2.2.1.2.2.2.2.2.1 l1 (nA (r320.2.2.2.1.2.2.2.2.2.1 l1) ((r320.2.2.2.1.2.2.2.2.2.1 l1).1.2.1 + 1))), r320.2.2.2.1.2.2.2.2.2.2), r320.2.2.2.2)).bind fun r395 => if r395.1 = true then ((FM_rows_L fu).1 l1 l3 (r395.2.1, (r395.2.2.1.1, (r395.2.2.1.2.1 + 1), r395.2.2.1.2.2), r395.2.2.2)) else (if l1 < r395.2.2.2.1.2.2.2.2.1 then (xo_b (FM_close 125 (r395.2.1, r395.2.2.1, (r395.2.2.2.1.1, r395.2.2.2.1.2.1, r395.2.2.2.1.2.2.1, r395.2.2.2.1.2.2.2.1, r395.2.2.2.1.2.2.2.2.1, (va_up r395.2.2.2.1.2.2.2.2.2.1 l1 (nB (r395.2.2.2.1.2.2.2.2.2.1 l1) l3)), r395.2.2.2.1.2.2.2.2.2.2), r395.2.2.2.2)) fun r400 => some (.inl (l1, r400.2))) else none)) else ((FM_next 59 (r320.2.1, r320.2.2.1, (r320.2.2.2.1.1, r320.2.2.2.1.2.1, r320.2.2.2.1.2.2.1, r320.2.2.2.1.2.2.2.1, r320.2.2.2.1.2.2.2.2.1, (va_up r320.2.2.2.1.2.2.2.2.2.1 l1 (nA (r320.2.2.2.1.2.2.2.2.2.1 l1) ((r320.2.2.2.1.2.2.2.2.2.1 l1).1.2.1 + 1))), r320.2.2.2.1.2.2.2.2.2.2), r320.2.2.2.2)).bind fun r387 => if r387.1 = true then ((FM_rows_L fu).1 l1 l2 (r387.2.1, (r387.2.2.1.1, (r387.2.2.1.2.1 + 1), r387.2.2.1.2.2), r387.2.2.2)) else (if l1 < r387.2.2.2.1.2.2.2.2.1 then (xo_b (FM_close 125 (r387.2.1, r387.2.2.1, (r387.2.2.2.1.1, r387.2.2.2.1.2.1, r387.2.2.2.1.2.2.1, r387.2.2.2.1.2.2.2.1, r387.2.2.2.1.2.2.2.2.1, (va_up r387.2.2.2.1.2.2.2.2.2.1 l1 (nB (r387.2.2.2.1.2.2.2.2.2.1 l1) l2)), r387.2.2.2.1.2.2.2.2.2.2), r387.2.2.2.2)) fun r392 => some (.inl (l1, r392.2))) else none))))))) else none))
def FM_rows_13 (fu : Nat) (l1 : Nat) (l2 : Int32) (s : xMs) : Option (xo Nat xMs) := (FM_rows_L fu).1 l1 l2 s
def FM_rows_23 (fu : Nat) (l1 : Nat) (l2 : Int32) (l3 : Int32) (s : xMs) : Option (xo Nat xMs) := (FM_rows_L fu).2 l1 l2 l3 s
/-- FormulaShaperModel.rows -/
def FM_rows  (s : xMs) : Option (xo Nat xMs) := (FM_node 8 s).bind fun r307 => xo_b (FM_open r307.2) fun r310 => FM_rows_13 xFuel r307.1 0 r310.2
set_option maxRecDepth 20000 in
theorem CM_rows_L {w : xw_G} {h : xw_H} (hb : xMb h) : ∀ (fu : Nat), (∀  {l1 : Nat} {l2 : Int32} {s : xMs} {out : (xo Nat xMs)} {h0 : xw_H} {m0 n0 : Nat} (hm : m0 ≤ s.2.2.1.2.2.2.2.2.2.1 ∧ n0 ≤ s.2.2.1.2.2.2.2.2.2.2), FM_rows_13 fu l1 l2 s = some out → xw_Y w mM_rows 10 193 (xo_P (fun x => some (.ref (xn x))) (fun s => mV s h) out) h0 m0 n0 s.2.2.1.2.2.2.2.2.2.1 s.2.2.1.2.2.2.2.2.2.2 (xo_s out).2.2.1.2.2.2.2.2.2.1 (xo_s out).2.2.1.2.2.2.2.2.2.2 13 [some (.ref 2000), some (.ref (xn l1)), some (.int l2), none] [] (mV s h)) ∧ (∀  {l1 : Nat} {l2 : Int32} {l3 : Int32} {s : xMs} {out : (xo Nat xMs)} {h0 : xw_H} {m0 n0 : Nat} (hm : m0 ≤ s.2.2.1.2.2.2.2.2.2.1 ∧ n0 ≤ s.2.2.1.2.2.2.2.2.2.2), FM_rows_23 fu l1 l2 l3 s = some out → xw_Y w mM_rows 10 193 (xo_P (fun x => some (.ref (xn x))) (fun s => mV s h) out) h0 m0 n0 s.2.2.1.2.2.2.2.2.2.1 s.2.2.1.2.2.2.2.2.2.2 (xo_s out).2.2.1.2.2.2.2.2.2.1 (xo_s out).2.2.1.2.2.2.2.2.2.2 23 [some (.ref 2000), some (.ref (xn l1)), some (.int l2), some (.int l3)] [] (mV s h)) := by
  intro fu
  induction fu with
  | zero => exact ⟨fun _ q => (Option.some_ne_none _ q.symm).elim, fun _ q => (Option.some_ne_none _ q.symm).elim⟩
  | succ fu ih =>
    refine ⟨?_, ?_⟩
    · intro l1 l2 s out h0 m0 n0 hm hF
      replace hF : (xo_b (FM_literal s) fun r313 => if l1 < r313.2.2.2.1.2.2.2.2.1 then ((FN_add l1 r313.1 r313.2).bind fun r317 => FM_rows_23 fu l1 l2 1 r317) else none) = some out := hF
      refine xy_r (xw_iconst (1) dM_rows_13 (by decide)) ?_
      refine xy_r (xw_istore_n dM_rows_14 (Nat.le_of_ble_eq_true rfl)) ?_
      refine xy_r (xw_Ln (L' := [some (.ref 2000), some (.ref (xn l1)), some (.int l2), some (.int 1)]) rfl) ?_
      refine xy_r (xw_aload_n dM_rows_15 rfl) ?_
      refine xy_r (xw_aload_n dM_rows_16 rfl) ?_
      rcases xg_o hF with ⟨r313, er313, hF⟩ | ⟨r313, er313, hF⟩
      · have hm314 : m0 ≤ r313.2.2.2.1.2.2.2.2.2.2.1 ∧ n0 ≤ r313.2.2.2.1.2.2.2.2.2.2.2 := xy_le hm (show s.2.2.1.2.2.2.2.2.2.1 ≤ r313.2.2.2.1.2.2.2.2.2.2.1 ∧ s.2.2.1.2.2.2.2.2.2.2 ≤ r313.2.2.2.1.2.2.2.2.2.2.2 from (CM_literal (w := w) (h := h) hb (s := s) er313).1)
        refine xy_V1 (nl := 3) (sm := s.2.2.1.2.2.2.2.2.2.1) (sn := s.2.2.1.2.2.2.2.2.2.2) (tm := r313.2.2.2.1.2.2.2.2.2.2.1) (tn := r313.2.2.2.1.2.2.2.2.2.2.2) (CM_literal hb (s := s) er313) rfl rfl hm (fun _ => rfl) (fun _ => rfl) (fun _ => rfl) (fun _ => dM_rows_17) (fun _ R => kM_404 R) (fun _ => rfl) ⟨(Nat.le_of_ble_eq_true rfl), (Nat.le_of_ble_eq_true rfl)⟩ rfl rfl rfl (fun _ => rfl) (Nat.le_of_ble_eq_true rfl) ?_
        obtain ⟨g316, hF⟩ := xg_g hF
        obtain ⟨r317, er317, hF⟩ := xg_b hF
        have hm318 : m0 ≤ r317.2.2.1.2.2.2.2.2.2.1 ∧ n0 ≤ r317.2.2.1.2.2.2.2.2.2.2 := xy_le hm314 (show r313.2.2.2.1.2.2.2.2.2.2.1 ≤ r317.2.2.1.2.2.2.2.2.2.1 ∧ r313.2.2.2.1.2.2.2.2.2.2.2 ≤ r317.2.2.1.2.2.2.2.2.2.2 from (CN_add (w := w) (h := h) hb (s := r313.2) er317).1)
        refine xy_V0 (nl := 2) (sm := r313.2.2.2.1.2.2.2.2.2.2.1) (sn := r313.2.2.2.1.2.2.2.2.2.2.2) (tm := r317.2.2.1.2.2.2.2.2.2.1) (tn := r317.2.2.1.2.2.2.2.2.2.2) (CN_add hb (s := r313.2) er317) rfl rfl hm314 (fun _ => rfl) (fun _ => rfl) (fun _ => rfl) (fun _ => dM_rows_20) (fun _ R => kM_257 R) (fun _ => rfl) ⟨(Nat.le_of_ble_eq_true rfl), (Nat.le_of_ble_eq_true rfl)⟩ rfl rfl (mV_n g316) (fun _ => rfl) (Nat.le_of_ble_eq_true rfl) ?_
        exact ih.2 (s := r317) hm318 hF
      · subst hF
        exact xy_Vt (nl := 3) (sm := s.2.2.1.2.2.2.2.2.2.1) (sn := s.2.2.1.2.2.2.2.2.2.2) (tm := r313.2.2.2.1.2.2.2.2.2.2.1) (tn := r313.2.2.2.1.2.2.2.2.2.2.2) (CM_literal hb (s := s) er313) rfl rfl hm (fun _ => rfl) (fun _ => rfl) (fun _ => rfl) (fun _ => dM_rows_17) (fun _ R => kM_404 R) (fun _ => rfl) ⟨(Nat.le_of_ble_eq_true rfl), (Nat.le_of_ble_eq_true rfl)⟩ rfl rfl rfl (fun _ => rfl) (Nat.le_of_ble_eq_true rfl) ⟨rfl, rfl⟩
    · intro l1 l2 l3 s out h0 m0 n0 hm hF
      replace hF : ((FM_next 44 s).bind fun r320 => if r320.1 = true then (if l1 < r320.2.2.2.1.2.2.2.2.1 then (if (r320.2.2.2.1.2.2.2.2.2.1 l1).1.2.1 ≤ 0 then (xo_b (FM_literal (r320.2.1, (r320.2.2.1.1, (r320.2.2.1.2.1 + 1), r320.2.2.1.2.2), r320.2.2.2)) fun r426 => if l1 < r426.2.2.2.1.2.2.2.2.1 then ((FN_add l1 r426.1 r426.2).bind fun r430 => FM_rows_23 fu l1 l2 (l3 + 1) r430) else none) else (if l3 = l2 then (xo_b (FM_bad r320.2.2.1.2.1 r320.2) fun r441 => xo_b (FM_literal (r441.2.1, (r441.2.2.1.1, (r441.2.2.1.2.1 + 1), r441.2.2.1.2.2), r441.2.2.2)) fun r444 => if l1 < r444.2.2.2.1.2.2.2.2.1 then ((FN_add l1 r444.1 r444.2).bind fun r448 => FM_rows_23 fu l1 l2 (l3 + 1) r448) else none) else (xo_b (FM_literal (r320.2.1, (r320.2.2.1.1, (r320.2.2.1.2.1 + 1), r320.2.2.1.2.2), r320.2.2.2)) fun r434 => if l1 < r434.2.2.2.1.2.2.2.2.1 then ((FN_add l1 r434.1 r434.2).bind fun r438 => FM_rows_23 fu l1 l2 (l3 + 1) r438) else none))) else none) else (if l1 < r320.2.2.2.1.2.2.2.2.1 then (if (r320.2.2.2.1.2.2.2.2.2.1 l1).1.2.1 ≤ 0 then (if (r320.2.2.2.1.2.2.2.2.2.1 l1).1.2.1 = 0 then ((FM_next 59 (r320.2.1, r320.2.2.1, (r320.2.2.2.1.1, r320.2.2.2.1.2.1, r320.2.2.2.1.2.2.1, r320.2.2.2.1.2.2.2.1, r320.2.2.2.1.2.2.2.2.1, (va_up r320.2.2.2.1.2.2.2.2.2.1 l1 (nA (r320.2.2.2.1.2.2.2.2.2.1 l1) ((r320.2.2.2.1.2.2.2.2.2.1 l1).1.2.1 + 1))), r320.2.2.2.1.2.2.2.2.2.2), r320.2.2.2.2)).bind fun r335 => if r335.1 = true then (FM_rows_13 fu l1 l3 (r335.2.1, (r335.2.2.1.1, (r335.2.2.1.2.1 + 1), r335.2.2.1.2.2), r335.2.2.2)) else (if l1 < r335.2.2.2.1.2.2.2.2.1 then (xo_b (FM_close 125 (r335.2.1, r335.2.2.1, (r335.2.2.2.1.1, r335.2.2.2.1.2.1, r335.2.2.2.1.2.2.1, r335.2.2.2.1.2.2.2.1, r335.2.2.2.1.2.2.2.2.1, (va_up r335.2.2.2.1.2.2.2.2.2.1 l1 (nB (r335.2.2.2.1.2.2.2.2.2.1 l1) l3)), r335.2.2.2.1.2.2.2.2.2.2), r335.2.2.2.2)) fun r340 => some (.inl (l1, r340.2))) else none)) else ((FM_next 59 (r320.2.1, r320.2.2.1, (r320.2.2.2.1.1, r320.2.2.2.1.2.1, r320.2.2.2.1.2.2.1, r320.2.2.2.1.2.2.2.1, r320.2.2.2.1.2.2.2.2.1, (va_up r320.2.2.2.1.2.2.2.2.2.1 l1 (nA (r320.2.2.2.1.2.2.2.2.2.1 l1) ((r320.2.2.2.1.2.2.2.2.2.1 l1).1.2.1 + 1))), r320.2.2.2.1.2.2.2.2.2.2), r320.2.2.2.2)).bind fun r327 => if r327.1 = true then (FM_rows_13 fu l1 l2 (r327.2.1, (r327.2.2.1.1, (r327.2.2.1.2.1 + 1), r327.2.2.1.2.2), r327.2.2.2)) else (if l1 < r327.2.2.2.1.2.2.2.2.1 then (xo_b (FM_close 125 (r327.2.1, r327.2.2.1, (r327.2.2.2.1.1, r327.2.2.2.1.2.1, r327.2.2.2.1.2.2.1, r327.2.2.2.1.2.2.2.1, r327.2.2.2.1.2.2.2.2.1, (va_up r327.2.2.2.1.2.2.2.2.2.1 l1 (nB (r327.2.2.2.1.2.2.2.2.2.1 l1) l2)), r327.2.2.2.1.2.2.2.2.2.2), r327.2.2.2.2)) fun r332 => some (.inl (l1, r332.2))) else none))) else (if l2 ≤ l3 then (if (r320.2.2.2.1.2.2.2.2.2.1 l1).1.2.1 = 0 then ((FM_next 59 (r320.2.1, r320.2.2.1, (r320.2.2.2.1.1, r320.2.2.2.1.2.1, r320.2.2.2.1.2.2.1, r320.2.2.2.1.2.2.2.1, r320.2.2.2.1.2.2.2.2.1, (va_up r320.2.2.2.1.2.2.2.2.2.1 l1 (nA (r320.2.2.2.1.2.2.2.2.2.1 l1) ((r320.2.2.2.1.2.2.2.2.2.1 l1).1.2.1 + 1))), r320.2.2.2.1.2.2.2.2.2.2), r320.2.2.2.2)).bind fun r353 => if r353.1 = true then (FM_rows_13 fu l1 l3 (r353.2.1, (r353.2.2.1.1, (r353.2.2.1.2.1 + 1), r353.2.2.1.2.2), r353.2.2.2)) else (if l1 < r353.2.2.2.1.2.2.2.2.1 then (xo_b (FM_close 125 (r353.2.1, r353.2.2.1, (r353.2.2.2.1.1, r353.2.2.2.1.2.1, r353.2.2.2.1.2.2.1, r353.2.2.2.1.2.2.2.1, r353.2.2.2.1.2.2.2.2.1, (va_up r353.2.2.2.1.2.2.2.2.2.1 l1 (nB (r353.2.2.2.1.2.2.2.2.2.1 l1) l3)), r353.2.2.2.1.2.2.2.2.2.2), r353.2.2.2.2)) fun r358 => some (.inl (l1, r358.2))) else none)) else ((FM_next 59 (r320.2.1, r320.2.2.1, (r320.2.2.2.1.1, r320.2.2.2.1.2.1, r320.2.2.2.1.2.2.1, r320.2.2.2.1.2.2.2.1, r320.2.2.2.1.2.2.2.2.1, (va_up r320.2.2.2.1.2.2.2.2.2.1 l1 (nA (r320.2.2.2.1.2.2.2.2.2.1 l1) ((r320.2.2.2.1.2.2.2.2.2.1 l1).1.2.1 + 1))), r320.2.2.2.1.2.2.2.2.2.2), r320.2.2.2.2)).bind fun r345 => if r345.1 = true then (FM_rows_13 fu l1 l2 (r345.2.1, (r345.2.2.1.1, (r345.2.2.1.2.1 + 1), r345.2.2.1.2.2), r345.2.2.2)) else (if l1 < r345.2.2.2.1.2.2.2.2.1 then (xo_b (FM_close 125 (r345.2.1, r345.2.2.1, (r345.2.2.2.1.1, r345.2.2.2.1.2.1, r345.2.2.2.1.2.2.1, r345.2.2.2.1.2.2.2.1, r345.2.2.2.1.2.2.2.2.1, (va_up r345.2.2.2.1.2.2.2.2.2.1 l1 (nB (r345.2.2.2.1.2.2.2.2.2.1 l1) l2)), r345.2.2.2.1.2.2.2.2.2.2), r345.2.2.2.2)) fun r350 => some (.inl (l1, r350.2))) else none))) else ((FM_peek r320.2).bind fun r361 => if r361 = 59 then (xo_b (FM_bad r320.2.2.1.2.1 r320.2) fun r363 => if l1 < r363.2.2.2.1.2.2.2.2.1 then (if (r363.2.2.2.1.2.2.2.2.2.1 l1).1.2.1 = 0 then ((FM_next 59 (r363.2.1, r363.2.2.1, (r363.2.2.2.1.1, r363.2.2.2.1.2.1, r363.2.2.2.1.2.2.1, r363.2.2.2.1.2.2.2.1, r363.2.2.2.1.2.2.2.2.1, (va_up r363.2.2.2.1.2.2.2.2.2.1 l1 (nA (r363.2.2.2.1.2.2.2.2.2.1 l1) ((r363.2.2.2.1.2.2.2.2.2.1 l1).1.2.1 + 1))), r363.2.2.2.1.2.2.2.2.2.2), r363.2.2.2.2)).bind fun r376 => if r376.1 = true then (FM_rows_13 fu l1 l3 (r376.2.1, (r376.2.2.1.1, (r376.2.2.1.2.1 + 1), r376.2.2.1.2.2), r376.2.2.2)) else (if l1 < r376.2.2.2.1.2.2.2.2.1 then (xo_b (FM_close 125 (r376.2.1, r376.2.2.1, (r376.2.2.2.1.1, r376.2.2.2.1.2.1, r376.2.2.2.1.2.2.1, r376.2.2.2.1.2.2.2.1, r376.2.2.2.1.2.2.2.2.1, (va_up r376.2.2.2.1.2.2.2.2.2.1 l1 (nB (r376.2.2.2.1.2.2.2.2.2.1 l1) l3)), r376.2.2.2.1.2.2.2.2.2.2), r376.2.2.2.2)) fun r381 => some (.inl (l1, r381.2))) else none)) else ((FM_next 59 (r363.2.1, r363.2.2.1, (r363.2.2.2.1.1, r363.2.2.2.1.2.1, r363.2.2.2.1.2.2.1, r363.2.2.2.1.2.2.2.1, r363.2.2.2.1.2.2.2.2.1, (va_up r363.2.2.2.1.2.2.2.2.2.1 l1 (nA (r363.2.2.2.1.2.2.2.2.2.1 l1) ((r363.2.2.2.1.2.2.2.2.2.1 l1).1.2.1 + 1))), r363.2.2.2.1.2.2.2.2.2.2), r363.2.2.2.2)).bind fun r368 => if r368.1 = true then (FM_rows_13 fu l1 l2 (r368.2.1, (r368.2.2.1.1, (r368.2.2.1.2.1 + 1), r368.2.2.1.2.2), r368.2.2.2)) else (if l1 < r368.2.2.2.1.2.2.2.2.1 then (xo_b (FM_close 125 (r368.2.1, r368.2.2.1, (r368.2.2.2.1.1, r368.2.2.2.1.2.1, r368.2.2.2.1.2.2.1, r368.2.2.2.1.2.2.2.1, r368.2.2.2.1.2.2.2.2.1, (va_up r368.2.2.2.1.2.2.2.2.2.1 l1 (nB (r368.2.2.2.1.2.2.2.2.2.1 l1) l2)), r368.2.2.2.1.2.2.2.2.2.2), r368.2.2.2.2)) fun r373 => some (.inl (l1, r373.2))) else none))) else none) else ((FM_peek r320.2).bind fun r384 => if r384 = 125 then (xo_b (FM_bad r320.2.2.1.2.1 r320.2) fun r403 => if l1 < r403.2.2.2.1.2.2.2.2.1 then (if (r403.2.2.2.1.2.2.2.2.2.1 l1).1.2.1 = 0 then ((FM_next 59 (r403.2.1, r403.2.2.1, (r403.2.2.2.1.1, r403.2.2.2.1.2.1, r403.2.2.2.1.2.2.1, r403.2.2.2.1.2.2.2.1, r403.2.2.2.1.2.2.2.2.1, (va_up r403.2.2.2.1.2.2.2.2.2.1 l1 (nA (r403.2.2.2.1.2.2.2.2.2.1 l1) ((r403.2.2.2.1.2.2.2.2.2.1 l1).1.2.1 + 1))), r403.2.2.2.1.2.2.2.2.2.2), r403.2.2.2.2)).bind fun r416 => if r416.1 = true then (FM_rows_13 fu l1 l3 (r416.2.1, (r416.2.2.1.1, (r416.2.2.1.2.1 + 1), r416.2.2.1.2.2), r416.2.2.2)) else (if l1 < r416.2.2.2.1.2.2.2.2.1 then (xo_b (FM_close 125 (r416.2.1, r416.2.2.1, (r416.2.2.2.1.1, r416.2.2.2.1.2.1, r416.2.2.2.1.2.2.1, r416.2.2.2.1.2.2.2.1, r416.2.2.2.1.2.2.2.2.1, (va_up r416.2.2.2.1.2.2.2.2.2.1 l1 (nB (r416.2.2.2.1.2.2.2.2.2.1 l1) l3)), r416.2.2.2.1.2.2.2.2.2.2), r416.2.2.2.2)) fun r421 => some (.inl (l1, r421.2))) else none)) else ((FM_next 59 (r403.2.1, r403.2.2.1, (r403.2.2.2.1.1, r403.2.2.2.1.2.1, r403.2.2.2.1.2.2.1, r403.2.2.2.1.2.2.2.1, r403.2.2.2.1.2.2.2.2.1, (va_up r403.2.2.2.1.2.2.2.2.2.1 l1 (nA (r403.2.2.2.1.2.2.2.2.2.1 l1) ((r403.2.2.2.1.2.2.2.2.2.1 l1).1.2.1 + 1))), r403.2.2.2.1.2.2.2.2.2.2), r403.2.2.2.2)).bind fun r408 => if r408.1 = true then (FM_rows_13 fu l1 l2 (r408.2.1, (r408.2.2.1.1, (r408.2.2.1.2.1 + 1), r408.2.2.1.2.2), r408.2.2.2)) else (if l1 < r408.2.2.2.1.2.2.2.2.1 then (xo_b (FM_close 125 (r408.2.1, r408.2.2.1, (r408.2.2.2.1.1, r408.2.2.2.1.2.1, r408.2.2.2.1.2.2.1, r408.2.2.2.1.2.2.2.1, r408.2.2.2.1.2.2.2.2.1, (va_up r408.2.2.2.1.2.2.2.2.2.1 l1 (nB (r408.2.2.2.1.2.2.2.2.2.1 l1) l2)), r408.2.2.2.1.2.2.2.2.2.2), r408.2.2.2.2)) fun r413 => some (.inl (l1, r413.2))) else none))) else none) else (if (r320.2.2.2.1.2.2.2.2.2.1 l1).1.2.1 = 0 then ((FM_next 59 (r320.2.1, r320.2.2.1, (r320.2.2.2.1.1, r320.2.2.2.1.2.1, r320.2.2.2.1.2.2.1, r320.2.2.2.1.2.2.2.1, r320.2.2.2.1.2.2.2.2.1, (va_up r320.2.2.2.1.2.2.2.2.2.1 l1 (nA (r320.2.2.2.1.2.2.2.2.2.1 l1) ((r320.2.2.2.1.2.2.2.2.2.1 l1).1.2.1 + 1))), r320.2.2.2.1.2.2.2.2.2.2), r320.2.2.2.2)).bind fun r395 => if r395.1 = true then (FM_rows_13 fu l1 l3 (r395.2.1, (r395.2.2.1.1, (r395.2.2.1.2.1 + 1), r395.2.2.1.2.2), r395.2.2.2)) else (if l1 < r395.2.2.2.1.2.2.2.2.1 then (xo_b (FM_close 125 (r395.2.1, r395.2.2.1, (r395.2.2.2.1.1, r395.2.2.2.1.2.1, r395.2.2.2.1.2.2.1, r395.2.2.2.1.2.2.2.1, r395.2.2.2.1.2.2.2.2.1, (va_up r395.2.2.2.1.2.2.2.2.2.1 l1 (nB (r395.2.2.2.1.2.2.2.2.2.1 l1) l3)), r395.2.2.2.1.2.2.2.2.2.2), r395.2.2.2.2)) fun r400 => some (.inl (l1, r400.2))) else none)) else ((FM_next 59 (r320.2.1, r320.2.2.1, (r320.2.2.2.1.1, r320.2.2.2.1.2.1, r320.2.2.2.1.2.2.1, r320.2.2.2.1.2.2.2.1, r320.2.2.2.1.2.2.2.2.1, (va_up r320.2.2.2.1.2.2.2.2.2.1 l1 (nA (r320.2.2.2.1.2.2.2.2.2.1 l1) ((r320.2.2.2.1.2.2.2.2.2.1 l1).1.2.1 + 1))), r320.2.2.2.1.2.2.2.2.2.2), r320.2.2.2.2)).bind fun r387 => if r387.1 = true then (FM_rows_13 fu l1 l2 (r387.2.1, (r387.2.2.1.1, (r387.2.2.1.2.1 + 1), r387.2.2.1.2.2), r387.2.2.2)) else (if l1 < r387.2.2.2.1.2.2.2.2.1 then (xo_b (FM_close 125 (r387.2.1, r387.2.2.1, (r387.2.2.2.1.1, r387.2.2.2.1.2.1, r387.2.2.2.1.2.2.1, r387.2.2.2.1.2.2.2.1, r387.2.2.2.1.2.2.2.2.1, (va_up r387.2.2.2.1.2.2.2.2.2.1 l1 (nB (r387.2.2.2.1.2.2.2.2.2.1 l1) l2)), r387.2.2.2.1.2.2.2.2.2.2), r387.2.2.2.2)) fun r392 => some (.inl (l1, r392.2))) else none))))))) else none)) = some out := hF
      refine xy_r (xw_aload_n dM_rows_23 rfl) ?_
      refine xy_r (xw_bipush (44) dM_rows_24 (by decide)) ?_
      obtain ⟨r320, er320, hF⟩ := xg_b hF
      have hm321 : m0 ≤ r320.2.2.2.1.2.2.2.2.2.2.1 ∧ n0 ≤ r320.2.2.2.1.2.2.2.2.2.2.2 := xy_le hm (show s.2.2.1.2.2.2.2.2.2.1 ≤ r320.2.2.2.1.2.2.2.2.2.2.1 ∧ s.2.2.1.2.2.2.2.2.2.2 ≤ r320.2.2.2.1.2.2.2.2.2.2.2 from (CM_next (w := w) (h := h) hb (s := s) er320).1)
      refine xy_V1 (nl := 2) (sm := s.2.2.1.2.2.2.2.2.2.1) (sn := s.2.2.1.2.2.2.2.2.2.2) (tm := r320.2.2.2.1.2.2.2.2.2.2.1) (tn := r320.2.2.2.1.2.2.2.2.2.2.2) (CM_next hb (s := s) er320) rfl rfl hm (fun _ => rfl) (fun _ => rfl) (fun _ => rfl) (fun _ => dM_rows_26) (fun _ R => kM_236 R) (fun _ => rfl) ⟨(Nat.le_of_ble_eq_true rfl), (Nat.le_of_ble_eq_true rfl)⟩ rfl rfl rfl (fun _ => rfl) (Nat.le_of_ble_eq_true rfl) ?_
      refine xy_brn (xw_if_eqB 76 dM_rows_29 (by decide)) (fun c323 => ?_) (fun c323 => ?_)
      · replace hF := xg_f c323 hF
        refine xy_r (xw_aload_n dM_rows_76 rfl) ?_
        obtain ⟨g324, hF⟩ := xg_g hF
        refine xy_r (xw_get dM_rows_77 fM_195 (mV_n g324) rfl) ?_
        refine xy_br (xw_if_le 114 dM_rows_80 (by decide)) (fun c325 => ?_) (fun c325 => ?_)
        · replace hF := xg_t c325 hF
          refine xy_r (xw_aload_n dM_rows_114 rfl) ?_
          refine xy_r (xw_get dM_rows_115 fM_195 (mV_n g324) rfl) ?_
          refine xy_brn (xw_if_ne 123 dM_rows_118 (by decide)) (fun c326 => ?_) (fun c326 => ?_)
          · replace hF := xg_f c326 hF
            refine xy_r (xw_aload_n dM_rows_123 rfl) ?_
            refine xy_r (xw_dup_r dM_rows_124) ?_
            refine xy_r (xw_get dM_rows_125 fM_195 (mV_n g324) rfl) ?_
            refine xy_r (xw_iconst (1) dM_rows_128 (by decide)) ?_
            refine xy_r (xw_iadd dM_rows_129) ?_
            refine xy_r (xg_put dM_rows_130 fM_195 (mV_n g324) (xn_le _) (Nat.le_of_ble_eq_true rfl) (fun _ => rfl) (fun _ => rfl) (mV_e (s' := (r320.2.1, r320.2.2.1, (r320.2.2.2.1.1, r320.2.2.2.1.2.1, r320.2.2.2.1.2.2.1, r320.2.2.2.1.2.2.2.1, r320.2.2.2.1.2.2.2.2.1, (va_up r320.2.2.2.1.2.2.2.2.2.1 l1 (nA (r320.2.2.2.1.2.2.2.2.2.1 l1) ((r320.2.2.2.1.2.2.2.2.2.1 l1).1.2.1 + 1))), r320.2.2.2.1.2.2.2.2.2.2), r320.2.2.2.2)) (mV_pn (q := (nA (r320.2.2.2.1.2.2.2.2.2.1 l1) ((r320.2.2.2.1.2.2.2.2.2.1 l1).1.2.1 + 1))) g324) rfl)) ?_
            refine xy_r (xw_aload_n dM_rows_133 rfl) ?_
            refine xy_r (xw_bipush (59) dM_rows_134 (by decide)) ?_
            obtain ⟨r327, er327, hF⟩ := xg_b hF
            have hm328 : m0 ≤ r327.2.2.2.1.2.2.2.2.2.2.1 ∧ n0 ≤ r327.2.2.2.1.2.2.2.2.2.2.2 := xy_le hm321 (show r320.2.2.2.1.2.2.2.2.2.2.1 ≤ r327.2.2.2.1.2.2.2.2.2.2.1 ∧ r320.2.2.2.1.2.2.2.2.2.2.2 ≤ r327.2.2.2.1.2.2.2.2.2.2.2 from (CM_next (w := w) (h := h) hb (s := (r320.2.1, r320.2.2.1, (r320.2.2.2.1.1, r320.2.2.2.1.2.1, r320.2.2.2.1.2.2.1, r320.2.2.2.1.2.2.2.1, r320.2.2.2.1.2.2.2.2.1, (va_up r320.2.2.2.1.2.2.2.2.2.1 l1 (nA (r320.2.2.2.1.2.2.2.2.2.1 l1) ((r320.2.2.2.1.2.2.2.2.2.1 l1).1.2.1 + 1))), r320.2.2.2.1.2.2.2.2.2.2), r320.2.2.2.2)) er327).1)
            refine xy_V1 (nl := 2) (sm := r320.2.2.2.1.2.2.2.2.2.2.1) (sn := r320.2.2.2.1.2.2.2.2.2.2.2) (tm := r327.2.2.2.1.2.2.2.2.2.2.1) (tn := r327.2.2.2.1.2.2.2.2.2.2.2) (CM_next hb (s := (r320.2.1, r320.2.2.1, (r320.2.2.2.1.1, r320.2.2.2.1.2.1, r320.2.2.2.1.2.2.1, r320.2.2.2.1.2.2.2.1, r320.2.2.2.1.2.2.2.2.1, (va_up r320.2.2.2.1.2.2.2.2.2.1 l1 (nA (r320.2.2.2.1.2.2.2.2.2.1 l1) ((r320.2.2.2.1.2.2.2.2.2.1 l1).1.2.1 + 1))), r320.2.2.2.1.2.2.2.2.2.2), r320.2.2.2.2)) er327) rfl rfl hm321 (fun _ => rfl) (fun _ => rfl) (fun _ => rfl) (fun _ => dM_rows_136) (fun _ R => kM_236 R) (fun _ => rfl) ⟨(Nat.le_of_ble_eq_true rfl), (Nat.le_of_ble_eq_true rfl)⟩ rfl rfl rfl (fun _ => rfl) (Nat.le_of_ble_eq_true rfl) ?_
            refine xy_br (xw_if_neB 145 dM_rows_139 (by decide)) (fun c330 => ?_) (fun c330 => ?_)
            · replace hF := xg_t c330 hF
              refine xy_r (xw_aload_n dM_rows_145 rfl) ?_
              refine xy_r (xw_dup_r dM_rows_146) ?_
              refine xy_r (xw_get dM_rows_147 fM_221 rfl rfl) ?_
              refine xy_r (xw_iconst (1) dM_rows_150 (by decide)) ?_
              refine xy_r (xw_iadd dM_rows_151) ?_
              refine xy_r (xg_put dM_rows_152 fM_221 rfl (by decide) (Nat.le_of_ble_eq_true rfl) (fun _ => rfl) (fun _ => rfl) (mV_o (s' := (r327.2.1, (r327.2.2.1.1, (r327.2.2.1.2.1 + 1), r327.2.2.1.2.2), r327.2.2.2)) rfl)) ?_
              refine xy_r (xw_goto 13 dM_rows_155 (by decide)) ?_
              refine xy_r (xw_drop (L' := [some (.ref 2000), some (.ref (xn l1)), some (.int l2), none]) ⟨rfl, ⟨rfl, ⟨rfl, trivial⟩⟩⟩) ?_
              exact ih.1 (s := (r327.2.1, (r327.2.2.1.1, (r327.2.2.1.2.1 + 1), r327.2.2.1.2.2), r327.2.2.2)) hm328 hF
            · replace hF := xg_f c330 hF
              refine xy_r (xw_goto 158 dM_rows_142 (by decide)) ?_
              refine xy_r (xw_aload_n dM_rows_158 rfl) ?_
              refine xy_r (xw_iload_n dM_rows_159 rfl) ?_
              obtain ⟨g331, hF⟩ := xg_g hF
              refine xy_r (xg_put dM_rows_160 fM_198 (mV_n g331) (xn_le _) (Nat.le_of_ble_eq_true rfl) (fun _ => rfl) (fun _ => rfl) (mV_e (s' := (r327.2.1, r327.2.2.1, (r327.2.2.2.1.1, r327.2.2.2.1.2.1, r327.2.2.2.1.2.2.1, r327.2.2.2.1.2.2.2.1, r327.2.2.2.1.2.2.2.2.1, (va_up r327.2.2.2.1.2.2.2.2.2.1 l1 (nB (r327.2.2.2.1.2.2.2.2.2.1 l1) l2)), r327.2.2.2.1.2.2.2.2.2.2), r327.2.2.2.2)) (mV_pn (q := (nB (r327.2.2.2.1.2.2.2.2.2.1 l1) l2)) g331) rfl)) ?_
              refine xy_r (xw_aload_n dM_rows_163 rfl) ?_
              refine xy_r (xw_bipush (125) dM_rows_164 (by decide)) ?_
              rcases xg_o hF with ⟨r332, er332, hF⟩ | ⟨r332, er332, hF⟩
              · have hm333 : m0 ≤ r332.2.2.2.1.2.2.2.2.2.2.1 ∧ n0 ≤ r332.2.2.2.1.2.2.2.2.2.2.2 := xy_le hm328 (show r327.2.2.2.1.2.2.2.2.2.2.1 ≤ r332.2.2.2.1.2.2.2.2.2.2.1 ∧ r327.2.2.2.1.2.2.2.2.2.2.2 ≤ r332.2.2.2.1.2.2.2.2.2.2.2 from (CM_close (w := w) (h := h) hb (s := (r327.2.1, r327.2.2.1, (r327.2.2.2.1.1, r327.2.2.2.1.2.1, r327.2.2.2.1.2.2.1, r327.2.2.2.1.2.2.2.1, r327.2.2.2.1.2.2.2.2.1, (va_up r327.2.2.2.1.2.2.2.2.2.1 l1 (nB (r327.2.2.2.1.2.2.2.2.2.1 l1) l2)), r327.2.2.2.1.2.2.2.2.2.2), r327.2.2.2.2)) er332).1)
                refine xy_V0 (nl := 2) (sm := r327.2.2.2.1.2.2.2.2.2.2.1) (sn := r327.2.2.2.1.2.2.2.2.2.2.2) (tm := r332.2.2.2.1.2.2.2.2.2.2.1) (tn := r332.2.2.2.1.2.2.2.2.2.2.2) (CM_close hb (s := (r327.2.1, r327.2.2.1, (r327.2.2.2.1.1, r327.2.2.2.1.2.1, r327.2.2.2.1.2.2.1, r327.2.2.2.1.2.2.2.1, r327.2.2.2.1.2.2.2.2.1, (va_up r327.2.2.2.1.2.2.2.2.2.1 l1 (nB (r327.2.2.2.1.2.2.2.2.2.1 l1) l2)), r327.2.2.2.1.2.2.2.2.2.2), r327.2.2.2.2)) er332) rfl rfl hm328 (fun _ => rfl) (fun _ => rfl) (fun _ => rfl) (fun _ => dM_rows_166) (fun _ R => kM_289 R) (fun _ => rfl) ⟨(Nat.le_of_ble_eq_true rfl), (Nat.le_of_ble_eq_true rfl)⟩ rfl rfl rfl (fun _ => rfl) (Nat.le_of_ble_eq_true rfl) ?_
                refine xy_r (xw_aload_n dM_rows_169 rfl) ?_
                obtain rfl := Option.some.inj hF
                exact xy_end (xw_areturn dM_rows_170 rfl (Or.inl ⟨_, rfl⟩) (Nat.le_refl _) (Nat.le_refl _) ⟨rfl, rfl⟩)
              · subst hF
                exact xy_Vt (nl := 2) (sm := r327.2.2.2.1.2.2.2.2.2.2.1) (sn := r327.2.2.2.1.2.2.2.2.2.2.2) (tm := r332.2.2.2.1.2.2.2.2.2.2.1) (tn := r332.2.2.2.1.2.2.2.2.2.2.2) (CM_close hb (s := (r327.2.1, r327.2.2.1, (r327.2.2.2.1.1, r327.2.2.2.1.2.1, r327.2.2.2.1.2.2.1, r327.2.2.2.1.2.2.2.1, r327.2.2.2.1.2.2.2.2.1, (va_up r327.2.2.2.1.2.2.2.2.2.1 l1 (nB (r327.2.2.2.1.2.2.2.2.2.1 l1) l2)), r327.2.2.2.1.2.2.2.2.2.2), r327.2.2.2.2)) er332) rfl rfl hm328 (fun _ => rfl) (fun _ => rfl) (fun _ => rfl) (fun _ => dM_rows_166) (fun _ R => kM_289 R) (fun _ => rfl) ⟨(Nat.le_of_ble_eq_true rfl), (Nat.le_of_ble_eq_true rfl)⟩ rfl rfl rfl (fun _ => rfl) (Nat.le_of_ble_eq_true rfl) ⟨rfl, rfl⟩
          · replace hF := xg_t c326 hF
            refine xy_r (xw_iload_n dM_rows_121 rfl) ?_
            refine xy_r (xw_istore_n dM_rows_122 (Nat.le_of_ble_eq_true rfl)) ?_
            refine xy_r (xw_Ln (L' := [some (.ref 2000), some (.ref (xn l1)), some (.int l3), some (.int l3)]) rfl) ?_
            refine xy_r (xw_aload_n dM_rows_123 rfl) ?_
            refine xy_r (xw_dup_r dM_rows_124) ?_
            refine xy_r (xw_get dM_rows_125 fM_195 (mV_n g324) rfl) ?_
            refine xy_r (xw_iconst (1) dM_rows_128 (by decide)) ?_
            refine xy_r (xw_iadd dM_rows_129) ?_
            refine xy_r (xg_put dM_rows_130 fM_195 (mV_n g324) (xn_le _) (Nat.le_of_ble_eq_true rfl) (fun _ => rfl) (fun _ => rfl) (mV_e (s' := (r320.2.1, r320.2.2.1, (r320.2.2.2.1.1, r320.2.2.2.1.2.1, r320.2.2.2.1.2.2.1, r320.2.2.2.1.2.2.2.1, r320.2.2.2.1.2.2.2.2.1, (va_up r320.2.2.2.1.2.2.2.2.2.1 l1 (nA (r320.2.2.2.1.2.2.2.2.2.1 l1) ((r320.2.2.2.1.2.2.2.2.2.1 l1).1.2.1 + 1))), r320.2.2.2.1.2.2.2.2.2.2), r320.2.2.2.2)) (mV_pn (q := (nA (r320.2.2.2.1.2.2.2.2.2.1 l1) ((r320.2.2.2.1.2.2.2.2.2.1 l1).1.2.1 + 1))) g324) rfl)) ?_
            refine xy_r (xw_aload_n dM_rows_133 rfl) ?_
            refine xy_r (xw_bipush (59) dM_rows_134 (by decide)) ?_
            obtain ⟨r335, er335, hF⟩ := xg_b hF
            have hm336 : m0 ≤ r335.2.2.2.1.2.2.2.2.2.2.1 ∧ n0 ≤ r335.2.2.2.1.2.2.2.2.2.2.2 := xy_le hm321 (show r320.2.2.2.1.2.2.2.2.2.2.1 ≤ r335.2.2.2.1.2.2.2.2.2.2.1 ∧ r320.2.2.2.1.2.2.2.2.2.2.2 ≤ r335.2.2.2.1.2.2.2.2.2.2.2 from (CM_next (w := w) (h := h) hb (s := (r320.2.1, r320.2.2.1, (r320.2.2.2.1.1, r320.2.2.2.1.2.1, r320.2.2.2.1.2.2.1, r320.2.2.2.1.2.2.2.1, r320.2.2.2.1.2.2.2.2.1, (va_up r320.2.2.2.1.2.2.2.2.2.1 l1 (nA (r320.2.2.2.1.2.2.2.2.2.1 l1) ((r320.2.2.2.1.2.2.2.2.2.1 l1).1.2.1 + 1))), r320.2.2.2.1.2.2.2.2.2.2), r320.2.2.2.2)) er335).1)
            refine xy_V1 (nl := 2) (sm := r320.2.2.2.1.2.2.2.2.2.2.1) (sn := r320.2.2.2.1.2.2.2.2.2.2.2) (tm := r335.2.2.2.1.2.2.2.2.2.2.1) (tn := r335.2.2.2.1.2.2.2.2.2.2.2) (CM_next hb (s := (r320.2.1, r320.2.2.1, (r320.2.2.2.1.1, r320.2.2.2.1.2.1, r320.2.2.2.1.2.2.1, r320.2.2.2.1.2.2.2.1, r320.2.2.2.1.2.2.2.2.1, (va_up r320.2.2.2.1.2.2.2.2.2.1 l1 (nA (r320.2.2.2.1.2.2.2.2.2.1 l1) ((r320.2.2.2.1.2.2.2.2.2.1 l1).1.2.1 + 1))), r320.2.2.2.1.2.2.2.2.2.2), r320.2.2.2.2)) er335) rfl rfl hm321 (fun _ => rfl) (fun _ => rfl) (fun _ => rfl) (fun _ => dM_rows_136) (fun _ R => kM_236 R) (fun _ => rfl) ⟨(Nat.le_of_ble_eq_true rfl), (Nat.le_of_ble_eq_true rfl)⟩ rfl rfl rfl (fun _ => rfl) (Nat.le_of_ble_eq_true rfl) ?_
            refine xy_br (xw_if_neB 145 dM_rows_139 (by decide)) (fun c338 => ?_) (fun c338 => ?_)
            · replace hF := xg_t c338 hF
              refine xy_r (xw_aload_n dM_rows_145 rfl) ?_
              refine xy_r (xw_dup_r dM_rows_146) ?_
              refine xy_r (xw_get dM_rows_147 fM_221 rfl rfl) ?_
              refine xy_r (xw_iconst (1) dM_rows_150 (by decide)) ?_
              refine xy_r (xw_iadd dM_rows_151) ?_
              refine xy_r (xg_put dM_rows_152 fM_221 rfl (by decide) (Nat.le_of_ble_eq_true rfl) (fun _ => rfl) (fun _ => rfl) (mV_o (s' := (r335.2.1, (r335.2.2.1.1, (r335.2.2.1.2.1 + 1), r335.2.2.1.2.2), r335.2.2.2)) rfl)) ?_
              refine xy_r (xw_goto 13 dM_rows_155 (by decide)) ?_
              refine xy_r (xw_drop (L' := [some (.ref 2000), some (.ref (xn l1)), some (.int l3), none]) ⟨rfl, ⟨rfl, ⟨rfl, trivial⟩⟩⟩) ?_
              exact ih.1 (s := (r335.2.1, (r335.2.2.1.1, (r335.2.2.1.2.1 + 1), r335.2.2.1.2.2), r335.2.2.2)) hm336 hF
            · replace hF := xg_f c338 hF
              refine xy_r (xw_goto 158 dM_rows_142 (by decide)) ?_
              refine xy_r (xw_aload_n dM_rows_158 rfl) ?_
              refine xy_r (xw_iload_n dM_rows_159 rfl) ?_
              obtain ⟨g339, hF⟩ := xg_g hF
              refine xy_r (xg_put dM_rows_160 fM_198 (mV_n g339) (xn_le _) (Nat.le_of_ble_eq_true rfl) (fun _ => rfl) (fun _ => rfl) (mV_e (s' := (r335.2.1, r335.2.2.1, (r335.2.2.2.1.1, r335.2.2.2.1.2.1, r335.2.2.2.1.2.2.1, r335.2.2.2.1.2.2.2.1, r335.2.2.2.1.2.2.2.2.1, (va_up r335.2.2.2.1.2.2.2.2.2.1 l1 (nB (r335.2.2.2.1.2.2.2.2.2.1 l1) l3)), r335.2.2.2.1.2.2.2.2.2.2), r335.2.2.2.2)) (mV_pn (q := (nB (r335.2.2.2.1.2.2.2.2.2.1 l1) l3)) g339) rfl)) ?_
              refine xy_r (xw_aload_n dM_rows_163 rfl) ?_
              refine xy_r (xw_bipush (125) dM_rows_164 (by decide)) ?_
              rcases xg_o hF with ⟨r340, er340, hF⟩ | ⟨r340, er340, hF⟩
              · have hm341 : m0 ≤ r340.2.2.2.1.2.2.2.2.2.2.1 ∧ n0 ≤ r340.2.2.2.1.2.2.2.2.2.2.2 := xy_le hm336 (show r335.2.2.2.1.2.2.2.2.2.2.1 ≤ r340.2.2.2.1.2.2.2.2.2.2.1 ∧ r335.2.2.2.1.2.2.2.2.2.2.2 ≤ r340.2.2.2.1.2.2.2.2.2.2.2 from (CM_close (w := w) (h := h) hb (s := (r335.2.1, r335.2.2.1, (r335.2.2.2.1.1, r335.2.2.2.1.2.1, r335.2.2.2.1.2.2.1, r335.2.2.2.1.2.2.2.1, r335.2.2.2.1.2.2.2.2.1, (va_up r335.2.2.2.1.2.2.2.2.2.1 l1 (nB (r335.2.2.2.1.2.2.2.2.2.1 l1) l3)), r335.2.2.2.1.2.2.2.2.2.2), r335.2.2.2.2)) er340).1)
                refine xy_V0 (nl := 2) (sm := r335.2.2.2.1.2.2.2.2.2.2.1) (sn := r335.2.2.2.1.2.2.2.2.2.2.2) (tm := r340.2.2.2.1.2.2.2.2.2.2.1) (tn := r340.2.2.2.1.2.2.2.2.2.2.2) (CM_close hb (s := (r335.2.1, r335.2.2.1, (r335.2.2.2.1.1, r335.2.2.2.1.2.1, r335.2.2.2.1.2.2.1, r335.2.2.2.1.2.2.2.1, r335.2.2.2.1.2.2.2.2.1, (va_up r335.2.2.2.1.2.2.2.2.2.1 l1 (nB (r335.2.2.2.1.2.2.2.2.2.1 l1) l3)), r335.2.2.2.1.2.2.2.2.2.2), r335.2.2.2.2)) er340) rfl rfl hm336 (fun _ => rfl) (fun _ => rfl) (fun _ => rfl) (fun _ => dM_rows_166) (fun _ R => kM_289 R) (fun _ => rfl) ⟨(Nat.le_of_ble_eq_true rfl), (Nat.le_of_ble_eq_true rfl)⟩ rfl rfl rfl (fun _ => rfl) (Nat.le_of_ble_eq_true rfl) ?_
                refine xy_r (xw_aload_n dM_rows_169 rfl) ?_
                obtain rfl := Option.some.inj hF
                exact xy_end (xw_areturn dM_rows_170 rfl (Or.inl ⟨_, rfl⟩) (Nat.le_refl _) (Nat.le_refl _) ⟨rfl, rfl⟩)
              · subst hF
                exact xy_Vt (nl := 2) (sm := r335.2.2.2.1.2.2.2.2.2.2.1) (sn := r335.2.2.2.1.2.2.2.2.2.2.2) (tm := r340.2.2.2.1.2.2.2.2.2.2.1) (tn := r340.2.2.2.1.2.2.2.2.2.2.2) (CM_close hb (s := (r335.2.1, r335.2.2.1, (r335.2.2.2.1.1, r335.2.2.2.1.2.1, r335.2.2.2.1.2.2.1, r335.2.2.2.1.2.2.2.1, r335.2.2.2.1.2.2.2.2.1, (va_up r335.2.2.2.1.2.2.2.2.2.1 l1 (nB (r335.2.2.2.1.2.2.2.2.2.1 l1) l3)), r335.2.2.2.1.2.2.2.2.2.2), r335.2.2.2.2)) er340) rfl rfl hm336 (fun _ => rfl) (fun _ => rfl) (fun _ => rfl) (fun _ => dM_rows_166) (fun _ R => kM_289 R) (fun _ => rfl) ⟨(Nat.le_of_ble_eq_true rfl), (Nat.le_of_ble_eq_true rfl)⟩ rfl rfl rfl (fun _ => rfl) (Nat.le_of_ble_eq_true rfl) ⟨rfl, rfl⟩
        · replace hF := xg_f c325 hF
          refine xy_r (xw_iload_n dM_rows_83 rfl) ?_
          refine xy_r (xw_iload_n dM_rows_84 rfl) ?_
          refine xy_br (xw_icmp_ge 114 dM_rows_85 (by decide)) (fun c343 => ?_) (fun c343 => ?_)
          · replace hF := xg_t c343 hF
            refine xy_r (xw_aload_n dM_rows_114 rfl) ?_
            refine xy_r (xw_get dM_rows_115 fM_195 (mV_n g324) rfl) ?_
            refine xy_brn (xw_if_ne 123 dM_rows_118 (by decide)) (fun c344 => ?_) (fun c344 => ?_)
            · replace hF := xg_f c344 hF
              refine xy_r (xw_aload_n dM_rows_123 rfl) ?_
              refine xy_r (xw_dup_r dM_rows_124) ?_
              refine xy_r (xw_get dM_rows_125 fM_195 (mV_n g324) rfl) ?_
              refine xy_r (xw_iconst (1) dM_rows_128 (by decide)) ?_
              refine xy_r (xw_iadd dM_rows_129) ?_
              refine xy_r (xg_put dM_rows_130 fM_195 (mV_n g324) (xn_le _) (Nat.le_of_ble_eq_true rfl) (fun _ => rfl) (fun _ => rfl) (mV_e (s' := (r320.2.1, r320.2.2.1, (r320.2.2.2.1.1, r320.2.2.2.1.2.1, r320.2.2.2.1.2.2.1, r320.2.2.2.1.2.2.2.1, r320.2.2.2.1.2.2.2.2.1, (va_up r320.2.2.2.1.2.2.2.2.2.1 l1 (nA (r320.2.2.2.1.2.2.2.2.2.1 l1) ((r320.2.2.2.1.2.2.2.2.2.1 l1).1.2.1 + 1))), r320.2.2.2.1.2.2.2.2.2.2), r320.2.2.2.2)) (mV_pn (q := (nA (r320.2.2.2.1.2.2.2.2.2.1 l1) ((r320.2.2.2.1.2.2.2.2.2.1 l1).1.2.1 + 1))) g324) rfl)) ?_
              refine xy_r (xw_aload_n dM_rows_133 rfl) ?_
              refine xy_r (xw_bipush (59) dM_rows_134 (by decide)) ?_
              obtain ⟨r345, er345, hF⟩ := xg_b hF
              have hm346 : m0 ≤ r345.2.2.2.1.2.2.2.2.2.2.1 ∧ n0 ≤ r345.2.2.2.1.2.2.2.2.2.2.2 := xy_le hm321 (show r320.2.2.2.1.2.2.2.2.2.2.1 ≤ r345.2.2.2.1.2.2.2.2.2.2.1 ∧ r320.2.2.2.1.2.2.2.2.2.2.2 ≤ r345.2.2.2.1.2.2.2.2.2.2.2 from (CM_next (w := w) (h := h) hb (s := (r320.2.1, r320.2.2.1, (r320.2.2.2.1.1, r320.2.2.2.1.2.1, r320.2.2.2.1.2.2.1, r320.2.2.2.1.2.2.2.1, r320.2.2.2.1.2.2.2.2.1, (va_up r320.2.2.2.1.2.2.2.2.2.1 l1 (nA (r320.2.2.2.1.2.2.2.2.2.1 l1) ((r320.2.2.2.1.2.2.2.2.2.1 l1).1.2.1 + 1))), r320.2.2.2.1.2.2.2.2.2.2), r320.2.2.2.2)) er345).1)
              refine xy_V1 (nl := 2) (sm := r320.2.2.2.1.2.2.2.2.2.2.1) (sn := r320.2.2.2.1.2.2.2.2.2.2.2) (tm := r345.2.2.2.1.2.2.2.2.2.2.1) (tn := r345.2.2.2.1.2.2.2.2.2.2.2) (CM_next hb (s := (r320.2.1, r320.2.2.1, (r320.2.2.2.1.1, r320.2.2.2.1.2.1, r320.2.2.2.1.2.2.1, r320.2.2.2.1.2.2.2.1, r320.2.2.2.1.2.2.2.2.1, (va_up r320.2.2.2.1.2.2.2.2.2.1 l1 (nA (r320.2.2.2.1.2.2.2.2.2.1 l1) ((r320.2.2.2.1.2.2.2.2.2.1 l1).1.2.1 + 1))), r320.2.2.2.1.2.2.2.2.2.2), r320.2.2.2.2)) er345) rfl rfl hm321 (fun _ => rfl) (fun _ => rfl) (fun _ => rfl) (fun _ => dM_rows_136) (fun _ R => kM_236 R) (fun _ => rfl) ⟨(Nat.le_of_ble_eq_true rfl), (Nat.le_of_ble_eq_true rfl)⟩ rfl rfl rfl (fun _ => rfl) (Nat.le_of_ble_eq_true rfl) ?_
              refine xy_br (xw_if_neB 145 dM_rows_139 (by decide)) (fun c348 => ?_) (fun c348 => ?_)
              · replace hF := xg_t c348 hF
                refine xy_r (xw_aload_n dM_rows_145 rfl) ?_
                refine xy_r (xw_dup_r dM_rows_146) ?_
                refine xy_r (xw_get dM_rows_147 fM_221 rfl rfl) ?_
                refine xy_r (xw_iconst (1) dM_rows_150 (by decide)) ?_
                refine xy_r (xw_iadd dM_rows_151) ?_
                refine xy_r (xg_put dM_rows_152 fM_221 rfl (by decide) (Nat.le_of_ble_eq_true rfl) (fun _ => rfl) (fun _ => rfl) (mV_o (s' := (r345.2.1, (r345.2.2.1.1, (r345.2.2.1.2.1 + 1), r345.2.2.1.2.2), r345.2.2.2)) rfl)) ?_
                refine xy_r (xw_goto 13 dM_rows_155 (by decide)) ?_
                refine xy_r (xw_drop (L' := [some (.ref 2000), some (.ref (xn l1)), some (.int l2), none]) ⟨rfl, ⟨rfl, ⟨rfl, trivial⟩⟩⟩) ?_
                exact ih.1 (s := (r345.2.1, (r345.2.2.1.1, (r345.2.2.1.2.1 + 1), r345.2.2.1.2.2), r345.2.2.2)) hm346 hF
              · replace hF := xg_f c348 hF
                refine xy_r (xw_goto 158 dM_rows_142 (by decide)) ?_
                refine xy_r (xw_aload_n dM_rows_158 rfl) ?_
                refine xy_r (xw_iload_n dM_rows_159 rfl) ?_
                obtain ⟨g349, hF⟩ := xg_g hF
                refine xy_r (xg_put dM_rows_160 fM_198 (mV_n g349) (xn_le _) (Nat.le_of_ble_eq_true rfl) (fun _ => rfl) (fun _ => rfl) (mV_e (s' := (r345.2.1, r345.2.2.1, (r345.2.2.2.1.1, r345.2.2.2.1.2.1, r345.2.2.2.1.2.2.1, r345.2.2.2.1.2.2.2.1, r345.2.2.2.1.2.2.2.2.1, (va_up r345.2.2.2.1.2.2.2.2.2.1 l1 (nB (r345.2.2.2.1.2.2.2.2.2.1 l1) l2)), r345.2.2.2.1.2.2.2.2.2.2), r345.2.2.2.2)) (mV_pn (q := (nB (r345.2.2.2.1.2.2.2.2.2.1 l1) l2)) g349) rfl)) ?_
                refine xy_r (xw_aload_n dM_rows_163 rfl) ?_
                refine xy_r (xw_bipush (125) dM_rows_164 (by decide)) ?_
                rcases xg_o hF with ⟨r350, er350, hF⟩ | ⟨r350, er350, hF⟩
                · have hm351 : m0 ≤ r350.2.2.2.1.2.2.2.2.2.2.1 ∧ n0 ≤ r350.2.2.2.1.2.2.2.2.2.2.2 := xy_le hm346 (show r345.2.2.2.1.2.2.2.2.2.2.1 ≤ r350.2.2.2.1.2.2.2.2.2.2.1 ∧ r345.2.2.2.1.2.2.2.2.2.2.2 ≤ r350.2.2.2.1.2.2.2.2.2.2.2 from (CM_close (w := w) (h := h) hb (s := (r345.2.1, r345.2.2.1, (r345.2.2.2.1.1, r345.2.2.2.1.2.1, r345.2.2.2.1.2.2.1, r345.2.2.2.1.2.2.2.1, r345.2.2.2.1.2.2.2.2.1, (va_up r345.2.2.2.1.2.2.2.2.2.1 l1 (nB (r345.2.2.2.1.2.2.2.2.2.1 l1) l2)), r345.2.2.2.1.2.2.2.2.2.2), r345.2.2.2.2)) er350).1)
                  refine xy_V0 (nl := 2) (sm := r345.2.2.2.1.2.2.2.2.2.2.1) (sn := r345.2.2.2.1.2.2.2.2.2.2.2) (tm := r350.2.2.2.1.2.2.2.2.2.2.1) (tn := r350.2.2.2.1.2.2.2.2.2.2.2) (CM_close hb (s := (r345.2.1, r345.2.2.1, (r345.2.2.2.1.1, r345.2.2.2.1.2.1, r345.2.2.2.1.2.2.1, r345.2.2.2.1.2.2.2.1, r345.2.2.2.1.2.2.2.2.1, (va_up r345.2.2.2.1.2.2.2.2.2.1 l1 (nB (r345.2.2.2.1.2.2.2.2.2.1 l1) l2)), r345.2.2.2.1.2.2.2.2.2.2), r345.2.2.2.2)) er350) rfl rfl hm346 (fun _ => rfl) (fun _ => rfl) (fun _ => rfl) (fun _ => dM_rows_166) (fun _ R => kM_289 R) (fun _ => rfl) ⟨(Nat.le_of_ble_eq_true rfl), (Nat.le_of_ble_eq_true rfl)⟩ rfl rfl rfl (fun _ => rfl) (Nat.le_of_ble_eq_true rfl) ?_
                  refine xy_r (xw_aload_n dM_rows_169 rfl) ?_
                  obtain rfl := Option.some.inj hF
                  exact xy_end (xw_areturn dM_rows_170 rfl (Or.inl ⟨_, rfl⟩) (Nat.le_refl _) (Nat.le_refl _) ⟨rfl, rfl⟩)
                · subst hF
                  exact xy_Vt (nl := 2) (sm := r345.2.2.2.1.2.2.2.2.2.2.1) (sn := r345.2.2.2.1.2.2.2.2.2.2.2) (tm := r350.2.2.2.1.2.2.2.2.2.2.1) (tn := r350.2.2.2.1.2.2.2.2.2.2.2) (CM_close hb (s := (r345.2.1, r345.2.2.1, (r345.2.2.2.1.1, r345.2.2.2.1.2.1, r345.2.2.2.1.2.2.1, r345.2.2.2.1.2.2.2.1, r345.2.2.2.1.2.2.2.2.1, (va_up r345.2.2.2.1.2.2.2.2.2.1 l1 (nB (r345.2.2.2.1.2.2.2.2.2.1 l1) l2)), r345.2.2.2.1.2.2.2.2.2.2), r345.2.2.2.2)) er350) rfl rfl hm346 (fun _ => rfl) (fun _ => rfl) (fun _ => rfl) (fun _ => dM_rows_166) (fun _ R => kM_289 R) (fun _ => rfl) ⟨(Nat.le_of_ble_eq_true rfl), (Nat.le_of_ble_eq_true rfl)⟩ rfl rfl rfl (fun _ => rfl) (Nat.le_of_ble_eq_true rfl) ⟨rfl, rfl⟩
            · replace hF := xg_t c344 hF
              refine xy_r (xw_iload_n dM_rows_121 rfl) ?_
              refine xy_r (xw_istore_n dM_rows_122 (Nat.le_of_ble_eq_true rfl)) ?_
              refine xy_r (xw_Ln (L' := [some (.ref 2000), some (.ref (xn l1)), some (.int l3), some (.int l3)]) rfl) ?_
              refine xy_r (xw_aload_n dM_rows_123 rfl) ?_
              refine xy_r (xw_dup_r dM_rows_124) ?_
              refine xy_r (xw_get dM_rows_125 fM_195 (mV_n g324) rfl) ?_
              refine xy_r (xw_iconst (1) dM_rows_128 (by decide)) ?_
              refine xy_r (xw_iadd dM_rows_129) ?_
              refine xy_r (xg_put dM_rows_130 fM_195 (mV_n g324) (xn_le _) (Nat.le_of_ble_eq_true rfl) (fun _ => rfl) (fun _ => rfl) (mV_e (s' := (r320.2.1, r320.2.2.1, (r320.2.2.2.1.1, r320.2.2.2.1.2.1, r320.2.2.2.1.2.2.1, r320.2.2.2.1.2.2.2.1, r320.2.2.2.1.2.2.2.2.1, (va_up r320.2.2.2.1.2.2.2.2.2.1 l1 (nA (r320.2.2.2.1.2.2.2.2.2.1 l1) ((r320.2.2.2.1.2.2.2.2.2.1 l1).1.2.1 + 1))), r320.2.2.2.1.2.2.2.2.2.2), r320.2.2.2.2)) (mV_pn (q := (nA (r320.2.2.2.1.2.2.2.2.2.1 l1) ((r320.2.2.2.1.2.2.2.2.2.1 l1).1.2.1 + 1))) g324) rfl)) ?_
              refine xy_r (xw_aload_n dM_rows_133 rfl) ?_
              refine xy_r (xw_bipush (59) dM_rows_134 (by decide)) ?_
              obtain ⟨r353, er353, hF⟩ := xg_b hF
              have hm354 : m0 ≤ r353.2.2.2.1.2.2.2.2.2.2.1 ∧ n0 ≤ r353.2.2.2.1.2.2.2.2.2.2.2 := xy_le hm321 (show r320.2.2.2.1.2.2.2.2.2.2.1 ≤ r353.2.2.2.1.2.2.2.2.2.2.1 ∧ r320.2.2.2.1.2.2.2.2.2.2.2 ≤ r353.2.2.2.1.2.2.2.2.2.2.2 from (CM_next (w := w) (h := h) hb (s := (r320.2.1, r320.2.2.1, (r320.2.2.2.1.1, r320.2.2.2.1.2.1, r320.2.2.2.1.2.2.1, r320.2.2.2.1.2.2.2.1, r320.2.2.2.1.2.2.2.2.1, (va_up r320.2.2.2.1.2.2.2.2.2.1 l1 (nA (r320.2.2.2.1.2.2.2.2.2.1 l1) ((r320.2.2.2.1.2.2.2.2.2.1 l1).1.2.1 + 1))), r320.2.2.2.1.2.2.2.2.2.2), r320.2.2.2.2)) er353).1)
              refine xy_V1 (nl := 2) (sm := r320.2.2.2.1.2.2.2.2.2.2.1) (sn := r320.2.2.2.1.2.2.2.2.2.2.2) (tm := r353.2.2.2.1.2.2.2.2.2.2.1) (tn := r353.2.2.2.1.2.2.2.2.2.2.2) (CM_next hb (s := (r320.2.1, r320.2.2.1, (r320.2.2.2.1.1, r320.2.2.2.1.2.1, r320.2.2.2.1.2.2.1, r320.2.2.2.1.2.2.2.1, r320.2.2.2.1.2.2.2.2.1, (va_up r320.2.2.2.1.2.2.2.2.2.1 l1 (nA (r320.2.2.2.1.2.2.2.2.2.1 l1) ((r320.2.2.2.1.2.2.2.2.2.1 l1).1.2.1 + 1))), r320.2.2.2.1.2.2.2.2.2.2), r320.2.2.2.2)) er353) rfl rfl hm321 (fun _ => rfl) (fun _ => rfl) (fun _ => rfl) (fun _ => dM_rows_136) (fun _ R => kM_236 R) (fun _ => rfl) ⟨(Nat.le_of_ble_eq_true rfl), (Nat.le_of_ble_eq_true rfl)⟩ rfl rfl rfl (fun _ => rfl) (Nat.le_of_ble_eq_true rfl) ?_
              refine xy_br (xw_if_neB 145 dM_rows_139 (by decide)) (fun c356 => ?_) (fun c356 => ?_)
              · replace hF := xg_t c356 hF
                refine xy_r (xw_aload_n dM_rows_145 rfl) ?_
                refine xy_r (xw_dup_r dM_rows_146) ?_
                refine xy_r (xw_get dM_rows_147 fM_221 rfl rfl) ?_
                refine xy_r (xw_iconst (1) dM_rows_150 (by decide)) ?_
                refine xy_r (xw_iadd dM_rows_151) ?_
                refine xy_r (xg_put dM_rows_152 fM_221 rfl (by decide) (Nat.le_of_ble_eq_true rfl) (fun _ => rfl) (fun _ => rfl) (mV_o (s' := (r353.2.1, (r353.2.2.1.1, (r353.2.2.1.2.1 + 1), r353.2.2.1.2.2), r353.2.2.2)) rfl)) ?_
                refine xy_r (xw_goto 13 dM_rows_155 (by decide)) ?_
                refine xy_r (xw_drop (L' := [some (.ref 2000), some (.ref (xn l1)), some (.int l3), none]) ⟨rfl, ⟨rfl, ⟨rfl, trivial⟩⟩⟩) ?_
                exact ih.1 (s := (r353.2.1, (r353.2.2.1.1, (r353.2.2.1.2.1 + 1), r353.2.2.1.2.2), r353.2.2.2)) hm354 hF
              · replace hF := xg_f c356 hF
                refine xy_r (xw_goto 158 dM_rows_142 (by decide)) ?_
                refine xy_r (xw_aload_n dM_rows_158 rfl) ?_
                refine xy_r (xw_iload_n dM_rows_159 rfl) ?_
                obtain ⟨g357, hF⟩ := xg_g hF
                refine xy_r (xg_put dM_rows_160 fM_198 (mV_n g357) (xn_le _) (Nat.le_of_ble_eq_true rfl) (fun _ => rfl) (fun _ => rfl) (mV_e (s' := (r353.2.1, r353.2.2.1, (r353.2.2.2.1.1, r353.2.2.2.1.2.1, r353.2.2.2.1.2.2.1, r353.2.2.2.1.2.2.2.1, r353.2.2.2.1.2.2.2.2.1, (va_up r353.2.2.2.1.2.2.2.2.2.1 l1 (nB (r353.2.2.2.1.2.2.2.2.2.1 l1) l3)), r353.2.2.2.1.2.2.2.2.2.2), r353.2.2.2.2)) (mV_pn (q := (nB (r353.2.2.2.1.2.2.2.2.2.1 l1) l3)) g357) rfl)) ?_
                refine xy_r (xw_aload_n dM_rows_163 rfl) ?_
                refine xy_r (xw_bipush (125) dM_rows_164 (by decide)) ?_
                rcases xg_o hF with ⟨r358, er358, hF⟩ | ⟨r358, er358, hF⟩
                · have hm359 : m0 ≤ r358.2.2.2.1.2.2.2.2.2.2.1 ∧ n0 ≤ r358.2.2.2.1.2.2.2.2.2.2.2 := xy_le hm354 (show r353.2.2.2.1.2.2.2.2.2.2.1 ≤ r358.2.2.2.1.2.2.2.2.2.2.1 ∧ r353.2.2.2.1.2.2.2.2.2.2.2 ≤ r358.2.2.2.1.2.2.2.2.2.2.2 from (CM_close (w := w) (h := h) hb (s := (r353.2.1, r353.2.2.1, (r353.2.2.2.1.1, r353.2.2.2.1.2.1, r353.2.2.2.1.2.2.1, r353.2.2.2.1.2.2.2.1, r353.2.2.2.1.2.2.2.2.1, (va_up r353.2.2.2.1.2.2.2.2.2.1 l1 (nB (r353.2.2.2.1.2.2.2.2.2.1 l1) l3)), r353.2.2.2.1.2.2.2.2.2.2), r353.2.2.2.2)) er358).1)
                  refine xy_V0 (nl := 2) (sm := r353.2.2.2.1.2.2.2.2.2.2.1) (sn := r353.2.2.2.1.2.2.2.2.2.2.2) (tm := r358.2.2.2.1.2.2.2.2.2.2.1) (tn := r358.2.2.2.1.2.2.2.2.2.2.2) (CM_close hb (s := (r353.2.1, r353.2.2.1, (r353.2.2.2.1.1, r353.2.2.2.1.2.1, r353.2.2.2.1.2.2.1, r353.2.2.2.1.2.2.2.1, r353.2.2.2.1.2.2.2.2.1, (va_up r353.2.2.2.1.2.2.2.2.2.1 l1 (nB (r353.2.2.2.1.2.2.2.2.2.1 l1) l3)), r353.2.2.2.1.2.2.2.2.2.2), r353.2.2.2.2)) er358) rfl rfl hm354 (fun _ => rfl) (fun _ => rfl) (fun _ => rfl) (fun _ => dM_rows_166) (fun _ R => kM_289 R) (fun _ => rfl) ⟨(Nat.le_of_ble_eq_true rfl), (Nat.le_of_ble_eq_true rfl)⟩ rfl rfl rfl (fun _ => rfl) (Nat.le_of_ble_eq_true rfl) ?_
                  refine xy_r (xw_aload_n dM_rows_169 rfl) ?_
                  obtain rfl := Option.some.inj hF
                  exact xy_end (xw_areturn dM_rows_170 rfl (Or.inl ⟨_, rfl⟩) (Nat.le_refl _) (Nat.le_refl _) ⟨rfl, rfl⟩)
                · subst hF
                  exact xy_Vt (nl := 2) (sm := r353.2.2.2.1.2.2.2.2.2.2.1) (sn := r353.2.2.2.1.2.2.2.2.2.2.2) (tm := r358.2.2.2.1.2.2.2.2.2.2.1) (tn := r358.2.2.2.1.2.2.2.2.2.2.2) (CM_close hb (s := (r353.2.1, r353.2.2.1, (r353.2.2.2.1.1, r353.2.2.2.1.2.1, r353.2.2.2.1.2.2.1, r353.2.2.2.1.2.2.2.1, r353.2.2.2.1.2.2.2.2.1, (va_up r353.2.2.2.1.2.2.2.2.2.1 l1 (nB (r353.2.2.2.1.2.2.2.2.2.1 l1) l3)), r353.2.2.2.1.2.2.2.2.2.2), r353.2.2.2.2)) er358) rfl rfl hm354 (fun _ => rfl) (fun _ => rfl) (fun _ => rfl) (fun _ => dM_rows_166) (fun _ R => kM_289 R) (fun _ => rfl) ⟨(Nat.le_of_ble_eq_true rfl), (Nat.le_of_ble_eq_true rfl)⟩ rfl rfl rfl (fun _ => rfl) (Nat.le_of_ble_eq_true rfl) ⟨rfl, rfl⟩
          · replace hF := xg_f c343 hF
            refine xy_r (xw_aload_n dM_rows_88 rfl) ?_
            obtain ⟨r361, er361, hF⟩ := xg_b hF
            refine xy_q (fun hq => xg_V1 (k1 := _) (n1 := _) (CM_peek er361) rfl rfl rfl dM_rows_89 (kM_230 _) ⟨Nat.le_of_ble_eq_true rfl, Nat.le_of_ble_eq_true rfl⟩ rfl rfl rfl rfl (Nat.le_of_ble_eq_true rfl) (Nat.le_refl _) (Nat.le_refl _) (Nat.sub_le_sub_right hq.1 _) (Nat.sub_le_sub_right hq.2 _)) ?_
            refine xy_r (xw_bipush (59) dM_rows_92 (by decide)) ?_
            refine xy_br (xw_icmp_eq 106 dM_rows_94 (by decide)) (fun c362 => ?_) (fun c362 => ?_)
            · replace hF := xg_t c362 hF
              refine xy_r (xw_aload_n dM_rows_106 rfl) ?_
              refine xy_r (xw_aload_n dM_rows_107 rfl) ?_
              refine xy_r (xw_get dM_rows_108 fM_221 rfl rfl) ?_
              rcases xg_o hF with ⟨r363, er363, hF⟩ | ⟨r363, er363, hF⟩
              · have hm364 : m0 ≤ r363.2.2.2.1.2.2.2.2.2.2.1 ∧ n0 ≤ r363.2.2.2.1.2.2.2.2.2.2.2 := xy_le hm321 (show r320.2.2.2.1.2.2.2.2.2.2.1 ≤ r363.2.2.2.1.2.2.2.2.2.2.1 ∧ r320.2.2.2.1.2.2.2.2.2.2.2 ≤ r363.2.2.2.1.2.2.2.2.2.2.2 from (CM_bad (w := w) (h := h) hb (s := r320.2) er363).1)
                refine xy_V0 (nl := 2) (sm := r320.2.2.2.1.2.2.2.2.2.2.1) (sn := r320.2.2.2.1.2.2.2.2.2.2.2) (tm := r363.2.2.2.1.2.2.2.2.2.2.1) (tn := r363.2.2.2.1.2.2.2.2.2.2.2) (CM_bad hb (s := r320.2) er363) rfl rfl hm321 (fun _ => rfl) (fun _ => rfl) (fun _ => rfl) (fun _ => dM_rows_111) (fun _ R => kM_239 R) (fun _ => rfl) ⟨(Nat.le_of_ble_eq_true rfl), (Nat.le_of_ble_eq_true rfl)⟩ rfl rfl rfl (fun _ => rfl) (Nat.le_of_ble_eq_true rfl) ?_
                refine xy_r (xw_aload_n dM_rows_114 rfl) ?_
                obtain ⟨g366, hF⟩ := xg_g hF
                refine xy_r (xw_get dM_rows_115 fM_195 (mV_n g366) rfl) ?_
                refine xy_brn (xw_if_ne 123 dM_rows_118 (by decide)) (fun c367 => ?_) (fun c367 => ?_)
                · replace hF := xg_f c367 hF
                  refine xy_r (xw_aload_n dM_rows_123 rfl) ?_
                  refine xy_r (xw_dup_r dM_rows_124) ?_
                  refine xy_r (xw_get dM_rows_125 fM_195 (mV_n g366) rfl) ?_
                  refine xy_r (xw_iconst (1) dM_rows_128 (by decide)) ?_
                  refine xy_r (xw_iadd dM_rows_129) ?_
                  refine xy_r (xg_put dM_rows_130 fM_195 (mV_n g366) (xn_le _) (Nat.le_of_ble_eq_true rfl) (fun _ => rfl) (fun _ => rfl) (mV_e (s' := (r363.2.1, r363.2.2.1, (r363.2.2.2.1.1, r363.2.2.2.1.2.1, r363.2.2.2.1.2.2.1, r363.2.2.2.1.2.2.2.1, r363.2.2.2.1.2.2.2.2.1, (va_up r363.2.2.2.1.2.2.2.2.2.1 l1 (nA (r363.2.2.2.1.2.2.2.2.2.1 l1) ((r363.2.2.2.1.2.2.2.2.2.1 l1).1.2.1 + 1))), r363.2.2.2.1.2.2.2.2.2.2), r363.2.2.2.2)) (mV_pn (q := (nA (r363.2.2.2.1.2.2.2.2.2.1 l1) ((r363.2.2.2.1.2.2.2.2.2.1 l1).1.2.1 + 1))) g366) rfl)) ?_
                  refine xy_r (xw_aload_n dM_rows_133 rfl) ?_
                  refine xy_r (xw_bipush (59) dM_rows_134 (by decide)) ?_
                  obtain ⟨r368, er368, hF⟩ := xg_b hF
                  have hm369 : m0 ≤ r368.2.2.2.1.2.2.2.2.2.2.1 ∧ n0 ≤ r368.2.2.2.1.2.2.2.2.2.2.2 := xy_le hm364 (show r363.2.2.2.1.2.2.2.2.2.2.1 ≤ r368.2.2.2.1.2.2.2.2.2.2.1 ∧ r363.2.2.2.1.2.2.2.2.2.2.2 ≤ r368.2.2.2.1.2.2.2.2.2.2.2 from (CM_next (w := w) (h := h) hb (s := (r363.2.1, r363.2.2.1, (r363.2.2.2.1.1, r363.2.2.2.1.2.1, r363.2.2.2.1.2.2.1, r363.2.2.2.1.2.2.2.1, r363.2.2.2.1.2.2.2.2.1, (va_up r363.2.2.2.1.2.2.2.2.2.1 l1 (nA (r363.2.2.2.1.2.2.2.2.2.1 l1) ((r363.2.2.2.1.2.2.2.2.2.1 l1).1.2.1 + 1))), r363.2.2.2.1.2.2.2.2.2.2), r363.2.2.2.2)) er368).1)
                  refine xy_V1 (nl := 2) (sm := r363.2.2.2.1.2.2.2.2.2.2.1) (sn := r363.2.2.2.1.2.2.2.2.2.2.2) (tm := r368.2.2.2.1.2.2.2.2.2.2.1) (tn := r368.2.2.2.1.2.2.2.2.2.2.2) (CM_next hb (s := (r363.2.1, r363.2.2.1, (r363.2.2.2.1.1, r363.2.2.2.1.2.1, r363.2.2.2.1.2.2.1, r363.2.2.2.1.2.2.2.1, r363.2.2.2.1.2.2.2.2.1, (va_up r363.2.2.2.1.2.2.2.2.2.1 l1 (nA (r363.2.2.2.1.2.2.2.2.2.1 l1) ((r363.2.2.2.1.2.2.2.2.2.1 l1).1.2.1 + 1))), r363.2.2.2.1.2.2.2.2.2.2), r363.2.2.2.2)) er368) rfl rfl hm364 (fun _ => rfl) (fun _ => rfl) (fun _ => rfl) (fun _ => dM_rows_136) (fun _ R => kM_236 R) (fun _ => rfl) ⟨(Nat.le_of_ble_eq_true rfl), (Nat.le_of_ble_eq_true rfl)⟩ rfl rfl rfl (fun _ => rfl) (Nat.le_of_ble_eq_true rfl) ?_
                  refine xy_br (xw_if_neB 145 dM_rows_139 (by decide)) (fun c371 => ?_) (fun c371 => ?_)
                  · replace hF := xg_t c371 hF
                    refine xy_r (xw_aload_n dM_rows_145 rfl) ?_
                    refine xy_r (xw_dup_r dM_rows_146) ?_
                    refine xy_r (xw_get dM_rows_147 fM_221 rfl rfl) ?_
                    refine xy_r (xw_iconst (1) dM_rows_150 (by decide)) ?_
                    refine xy_r (xw_iadd dM_rows_151) ?_
                    refine xy_r (xg_put dM_rows_152 fM_221 rfl (by decide) (Nat.le_of_ble_eq_true rfl) (fun _ => rfl) (fun _ => rfl) (mV_o (s' := (r368.2.1, (r368.2.2.1.1, (r368.2.2.1.2.1 + 1), r368.2.2.1.2.2), r368.2.2.2)) rfl)) ?_
                    refine xy_r (xw_goto 13 dM_rows_155 (by decide)) ?_
                    refine xy_r (xw_drop (L' := [some (.ref 2000), some (.ref (xn l1)), some (.int l2), none]) ⟨rfl, ⟨rfl, ⟨rfl, trivial⟩⟩⟩) ?_
                    exact ih.1 (s := (r368.2.1, (r368.2.2.1.1, (r368.2.2.1.2.1 + 1), r368.2.2.1.2.2), r368.2.2.2)) hm369 hF
                  · replace hF := xg_f c371 hF
                    refine xy_r (xw_goto 158 dM_rows_142 (by decide)) ?_
                    refine xy_r (xw_aload_n dM_rows_158 rfl) ?_
                    refine xy_r (xw_iload_n dM_rows_159 rfl) ?_
                    obtain ⟨g372, hF⟩ := xg_g hF
                    refine xy_r (xg_put dM_rows_160 fM_198 (mV_n g372) (xn_le _) (Nat.le_of_ble_eq_true rfl) (fun _ => rfl) (fun _ => rfl) (mV_e (s' := (r368.2.1, r368.2.2.1, (r368.2.2.2.1.1, r368.2.2.2.1.2.1, r368.2.2.2.1.2.2.1, r368.2.2.2.1.2.2.2.1, r368.2.2.2.1.2.2.2.2.1, (va_up r368.2.2.2.1.2.2.2.2.2.1 l1 (nB (r368.2.2.2.1.2.2.2.2.2.1 l1) l2)), r368.2.2.2.1.2.2.2.2.2.2), r368.2.2.2.2)) (mV_pn (q := (nB (r368.2.2.2.1.2.2.2.2.2.1 l1) l2)) g372) rfl)) ?_
                    refine xy_r (xw_aload_n dM_rows_163 rfl) ?_
                    refine xy_r (xw_bipush (125) dM_rows_164 (by decide)) ?_
                    rcases xg_o hF with ⟨r373, er373, hF⟩ | ⟨r373, er373, hF⟩
                    · have hm374 : m0 ≤ r373.2.2.2.1.2.2.2.2.2.2.1 ∧ n0 ≤ r373.2.2.2.1.2.2.2.2.2.2.2 := xy_le hm369 (show r368.2.2.2.1.2.2.2.2.2.2.1 ≤ r373.2.2.2.1.2.2.2.2.2.2.1 ∧ r368.2.2.2.1.2.2.2.2.2.2.2 ≤ r373.2.2.2.1.2.2.2.2.2.2.2 from (CM_close (w := w) (h := h) hb (s := (r368.2.1, r368.2.2.1, (r368.2.2.2.1.1, r368.2.2.2.1.2.1, r368.2.2.2.1.2.2.1, r368.2.2.2.1.2.2.2.1, r368.2.2.2.1.2.2.2.2.1, (va_up r368.2.2.2.1.2.2.2.2.2.1 l1 (nB (r368.2.2.2.1.2.2.2.2.2.1 l1) l2)), r368.2.2.2.1.2.2.2.2.2.2), r368.2.2.2.2)) er373).1)
                      refine xy_V0 (nl := 2) (sm := r368.2.2.2.1.2.2.2.2.2.2.1) (sn := r368.2.2.2.1.2.2.2.2.2.2.2) (tm := r373.2.2.2.1.2.2.2.2.2.2.1) (tn := r373.2.2.2.1.2.2.2.2.2.2.2) (CM_close hb (s := (r368.2.1, r368.2.2.1, (r368.2.2.2.1.1, r368.2.2.2.1.2.1, r368.2.2.2.1.2.2.1, r368.2.2.2.1.2.2.2.1, r368.2.2.2.1.2.2.2.2.1, (va_up r368.2.2.2.1.2.2.2.2.2.1 l1 (nB (r368.2.2.2.1.2.2.2.2.2.1 l1) l2)), r368.2.2.2.1.2.2.2.2.2.2), r368.2.2.2.2)) er373) rfl rfl hm369 (fun _ => rfl) (fun _ => rfl) (fun _ => rfl) (fun _ => dM_rows_166) (fun _ R => kM_289 R) (fun _ => rfl) ⟨(Nat.le_of_ble_eq_true rfl), (Nat.le_of_ble_eq_true rfl)⟩ rfl rfl rfl (fun _ => rfl) (Nat.le_of_ble_eq_true rfl) ?_
                      refine xy_r (xw_aload_n dM_rows_169 rfl) ?_
                      obtain rfl := Option.some.inj hF
                      exact xy_end (xw_areturn dM_rows_170 rfl (Or.inl ⟨_, rfl⟩) (Nat.le_refl _) (Nat.le_refl _) ⟨rfl, rfl⟩)
                    · subst hF
                      exact xy_Vt (nl := 2) (sm := r368.2.2.2.1.2.2.2.2.2.2.1) (sn := r368.2.2.2.1.2.2.2.2.2.2.2) (tm := r373.2.2.2.1.2.2.2.2.2.2.1) (tn := r373.2.2.2.1.2.2.2.2.2.2.2) (CM_close hb (s := (r368.2.1, r368.2.2.1, (r368.2.2.2.1.1, r368.2.2.2.1.2.1, r368.2.2.2.1.2.2.1, r368.2.2.2.1.2.2.2.1, r368.2.2.2.1.2.2.2.2.1, (va_up r368.2.2.2.1.2.2.2.2.2.1 l1 (nB (r368.2.2.2.1.2.2.2.2.2.1 l1) l2)), r368.2.2.2.1.2.2.2.2.2.2), r368.2.2.2.2)) er373) rfl rfl hm369 (fun _ => rfl) (fun _ => rfl) (fun _ => rfl) (fun _ => dM_rows_166) (fun _ R => kM_289 R) (fun _ => rfl) ⟨(Nat.le_of_ble_eq_true rfl), (Nat.le_of_ble_eq_true rfl)⟩ rfl rfl rfl (fun _ => rfl) (Nat.le_of_ble_eq_true rfl) ⟨rfl, rfl⟩
                · replace hF := xg_t c367 hF
                  refine xy_r (xw_iload_n dM_rows_121 rfl) ?_
                  refine xy_r (xw_istore_n dM_rows_122 (Nat.le_of_ble_eq_true rfl)) ?_
                  refine xy_r (xw_Ln (L' := [some (.ref 2000), some (.ref (xn l1)), some (.int l3), some (.int l3)]) rfl) ?_
                  refine xy_r (xw_aload_n dM_rows_123 rfl) ?_
                  refine xy_r (xw_dup_r dM_rows_124) ?_
                  refine xy_r (xw_get dM_rows_125 fM_195 (mV_n g366) rfl) ?_
                  refine xy_r (xw_iconst (1) dM_rows_128 (by decide)) ?_
                  refine xy_r (xw_iadd dM_rows_129) ?_
                  refine xy_r (xg_put dM_rows_130 fM_195 (mV_n g366) (xn_le _) (Nat.le_of_ble_eq_true rfl) (fun _ => rfl) (fun _ => rfl) (mV_e (s' := (r363.2.1, r363.2.2.1, (r363.2.2.2.1.1, r363.2.2.2.1.2.1, r363.2.2.2.1.2.2.1, r363.2.2.2.1.2.2.2.1, r363.2.2.2.1.2.2.2.2.1, (va_up r363.2.2.2.1.2.2.2.2.2.1 l1 (nA (r363.2.2.2.1.2.2.2.2.2.1 l1) ((r363.2.2.2.1.2.2.2.2.2.1 l1).1.2.1 + 1))), r363.2.2.2.1.2.2.2.2.2.2), r363.2.2.2.2)) (mV_pn (q := (nA (r363.2.2.2.1.2.2.2.2.2.1 l1) ((r363.2.2.2.1.2.2.2.2.2.1 l1).1.2.1 + 1))) g366) rfl)) ?_
                  refine xy_r (xw_aload_n dM_rows_133 rfl) ?_
                  refine xy_r (xw_bipush (59) dM_rows_134 (by decide)) ?_
                  obtain ⟨r376, er376, hF⟩ := xg_b hF
                  have hm377 : m0 ≤ r376.2.2.2.1.2.2.2.2.2.2.1 ∧ n0 ≤ r376.2.2.2.1.2.2.2.2.2.2.2 := xy_le hm364 (show r363.2.2.2.1.2.2.2.2.2.2.1 ≤ r376.2.2.2.1.2.2.2.2.2.2.1 ∧ r363.2.2.2.1.2.2.2.2.2.2.2 ≤ r376.2.2.2.1.2.2.2.2.2.2.2 from (CM_next (w := w) (h := h) hb (s := (r363.2.1, r363.2.2.1, (r363.2.2.2.1.1, r363.2.2.2.1.2.1, r363.2.2.2.1.2.2.1, r363.2.2.2.1.2.2.2.1, r363.2.2.2.1.2.2.2.2.1, (va_up r363.2.2.2.1.2.2.2.2.2.1 l1 (nA (r363.2.2.2.1.2.2.2.2.2.1 l1) ((r363.2.2.2.1.2.2.2.2.2.1 l1).1.2.1 + 1))), r363.2.2.2.1.2.2.2.2.2.2), r363.2.2.2.2)) er376).1)
                  refine xy_V1 (nl := 2) (sm := r363.2.2.2.1.2.2.2.2.2.2.1) (sn := r363.2.2.2.1.2.2.2.2.2.2.2) (tm := r376.2.2.2.1.2.2.2.2.2.2.1) (tn := r376.2.2.2.1.2.2.2.2.2.2.2) (CM_next hb (s := (r363.2.1, r363.2.2.1, (r363.2.2.2.1.1, r363.2.2.2.1.2.1, r363.2.2.2.1.2.2.1, r363.2.2.2.1.2.2.2.1, r363.2.2.2.1.2.2.2.2.1, (va_up r363.2.2.2.1.2.2.2.2.2.1 l1 (nA (r363.2.2.2.1.2.2.2.2.2.1 l1) ((r363.2.2.2.1.2.2.2.2.2.1 l1).1.2.1 + 1))), r363.2.2.2.1.2.2.2.2.2.2), r363.2.2.2.2)) er376) rfl rfl hm364 (fun _ => rfl) (fun _ => rfl) (fun _ => rfl) (fun _ => dM_rows_136) (fun _ R => kM_236 R) (fun _ => rfl) ⟨(Nat.le_of_ble_eq_true rfl), (Nat.le_of_ble_eq_true rfl)⟩ rfl rfl rfl (fun _ => rfl) (Nat.le_of_ble_eq_true rfl) ?_
                  refine xy_br (xw_if_neB 145 dM_rows_139 (by decide)) (fun c379 => ?_) (fun c379 => ?_)
                  · replace hF := xg_t c379 hF
                    refine xy_r (xw_aload_n dM_rows_145 rfl) ?_
                    refine xy_r (xw_dup_r dM_rows_146) ?_
                    refine xy_r (xw_get dM_rows_147 fM_221 rfl rfl) ?_
                    refine xy_r (xw_iconst (1) dM_rows_150 (by decide)) ?_
                    refine xy_r (xw_iadd dM_rows_151) ?_
                    refine xy_r (xg_put dM_rows_152 fM_221 rfl (by decide) (Nat.le_of_ble_eq_true rfl) (fun _ => rfl) (fun _ => rfl) (mV_o (s' := (r376.2.1, (r376.2.2.1.1, (r376.2.2.1.2.1 + 1), r376.2.2.1.2.2), r376.2.2.2)) rfl)) ?_
                    refine xy_r (xw_goto 13 dM_rows_155 (by decide)) ?_
                    refine xy_r (xw_drop (L' := [some (.ref 2000), some (.ref (xn l1)), some (.int l3), none]) ⟨rfl, ⟨rfl, ⟨rfl, trivial⟩⟩⟩) ?_
                    exact ih.1 (s := (r376.2.1, (r376.2.2.1.1, (r376.2.2.1.2.1 + 1), r376.2.2.1.2.2), r376.2.2.2)) hm377 hF
                  · replace hF := xg_f c379 hF
                    refine xy_r (xw_goto 158 dM_rows_142 (by decide)) ?_
                    refine xy_r (xw_aload_n dM_rows_158 rfl) ?_
                    refine xy_r (xw_iload_n dM_rows_159 rfl) ?_
                    obtain ⟨g380, hF⟩ := xg_g hF
                    refine xy_r (xg_put dM_rows_160 fM_198 (mV_n g380) (xn_le _) (Nat.le_of_ble_eq_true rfl) (fun _ => rfl) (fun _ => rfl) (mV_e (s' := (r376.2.1, r376.2.2.1, (r376.2.2.2.1.1, r376.2.2.2.1.2.1, r376.2.2.2.1.2.2.1, r376.2.2.2.1.2.2.2.1, r376.2.2.2.1.2.2.2.2.1, (va_up r376.2.2.2.1.2.2.2.2.2.1 l1 (nB (r376.2.2.2.1.2.2.2.2.2.1 l1) l3)), r376.2.2.2.1.2.2.2.2.2.2), r376.2.2.2.2)) (mV_pn (q := (nB (r376.2.2.2.1.2.2.2.2.2.1 l1) l3)) g380) rfl)) ?_
                    refine xy_r (xw_aload_n dM_rows_163 rfl) ?_
                    refine xy_r (xw_bipush (125) dM_rows_164 (by decide)) ?_
                    rcases xg_o hF with ⟨r381, er381, hF⟩ | ⟨r381, er381, hF⟩
                    · have hm382 : m0 ≤ r381.2.2.2.1.2.2.2.2.2.2.1 ∧ n0 ≤ r381.2.2.2.1.2.2.2.2.2.2.2 := xy_le hm377 (show r376.2.2.2.1.2.2.2.2.2.2.1 ≤ r381.2.2.2.1.2.2.2.2.2.2.1 ∧ r376.2.2.2.1.2.2.2.2.2.2.2 ≤ r381.2.2.2.1.2.2.2.2.2.2.2 from (CM_close (w := w) (h := h) hb (s := (r376.2.1, r376.2.2.1, (r376.2.2.2.1.1, r376.2.2.2.1.2.1, r376.2.2.2.1.2.2.1, r376.2.2.2.1.2.2.2.1, r376.2.2.2.1.2.2.2.2.1, (va_up r376.2.2.2.1.2.2.2.2.2.1 l1 (nB (r376.2.2.2.1.2.2.2.2.2.1 l1) l3)), r376.2.2.2.1.2.2.2.2.2.2), r376.2.2.2.2)) er381).1)
                      refine xy_V0 (nl := 2) (sm := r376.2.2.2.1.2.2.2.2.2.2.1) (sn := r376.2.2.2.1.2.2.2.2.2.2.2) (tm := r381.2.2.2.1.2.2.2.2.2.2.1) (tn := r381.2.2.2.1.2.2.2.2.2.2.2) (CM_close hb (s := (r376.2.1, r376.2.2.1, (r376.2.2.2.1.1, r376.2.2.2.1.2.1, r376.2.2.2.1.2.2.1, r376.2.2.2.1.2.2.2.1, r376.2.2.2.1.2.2.2.2.1, (va_up r376.2.2.2.1.2.2.2.2.2.1 l1 (nB (r376.2.2.2.1.2.2.2.2.2.1 l1) l3)), r376.2.2.2.1.2.2.2.2.2.2), r376.2.2.2.2)) er381) rfl rfl hm377 (fun _ => rfl) (fun _ => rfl) (fun _ => rfl) (fun _ => dM_rows_166) (fun _ R => kM_289 R) (fun _ => rfl) ⟨(Nat.le_of_ble_eq_true rfl), (Nat.le_of_ble_eq_true rfl)⟩ rfl rfl rfl (fun _ => rfl) (Nat.le_of_ble_eq_true rfl) ?_
                      refine xy_r (xw_aload_n dM_rows_169 rfl) ?_
                      obtain rfl := Option.some.inj hF
                      exact xy_end (xw_areturn dM_rows_170 rfl (Or.inl ⟨_, rfl⟩) (Nat.le_refl _) (Nat.le_refl _) ⟨rfl, rfl⟩)
                    · subst hF
                      exact xy_Vt (nl := 2) (sm := r376.2.2.2.1.2.2.2.2.2.2.1) (sn := r376.2.2.2.1.2.2.2.2.2.2.2) (tm := r381.2.2.2.1.2.2.2.2.2.2.1) (tn := r381.2.2.2.1.2.2.2.2.2.2.2) (CM_close hb (s := (r376.2.1, r376.2.2.1, (r376.2.2.2.1.1, r376.2.2.2.1.2.1, r376.2.2.2.1.2.2.1, r376.2.2.2.1.2.2.2.1, r376.2.2.2.1.2.2.2.2.1, (va_up r376.2.2.2.1.2.2.2.2.2.1 l1 (nB (r376.2.2.2.1.2.2.2.2.2.1 l1) l3)), r376.2.2.2.1.2.2.2.2.2.2), r376.2.2.2.2)) er381) rfl rfl hm377 (fun _ => rfl) (fun _ => rfl) (fun _ => rfl) (fun _ => dM_rows_166) (fun _ R => kM_289 R) (fun _ => rfl) ⟨(Nat.le_of_ble_eq_true rfl), (Nat.le_of_ble_eq_true rfl)⟩ rfl rfl rfl (fun _ => rfl) (Nat.le_of_ble_eq_true rfl) ⟨rfl, rfl⟩
              · subst hF
                exact xy_Vt (nl := 2) (sm := r320.2.2.2.1.2.2.2.2.2.2.1) (sn := r320.2.2.2.1.2.2.2.2.2.2.2) (tm := r363.2.2.2.1.2.2.2.2.2.2.1) (tn := r363.2.2.2.1.2.2.2.2.2.2.2) (CM_bad hb (s := r320.2) er363) rfl rfl hm321 (fun _ => rfl) (fun _ => rfl) (fun _ => rfl) (fun _ => dM_rows_111) (fun _ R => kM_239 R) (fun _ => rfl) ⟨(Nat.le_of_ble_eq_true rfl), (Nat.le_of_ble_eq_true rfl)⟩ rfl rfl rfl (fun _ => rfl) (Nat.le_of_ble_eq_true rfl) ⟨rfl, rfl⟩
            · replace hF := xg_f c362 hF
              refine xy_r (xw_aload_n dM_rows_97 rfl) ?_
              obtain ⟨r384, er384, hF⟩ := xg_b hF
              refine xy_q (fun hq => xg_V1 (k1 := _) (n1 := _) (CM_peek er384) rfl rfl rfl dM_rows_98 (kM_230 _) ⟨Nat.le_of_ble_eq_true rfl, Nat.le_of_ble_eq_true rfl⟩ rfl rfl rfl rfl (Nat.le_of_ble_eq_true rfl) (Nat.le_refl _) (Nat.le_refl _) (Nat.sub_le_sub_right hq.1 _) (Nat.sub_le_sub_right hq.2 _)) ?_
              refine xy_r (xw_bipush (125) dM_rows_101 (by decide)) ?_
              refine xy_brn (xw_icmp_ne 114 dM_rows_103 (by decide)) (fun c385 => ?_) (fun c385 => ?_)
              · replace hF := xg_f c385 hF
                refine xy_r (xw_aload_n dM_rows_114 rfl) ?_
                refine xy_r (xw_get dM_rows_115 fM_195 (mV_n g324) rfl) ?_
                refine xy_brn (xw_if_ne 123 dM_rows_118 (by decide)) (fun c386 => ?_) (fun c386 => ?_)
                · replace hF := xg_f c386 hF
                  refine xy_r (xw_aload_n dM_rows_123 rfl) ?_
                  refine xy_r (xw_dup_r dM_rows_124) ?_
                  refine xy_r (xw_get dM_rows_125 fM_195 (mV_n g324) rfl) ?_
                  refine xy_r (xw_iconst (1) dM_rows_128 (by decide)) ?_
                  refine xy_r (xw_iadd dM_rows_129) ?_
                  refine xy_r (xg_put dM_rows_130 fM_195 (mV_n g324) (xn_le _) (Nat.le_of_ble_eq_true rfl) (fun _ => rfl) (fun _ => rfl) (mV_e (s' := (r320.2.1, r320.2.2.1, (r320.2.2.2.1.1, r320.2.2.2.1.2.1, r320.2.2.2.1.2.2.1, r320.2.2.2.1.2.2.2.1, r320.2.2.2.1.2.2.2.2.1, (va_up r320.2.2.2.1.2.2.2.2.2.1 l1 (nA (r320.2.2.2.1.2.2.2.2.2.1 l1) ((r320.2.2.2.1.2.2.2.2.2.1 l1).1.2.1 + 1))), r320.2.2.2.1.2.2.2.2.2.2), r320.2.2.2.2)) (mV_pn (q := (nA (r320.2.2.2.1.2.2.2.2.2.1 l1) ((r320.2.2.2.1.2.2.2.2.2.1 l1).1.2.1 + 1))) g324) rfl)) ?_
                  refine xy_r (xw_aload_n dM_rows_133 rfl) ?_
                  refine xy_r (xw_bipush (59) dM_rows_134 (by decide)) ?_
                  obtain ⟨r387, er387, hF⟩ := xg_b hF
                  have hm388 : m0 ≤ r387.2.2.2.1.2.2.2.2.2.2.1 ∧ n0 ≤ r387.2.2.2.1.2.2.2.2.2.2.2 := xy_le hm321 (show r320.2.2.2.1.2.2.2.2.2.2.1 ≤ r387.2.2.2.1.2.2.2.2.2.2.1 ∧ r320.2.2.2.1.2.2.2.2.2.2.2 ≤ r387.2.2.2.1.2.2.2.2.2.2.2 from (CM_next (w := w) (h := h) hb (s := (r320.2.1, r320.2.2.1, (r320.2.2.2.1.1, r320.2.2.2.1.2.1, r320.2.2.2.1.2.2.1, r320.2.2.2.1.2.2.2.1, r320.2.2.2.1.2.2.2.2.1, (va_up r320.2.2.2.1.2.2.2.2.2.1 l1 (nA (r320.2.2.2.1.2.2.2.2.2.1 l1) ((r320.2.2.2.1.2.2.2.2.2.1 l1).1.2.1 + 1))), r320.2.2.2.1.2.2.2.2.2.2), r320.2.2.2.2)) er387).1)
                  refine xy_V1 (nl := 2) (sm := r320.2.2.2.1.2.2.2.2.2.2.1) (sn := r320.2.2.2.1.2.2.2.2.2.2.2) (tm := r387.2.2.2.1.2.2.2.2.2.2.1) (tn := r387.2.2.2.1.2.2.2.2.2.2.2) (CM_next hb (s := (r320.2.1, r320.2.2.1, (r320.2.2.2.1.1, r320.2.2.2.1.2.1, r320.2.2.2.1.2.2.1, r320.2.2.2.1.2.2.2.1, r320.2.2.2.1.2.2.2.2.1, (va_up r320.2.2.2.1.2.2.2.2.2.1 l1 (nA (r320.2.2.2.1.2.2.2.2.2.1 l1) ((r320.2.2.2.1.2.2.2.2.2.1 l1).1.2.1 + 1))), r320.2.2.2.1.2.2.2.2.2.2), r320.2.2.2.2)) er387) rfl rfl hm321 (fun _ => rfl) (fun _ => rfl) (fun _ => rfl) (fun _ => dM_rows_136) (fun _ R => kM_236 R) (fun _ => rfl) ⟨(Nat.le_of_ble_eq_true rfl), (Nat.le_of_ble_eq_true rfl)⟩ rfl rfl rfl (fun _ => rfl) (Nat.le_of_ble_eq_true rfl) ?_
                  refine xy_br (xw_if_neB 145 dM_rows_139 (by decide)) (fun c390 => ?_) (fun c390 => ?_)
                  · replace hF := xg_t c390 hF
                    refine xy_r (xw_aload_n dM_rows_145 rfl) ?_
                    refine xy_r (xw_dup_r dM_rows_146) ?_
                    refine xy_r (xw_get dM_rows_147 fM_221 rfl rfl) ?_
                    refine xy_r (xw_iconst (1) dM_rows_150 (by decide)) ?_
                    refine xy_r (xw_iadd dM_rows_151) ?_
                    refine xy_r (xg_put dM_rows_152 fM_221 rfl (by decide) (Nat.le_of_ble_eq_true rfl) (fun _ => rfl) (fun _ => rfl) (mV_o (s' := (r387.2.1, (r387.2.2.1.1, (r387.2.2.1.2.1 + 1), r387.2.2.1.2.2), r387.2.2.2)) rfl)) ?_
                    refine xy_r (xw_goto 13 dM_rows_155 (by decide)) ?_
                    refine xy_r (xw_drop (L' := [some (.ref 2000), some (.ref (xn l1)), some (.int l2), none]) ⟨rfl, ⟨rfl, ⟨rfl, trivial⟩⟩⟩) ?_
                    exact ih.1 (s := (r387.2.1, (r387.2.2.1.1, (r387.2.2.1.2.1 + 1), r387.2.2.1.2.2), r387.2.2.2)) hm388 hF
                  · replace hF := xg_f c390 hF
                    refine xy_r (xw_goto 158 dM_rows_142 (by decide)) ?_
                    refine xy_r (xw_aload_n dM_rows_158 rfl) ?_
                    refine xy_r (xw_iload_n dM_rows_159 rfl) ?_
                    obtain ⟨g391, hF⟩ := xg_g hF
                    refine xy_r (xg_put dM_rows_160 fM_198 (mV_n g391) (xn_le _) (Nat.le_of_ble_eq_true rfl) (fun _ => rfl) (fun _ => rfl) (mV_e (s' := (r387.2.1, r387.2.2.1, (r387.2.2.2.1.1, r387.2.2.2.1.2.1, r387.2.2.2.1.2.2.1, r387.2.2.2.1.2.2.2.1, r387.2.2.2.1.2.2.2.2.1, (va_up r387.2.2.2.1.2.2.2.2.2.1 l1 (nB (r387.2.2.2.1.2.2.2.2.2.1 l1) l2)), r387.2.2.2.1.2.2.2.2.2.2), r387.2.2.2.2)) (mV_pn (q := (nB (r387.2.2.2.1.2.2.2.2.2.1 l1) l2)) g391) rfl)) ?_
                    refine xy_r (xw_aload_n dM_rows_163 rfl) ?_
                    refine xy_r (xw_bipush (125) dM_rows_164 (by decide)) ?_
                    rcases xg_o hF with ⟨r392, er392, hF⟩ | ⟨r392, er392, hF⟩
                    · have hm393 : m0 ≤ r392.2.2.2.1.2.2.2.2.2.2.1 ∧ n0 ≤ r392.2.2.2.1.2.2.2.2.2.2.2 := xy_le hm388 (show r387.2.2.2.1.2.2.2.2.2.2.1 ≤ r392.2.2.2.1.2.2.2.2.2.2.1 ∧ r387.2.2.2.1.2.2.2.2.2.2.2 ≤ r392.2.2.2.1.2.2.2.2.2.2.2 from (CM_close (w := w) (h := h) hb (s := (r387.2.1, r387.2.2.1, (r387.2.2.2.1.1, r387.2.2.2.1.2.1, r387.2.2.2.1.2.2.1, r387.2.2.2.1.2.2.2.1, r387.2.2.2.1.2.2.2.2.1, (va_up r387.2.2.2.1.2.2.2.2.2.1 l1 (nB (r387.2.2.2.1.2.2.2.2.2.1 l1) l2)), r387.2.2.2.1.2.2.2.2.2.2), r387.2.2.2.2)) er392).1)
                      refine xy_V0 (nl := 2) (sm := r387.2.2.2.1.2.2.2.2.2.2.1) (sn := r387.2.2.2.1.2.2.2.2.2.2.2) (tm := r392.2.2.2.1.2.2.2.2.2.2.1) (tn := r392.2.2.2.1.2.2.2.2.2.2.2) (CM_close hb (s := (r387.2.1, r387.2.2.1, (r387.2.2.2.1.1, r387.2.2.2.1.2.1, r387.2.2.2.1.2.2.1, r387.2.2.2.1.2.2.2.1, r387.2.2.2.1.2.2.2.2.1, (va_up r387.2.2.2.1.2.2.2.2.2.1 l1 (nB (r387.2.2.2.1.2.2.2.2.2.1 l1) l2)), r387.2.2.2.1.2.2.2.2.2.2), r387.2.2.2.2)) er392) rfl rfl hm388 (fun _ => rfl) (fun _ => rfl) (fun _ => rfl) (fun _ => dM_rows_166) (fun _ R => kM_289 R) (fun _ => rfl) ⟨(Nat.le_of_ble_eq_true rfl), (Nat.le_of_ble_eq_true rfl)⟩ rfl rfl rfl (fun _ => rfl) (Nat.le_of_ble_eq_true rfl) ?_
                      refine xy_r (xw_aload_n dM_rows_169 rfl) ?_
                      obtain rfl := Option.some.inj hF
                      exact xy_end (xw_areturn dM_rows_170 rfl (Or.inl ⟨_, rfl⟩) (Nat.le_refl _) (Nat.le_refl _) ⟨rfl, rfl⟩)
                    · subst hF
                      exact xy_Vt (nl := 2) (sm := r387.2.2.2.1.2.2.2.2.2.2.1) (sn := r387.2.2.2.1.2.2.2.2.2.2.2) (tm := r392.2.2.2.1.2.2.2.2.2.2.1) (tn := r392.2.2.2.1.2.2.2.2.2.2.2) (CM_close hb (s := (r387.2.1, r387.2.2.1, (r387.2.2.2.1.1, r387.2.2.2.1.2.1, r387.2.2.2.1.2.2.1, r387.2.2.2.1.2.2.2.1, r387.2.2.2.1.2.2.2.2.1, (va_up r387.2.2.2.1.2.2.2.2.2.1 l1 (nB (r387.2.2.2.1.2.2.2.2.2.1 l1) l2)), r387.2.2.2.1.2.2.2.2.2.2), r387.2.2.2.2)) er392) rfl rfl hm388 (fun _ => rfl) (fun _ => rfl) (fun _ => rfl) (fun _ => dM_rows_166) (fun _ R => kM_289 R) (fun _ => rfl) ⟨(Nat.le_of_ble_eq_true rfl), (Nat.le_of_ble_eq_true rfl)⟩ rfl rfl rfl (fun _ => rfl) (Nat.le_of_ble_eq_true rfl) ⟨rfl, rfl⟩
                · replace hF := xg_t c386 hF
                  refine xy_r (xw_iload_n dM_rows_121 rfl) ?_
                  refine xy_r (xw_istore_n dM_rows_122 (Nat.le_of_ble_eq_true rfl)) ?_
                  refine xy_r (xw_Ln (L' := [some (.ref 2000), some (.ref (xn l1)), some (.int l3), some (.int l3)]) rfl) ?_
                  refine xy_r (xw_aload_n dM_rows_123 rfl) ?_
                  refine xy_r (xw_dup_r dM_rows_124) ?_
                  refine xy_r (xw_get dM_rows_125 fM_195 (mV_n g324) rfl) ?_
                  refine xy_r (xw_iconst (1) dM_rows_128 (by decide)) ?_
                  refine xy_r (xw_iadd dM_rows_129) ?_
                  refine xy_r (xg_put dM_rows_130 fM_195 (mV_n g324) (xn_le _) (Nat.le_of_ble_eq_true rfl) (fun _ => rfl) (fun _ => rfl) (mV_e (s' := (r320.2.1, r320.2.2.1, (r320.2.2.2.1.1, r320.2.2.2.1.2.1, r320.2.2.2.1.2.2.1, r320.2.2.2.1.2.2.2.1, r320.2.2.2.1.2.2.2.2.1, (va_up r320.2.2.2.1.2.2.2.2.2.1 l1 (nA (r320.2.2.2.1.2.2.2.2.2.1 l1) ((r320.2.2.2.1.2.2.2.2.2.1 l1).1.2.1 + 1))), r320.2.2.2.1.2.2.2.2.2.2), r320.2.2.2.2)) (mV_pn (q := (nA (r320.2.2.2.1.2.2.2.2.2.1 l1) ((r320.2.2.2.1.2.2.2.2.2.1 l1).1.2.1 + 1))) g324) rfl)) ?_
                  refine xy_r (xw_aload_n dM_rows_133 rfl) ?_
                  refine xy_r (xw_bipush (59) dM_rows_134 (by decide)) ?_
                  obtain ⟨r395, er395, hF⟩ := xg_b hF
                  have hm396 : m0 ≤ r395.2.2.2.1.2.2.2.2.2.2.1 ∧ n0 ≤ r395.2.2.2.1.2.2.2.2.2.2.2 := xy_le hm321 (show r320.2.2.2.1.2.2.2.2.2.2.1 ≤ r395.2.2.2.1.2.2.2.2.2.2.1 ∧ r320.2.2.2.1.2.2.2.2.2.2.2 ≤ r395.2.2.2.1.2.2.2.2.2.2.2 from (CM_next (w := w) (h := h) hb (s := (r320.2.1, r320.2.2.1, (r320.2.2.2.1.1, r320.2.2.2.1.2.1, r320.2.2.2.1.2.2.1, r320.2.2.2.1.2.2.2.1, r320.2.2.2.1.2.2.2.2.1, (va_up r320.2.2.2.1.2.2.2.2.2.1 l1 (nA (r320.2.2.2.1.2.2.2.2.2.1 l1) ((r320.2.2.2.1.2.2.2.2.2.1 l1).1.2.1 + 1))), r320.2.2.2.1.2.2.2.2.2.2), r320.2.2.2.2)) er395).1)
                  refine xy_V1 (nl := 2) (sm := r320.2.2.2.1.2.2.2.2.2.2.1) (sn := r320.2.2.2.1.2.2.2.2.2.2.2) (tm := r395.2.2.2.1.2.2.2.2.2.2.1) (tn := r395.2.2.2.1.2.2.2.2.2.2.2) (CM_next hb (s := (r320.2.1, r320.2.2.1, (r320.2.2.2.1.1, r320.2.2.2.1.2.1, r320.2.2.2.1.2.2.1, r320.2.2.2.1.2.2.2.1, r320.2.2.2.1.2.2.2.2.1, (va_up r320.2.2.2.1.2.2.2.2.2.1 l1 (nA (r320.2.2.2.1.2.2.2.2.2.1 l1) ((r320.2.2.2.1.2.2.2.2.2.1 l1).1.2.1 + 1))), r320.2.2.2.1.2.2.2.2.2.2), r320.2.2.2.2)) er395) rfl rfl hm321 (fun _ => rfl) (fun _ => rfl) (fun _ => rfl) (fun _ => dM_rows_136) (fun _ R => kM_236 R) (fun _ => rfl) ⟨(Nat.le_of_ble_eq_true rfl), (Nat.le_of_ble_eq_true rfl)⟩ rfl rfl rfl (fun _ => rfl) (Nat.le_of_ble_eq_true rfl) ?_
                  refine xy_br (xw_if_neB 145 dM_rows_139 (by decide)) (fun c398 => ?_) (fun c398 => ?_)
                  · replace hF := xg_t c398 hF
                    refine xy_r (xw_aload_n dM_rows_145 rfl) ?_
                    refine xy_r (xw_dup_r dM_rows_146) ?_
                    refine xy_r (xw_get dM_rows_147 fM_221 rfl rfl) ?_
                    refine xy_r (xw_iconst (1) dM_rows_150 (by decide)) ?_
                    refine xy_r (xw_iadd dM_rows_151) ?_
                    refine xy_r (xg_put dM_rows_152 fM_221 rfl (by decide) (Nat.le_of_ble_eq_true rfl) (fun _ => rfl) (fun _ => rfl) (mV_o (s' := (r395.2.1, (r395.2.2.1.1, (r395.2.2.1.2.1 + 1), r395.2.2.1.2.2), r395.2.2.2)) rfl)) ?_
                    refine xy_r (xw_goto 13 dM_rows_155 (by decide)) ?_
                    refine xy_r (xw_drop (L' := [some (.ref 2000), some (.ref (xn l1)), some (.int l3), none]) ⟨rfl, ⟨rfl, ⟨rfl, trivial⟩⟩⟩) ?_
                    exact ih.1 (s := (r395.2.1, (r395.2.2.1.1, (r395.2.2.1.2.1 + 1), r395.2.2.1.2.2), r395.2.2.2)) hm396 hF
                  · replace hF := xg_f c398 hF
                    refine xy_r (xw_goto 158 dM_rows_142 (by decide)) ?_
                    refine xy_r (xw_aload_n dM_rows_158 rfl) ?_
                    refine xy_r (xw_iload_n dM_rows_159 rfl) ?_
                    obtain ⟨g399, hF⟩ := xg_g hF
                    refine xy_r (xg_put dM_rows_160 fM_198 (mV_n g399) (xn_le _) (Nat.le_of_ble_eq_true rfl) (fun _ => rfl) (fun _ => rfl) (mV_e (s' := (r395.2.1, r395.2.2.1, (r395.2.2.2.1.1, r395.2.2.2.1.2.1, r395.2.2.2.1.2.2.1, r395.2.2.2.1.2.2.2.1, r395.2.2.2.1.2.2.2.2.1, (va_up r395.2.2.2.1.2.2.2.2.2.1 l1 (nB (r395.2.2.2.1.2.2.2.2.2.1 l1) l3)), r395.2.2.2.1.2.2.2.2.2.2), r395.2.2.2.2)) (mV_pn (q := (nB (r395.2.2.2.1.2.2.2.2.2.1 l1) l3)) g399) rfl)) ?_
                    refine xy_r (xw_aload_n dM_rows_163 rfl) ?_
                    refine xy_r (xw_bipush (125) dM_rows_164 (by decide)) ?_
                    rcases xg_o hF with ⟨r400, er400, hF⟩ | ⟨r400, er400, hF⟩
                    · have hm401 : m0 ≤ r400.2.2.2.1.2.2.2.2.2.2.1 ∧ n0 ≤ r400.2.2.2.1.2.2.2.2.2.2.2 := xy_le hm396 (show r395.2.2.2.1.2.2.2.2.2.2.1 ≤ r400.2.2.2.1.2.2.2.2.2.2.1 ∧ r395.2.2.2.1.2.2.2.2.2.2.2 ≤ r400.2.2.2.1.2.2.2.2.2.2.2 from (CM_close (w := w) (h := h) hb (s := (r395.2.1, r395.2.2.1, (r395.2.2.2.1.1, r395.2.2.2.1.2.1, r395.2.2.2.1.2.2.1, r395.2.2.2.1.2.2.2.1, r395.2.2.2.1.2.2.2.2.1, (va_up r395.2.2.2.1.2.2.2.2.2.1 l1 (nB (r395.2.2.2.1.2.2.2.2.2.1 l1) l3)), r395.2.2.2.1.2.2.2.2.2.2), r395.2.2.2.2)) er400).1)
                      refine xy_V0 (nl := 2) (sm := r395.2.2.2.1.2.2.2.2.2.2.1) (sn := r395.2.2.2.1.2.2.2.2.2.2.2) (tm := r400.2.2.2.1.2.2.2.2.2.2.1) (tn := r400.2.2.2.1.2.2.2.2.2.2.2) (CM_close hb (s := (r395.2.1, r395.2.2.1, (r395.2.2.2.1.1, r395.2.2.2.1.2.1, r395.2.2.2.1.2.2.1, r395.2.2.2.1.2.2.2.1, r395.2.2.2.1.2.2.2.2.1, (va_up r395.2.2.2.1.2.2.2.2.2.1 l1 (nB (r395.2.2.2.1.2.2.2.2.2.1 l1) l3)), r395.2.2.2.1.2.2.2.2.2.2), r395.2.2.2.2)) er400) rfl rfl hm396 (fun _ => rfl) (fun _ => rfl) (fun _ => rfl) (fun _ => dM_rows_166) (fun _ R => kM_289 R) (fun _ => rfl) ⟨(Nat.le_of_ble_eq_true rfl), (Nat.le_of_ble_eq_true rfl)⟩ rfl rfl rfl (fun _ => rfl) (Nat.le_of_ble_eq_true rfl) ?_
                      refine xy_r (xw_aload_n dM_rows_169 rfl) ?_
                      obtain rfl := Option.some.inj hF
                      exact xy_end (xw_areturn dM_rows_170 rfl (Or.inl ⟨_, rfl⟩) (Nat.le_refl _) (Nat.le_refl _) ⟨rfl, rfl⟩)
                    · subst hF
                      exact xy_Vt (nl := 2) (sm := r395.2.2.2.1.2.2.2.2.2.2.1) (sn := r395.2.2.2.1.2.2.2.2.2.2.2) (tm := r400.2.2.2.1.2.2.2.2.2.2.1) (tn := r400.2.2.2.1.2.2.2.2.2.2.2) (CM_close hb (s := (r395.2.1, r395.2.2.1, (r395.2.2.2.1.1, r395.2.2.2.1.2.1, r395.2.2.2.1.2.2.1, r395.2.2.2.1.2.2.2.1, r395.2.2.2.1.2.2.2.2.1, (va_up r395.2.2.2.1.2.2.2.2.2.1 l1 (nB (r395.2.2.2.1.2.2.2.2.2.1 l1) l3)), r395.2.2.2.1.2.2.2.2.2.2), r395.2.2.2.2)) er400) rfl rfl hm396 (fun _ => rfl) (fun _ => rfl) (fun _ => rfl) (fun _ => dM_rows_166) (fun _ R => kM_289 R) (fun _ => rfl) ⟨(Nat.le_of_ble_eq_true rfl), (Nat.le_of_ble_eq_true rfl)⟩ rfl rfl rfl (fun _ => rfl) (Nat.le_of_ble_eq_true rfl) ⟨rfl, rfl⟩
              · replace hF := xg_t c385 hF
                refine xy_r (xw_aload_n dM_rows_106 rfl) ?_
                refine xy_r (xw_aload_n dM_rows_107 rfl) ?_
                refine xy_r (xw_get dM_rows_108 fM_221 rfl rfl) ?_
                rcases xg_o hF with ⟨r403, er403, hF⟩ | ⟨r403, er403, hF⟩
                · have hm404 : m0 ≤ r403.2.2.2.1.2.2.2.2.2.2.1 ∧ n0 ≤ r403.2.2.2.1.2.2.2.2.2.2.2 := xy_le hm321 (show r320.2.2.2.1.2.2.2.2.2.2.1 ≤ r403.2.2.2.1.2.2.2.2.2.2.1 ∧ r320.2.2.2.1.2.2.2.2.2.2.2 ≤ r403.2.2.2.1.2.2.2.2.2.2.2 from (CM_bad (w := w) (h := h) hb (s := r320.2) er403).1)
                  refine xy_V0 (nl := 2) (sm := r320.2.2.2.1.2.2.2.2.2.2.1) (sn := r320.2.2.2.1.2.2.2.2.2.2.2) (tm := r403.2.2.2.1.2.2.2.2.2.2.1) (tn := r403.2.2.2.1.2.2.2.2.2.2.2) (CM_bad hb (s := r320.2) er403) rfl rfl hm321 (fun _ => rfl) (fun _ => rfl) (fun _ => rfl) (fun _ => dM_rows_111) (fun _ R => kM_239 R) (fun _ => rfl) ⟨(Nat.le_of_ble_eq_true rfl), (Nat.le_of_ble_eq_true rfl)⟩ rfl rfl rfl (fun _ => rfl) (Nat.le_of_ble_eq_true rfl) ?_
                  refine xy_r (xw_aload_n dM_rows_114 rfl) ?_
                  obtain ⟨g406, hF⟩ := xg_g hF
                  refine xy_r (xw_get dM_rows_115 fM_195 (mV_n g406) rfl) ?_
                  refine xy_brn (xw_if_ne 123 dM_rows_118 (by decide)) (fun c407 => ?_) (fun c407 => ?_)
                  · replace hF := xg_f c407 hF
                    refine xy_r (xw_aload_n dM_rows_123 rfl) ?_
                    refine xy_r (xw_dup_r dM_rows_124) ?_
                    refine xy_r (xw_get dM_rows_125 fM_195 (mV_n g406) rfl) ?_
                    refine xy_r (xw_iconst (1) dM_rows_128 (by decide)) ?_
                    refine xy_r (xw_iadd dM_rows_129) ?_
                    refine xy_r (xg_put dM_rows_130 fM_195 (mV_n g406) (xn_le _) (Nat.le_of_ble_eq_true rfl) (fun _ => rfl) (fun _ => rfl) (mV_e (s' := (r403.2.1, r403.2.2.1, (r403.2.2.2.1.1, r403.2.2.2.1.2.1, r403.2.2.2.1.2.2.1, r403.2.2.2.1.2.2.2.1, r403.2.2.2.1.2.2.2.2.1, (va_up r403.2.2.2.1.2.2.2.2.2.1 l1 (nA (r403.2.2.2.1.2.2.2.2.2.1 l1) ((r403.2.2.2.1.2.2.2.2.2.1 l1).1.2.1 + 1))), r403.2.2.2.1.2.2.2.2.2.2), r403.2.2.2.2)) (mV_pn (q := (nA (r403.2.2.2.1.2.2.2.2.2.1 l1) ((r403.2.2.2.1.2.2.2.2.2.1 l1).1.2.1 + 1))) g406) rfl)) ?_
                    refine xy_r (xw_aload_n dM_rows_133 rfl) ?_
                    refine xy_r (xw_bipush (59) dM_rows_134 (by decide)) ?_
                    obtain ⟨r408, er408, hF⟩ := xg_b hF
                    have hm409 : m0 ≤ r408.2.2.2.1.2.2.2.2.2.2.1 ∧ n0 ≤ r408.2.2.2.1.2.2.2.2.2.2.2 := xy_le hm404 (show r403.2.2.2.1.2.2.2.2.2.2.1 ≤ r408.2.2.2.1.2.2.2.2.2.2.1 ∧ r403.2.2.2.1.2.2.2.2.2.2.2 ≤ r408.2.2.2.1.2.2.2.2.2.2.2 from (CM_next (w := w) (h := h) hb (s := (r403.2.1, r403.2.2.1, (r403.2.2.2.1.1, r403.2.2.2.1.2.1, r403.2.2.2.1.2.2.1, r403.2.2.2.1.2.2.2.1, r403.2.2.2.1.2.2.2.2.1, (va_up r403.2.2.2.1.2.2.2.2.2.1 l1 (nA (r403.2.2.2.1.2.2.2.2.2.1 l1) ((r403.2.2.2.1.2.2.2.2.2.1 l1).1.2.1 + 1))), r403.2.2.2.1.2.2.2.2.2.2), r403.2.2.2.2)) er408).1)
                    refine xy_V1 (nl := 2) (sm := r403.2.2.2.1.2.2.2.2.2.2.1) (sn := r403.2.2.2.1.2.2.2.2.2.2.2) (tm := r408.2.2.2.1.2.2.2.2.2.2.1) (tn := r408.2.2.2.1.2.2.2.2.2.2.2) (CM_next hb (s := (r403.2.1, r403.2.2.1, (r403.2.2.2.1.1, r403.2.2.2.1.2.1, r403.2.2.2.1.2.2.1, r403.2.2.2.1.2.2.2.1, r403.2.2.2.1.2.2.2.2.1, (va_up r403.2.2.2.1.2.2.2.2.2.1 l1 (nA (r403.2.2.2.1.2.2.2.2.2.1 l1) ((r403.2.2.2.1.2.2.2.2.2.1 l1).1.2.1 + 1))), r403.2.2.2.1.2.2.2.2.2.2), r403.2.2.2.2)) er408) rfl rfl hm404 (fun _ => rfl) (fun _ => rfl) (fun _ => rfl) (fun _ => dM_rows_136) (fun _ R => kM_236 R) (fun _ => rfl) ⟨(Nat.le_of_ble_eq_true rfl), (Nat.le_of_ble_eq_true rfl)⟩ rfl rfl rfl (fun _ => rfl) (Nat.le_of_ble_eq_true rfl) ?_
                    refine xy_br (xw_if_neB 145 dM_rows_139 (by decide)) (fun c411 => ?_) (fun c411 => ?_)
                    · replace hF := xg_t c411 hF
                      refine xy_r (xw_aload_n dM_rows_145 rfl) ?_
                      refine xy_r (xw_dup_r dM_rows_146) ?_
                      refine xy_r (xw_get dM_rows_147 fM_221 rfl rfl) ?_
                      refine xy_r (xw_iconst (1) dM_rows_150 (by decide)) ?_
                      refine xy_r (xw_iadd dM_rows_151) ?_
                      refine xy_r (xg_put dM_rows_152 fM_221 rfl (by decide) (Nat.le_of_ble_eq_true rfl) (fun _ => rfl) (fun _ => rfl) (mV_o (s' := (r408.2.1, (r408.2.2.1.1, (r408.2.2.1.2.1 + 1), r408.2.2.1.2.2), r408.2.2.2)) rfl)) ?_
                      refine xy_r (xw_goto 13 dM_rows_155 (by decide)) ?_
                      refine xy_r (xw_drop (L' := [some (.ref 2000), some (.ref (xn l1)), some (.int l2), none]) ⟨rfl, ⟨rfl, ⟨rfl, trivial⟩⟩⟩) ?_
                      exact ih.1 (s := (r408.2.1, (r408.2.2.1.1, (r408.2.2.1.2.1 + 1), r408.2.2.1.2.2), r408.2.2.2)) hm409 hF
                    · replace hF := xg_f c411 hF
                      refine xy_r (xw_goto 158 dM_rows_142 (by decide)) ?_
                      refine xy_r (xw_aload_n dM_rows_158 rfl) ?_
                      refine xy_r (xw_iload_n dM_rows_159 rfl) ?_
                      obtain ⟨g412, hF⟩ := xg_g hF
                      refine xy_r (xg_put dM_rows_160 fM_198 (mV_n g412) (xn_le _) (Nat.le_of_ble_eq_true rfl) (fun _ => rfl) (fun _ => rfl) (mV_e (s' := (r408.2.1, r408.2.2.1, (r408.2.2.2.1.1, r408.2.2.2.1.2.1, r408.2.2.2.1.2.2.1, r408.2.2.2.1.2.2.2.1, r408.2.2.2.1.2.2.2.2.1, (va_up r408.2.2.2.1.2.2.2.2.2.1 l1 (nB (r408.2.2.2.1.2.2.2.2.2.1 l1) l2)), r408.2.2.2.1.2.2.2.2.2.2), r408.2.2.2.2)) (mV_pn (q := (nB (r408.2.2.2.1.2.2.2.2.2.1 l1) l2)) g412) rfl)) ?_
                      refine xy_r (xw_aload_n dM_rows_163 rfl) ?_
                      refine xy_r (xw_bipush (125) dM_rows_164 (by decide)) ?_
                      rcases xg_o hF with ⟨r413, er413, hF⟩ | ⟨r413, er413, hF⟩
                      · have hm414 : m0 ≤ r413.2.2.2.1.2.2.2.2.2.2.1 ∧ n0 ≤ r413.2.2.2.1.2.2.2.2.2.2.2 := xy_le hm409 (show r408.2.2.2.1.2.2.2.2.2.2.1 ≤ r413.2.2.2.1.2.2.2.2.2.2.1 ∧ r408.2.2.2.1.2.2.2.2.2.2.2 ≤ r413.2.2.2.1.2.2.2.2.2.2.2 from (CM_close (w := w) (h := h) hb (s := (r408.2.1, r408.2.2.1, (r408.2.2.2.1.1, r408.2.2.2.1.2.1, r408.2.2.2.1.2.2.1, r408.2.2.2.1.2.2.2.1, r408.2.2.2.1.2.2.2.2.1, (va_up r408.2.2.2.1.2.2.2.2.2.1 l1 (nB (r408.2.2.2.1.2.2.2.2.2.1 l1) l2)), r408.2.2.2.1.2.2.2.2.2.2), r408.2.2.2.2)) er413).1)
                        refine xy_V0 (nl := 2) (sm := r408.2.2.2.1.2.2.2.2.2.2.1) (sn := r408.2.2.2.1.2.2.2.2.2.2.2) (tm := r413.2.2.2.1.2.2.2.2.2.2.1) (tn := r413.2.2.2.1.2.2.2.2.2.2.2) (CM_close hb (s := (r408.2.1, r408.2.2.1, (r408.2.2.2.1.1, r408.2.2.2.1.2.1, r408.2.2.2.1.2.2.1, r408.2.2.2.1.2.2.2.1, r408.2.2.2.1.2.2.2.2.1, (va_up r408.2.2.2.1.2.2.2.2.2.1 l1 (nB (r408.2.2.2.1.2.2.2.2.2.1 l1) l2)), r408.2.2.2.1.2.2.2.2.2.2), r408.2.2.2.2)) er413) rfl rfl hm409 (fun _ => rfl) (fun _ => rfl) (fun _ => rfl) (fun _ => dM_rows_166) (fun _ R => kM_289 R) (fun _ => rfl) ⟨(Nat.le_of_ble_eq_true rfl), (Nat.le_of_ble_eq_true rfl)⟩ rfl rfl rfl (fun _ => rfl) (Nat.le_of_ble_eq_true rfl) ?_
                        refine xy_r (xw_aload_n dM_rows_169 rfl) ?_
                        obtain rfl := Option.some.inj hF
                        exact xy_end (xw_areturn dM_rows_170 rfl (Or.inl ⟨_, rfl⟩) (Nat.le_refl _) (Nat.le_refl _) ⟨rfl, rfl⟩)
                      · subst hF
                        exact xy_Vt (nl := 2) (sm := r408.2.2.2.1.2.2.2.2.2.2.1) (sn := r408.2.2.2.1.2.2.2.2.2.2.2) (tm := r413.2.2.2.1.2.2.2.2.2.2.1) (tn := r413.2.2.2.1.2.2.2.2.2.2.2) (CM_close hb (s := (r408.2.1, r408.2.2.1, (r408.2.2.2.1.1, r408.2.2.2.1.2.1, r408.2.2.2.1.2.2.1, r408.2.2.2.1.2.2.2.1, r408.2.2.2.1.2.2.2.2.1, (va_up r408.2.2.2.1.2.2.2.2.2.1 l1 (nB (r408.2.2.2.1.2.2.2.2.2.1 l1) l2)), r408.2.2.2.1.2.2.2.2.2.2), r408.2.2.2.2)) er413) rfl rfl hm409 (fun _ => rfl) (fun _ => rfl) (fun _ => rfl) (fun _ => dM_rows_166) (fun _ R => kM_289 R) (fun _ => rfl) ⟨(Nat.le_of_ble_eq_true rfl), (Nat.le_of_ble_eq_true rfl)⟩ rfl rfl rfl (fun _ => rfl) (Nat.le_of_ble_eq_true rfl) ⟨rfl, rfl⟩
                  · replace hF := xg_t c407 hF
                    refine xy_r (xw_iload_n dM_rows_121 rfl) ?_
                    refine xy_r (xw_istore_n dM_rows_122 (Nat.le_of_ble_eq_true rfl)) ?_
                    refine xy_r (xw_Ln (L' := [some (.ref 2000), some (.ref (xn l1)), some (.int l3), some (.int l3)]) rfl) ?_
                    refine xy_r (xw_aload_n dM_rows_123 rfl) ?_
                    refine xy_r (xw_dup_r dM_rows_124) ?_
                    refine xy_r (xw_get dM_rows_125 fM_195 (mV_n g406) rfl) ?_
                    refine xy_r (xw_iconst (1) dM_rows_128 (by decide)) ?_
                    refine xy_r (xw_iadd dM_rows_129) ?_
                    refine xy_r (xg_put dM_rows_130 fM_195 (mV_n g406) (xn_le _) (Nat.le_of_ble_eq_true rfl) (fun _ => rfl) (fun _ => rfl) (mV_e (s' := (r403.2.1, r403.2.2.1, (r403.2.2.2.1.1, r403.2.2.2.1.2.1, r403.2.2.2.1.2.2.1, r403.2.2.2.1.2.2.2.1, r403.2.2.2.1.2.2.2.2.1, (va_up r403.2.2.2.1.2.2.2.2.2.1 l1 (nA (r403.2.2.2.1.2.2.2.2.2.1 l1) ((r403.2.2.2.1.2.2.2.2.2.1 l1).1.2.1 + 1))), r403.2.2.2.1.2.2.2.2.2.2), r403.2.2.2.2)) (mV_pn (q := (nA (r403.2.2.2.1.2.2.2.2.2.1 l1) ((r403.2.2.2.1.2.2.2.2.2.1 l1).1.2.1 + 1))) g406) rfl)) ?_
                    refine xy_r (xw_aload_n dM_rows_133 rfl) ?_
                    refine xy_r (xw_bipush (59) dM_rows_134 (by decide)) ?_
                    obtain ⟨r416, er416, hF⟩ := xg_b hF
                    have hm417 : m0 ≤ r416.2.2.2.1.2.2.2.2.2.2.1 ∧ n0 ≤ r416.2.2.2.1.2.2.2.2.2.2.2 := xy_le hm404 (show r403.2.2.2.1.2.2.2.2.2.2.1 ≤ r416.2.2.2.1.2.2.2.2.2.2.1 ∧ r403.2.2.2.1.2.2.2.2.2.2.2 ≤ r416.2.2.2.1.2.2.2.2.2.2.2 from (CM_next (w := w) (h := h) hb (s := (r403.2.1, r403.2.2.1, (r403.2.2.2.1.1, r403.2.2.2.1.2.1, r403.2.2.2.1.2.2.1, r403.2.2.2.1.2.2.2.1, r403.2.2.2.1.2.2.2.2.1, (va_up r403.2.2.2.1.2.2.2.2.2.1 l1 (nA (r403.2.2.2.1.2.2.2.2.2.1 l1) ((r403.2.2.2.1.2.2.2.2.2.1 l1).1.2.1 + 1))), r403.2.2.2.1.2.2.2.2.2.2), r403.2.2.2.2)) er416).1)
                    refine xy_V1 (nl := 2) (sm := r403.2.2.2.1.2.2.2.2.2.2.1) (sn := r403.2.2.2.1.2.2.2.2.2.2.2) (tm := r416.2.2.2.1.2.2.2.2.2.2.1) (tn := r416.2.2.2.1.2.2.2.2.2.2.2) (CM_next hb (s := (r403.2.1, r403.2.2.1, (r403.2.2.2.1.1, r403.2.2.2.1.2.1, r403.2.2.2.1.2.2.1, r403.2.2.2.1.2.2.2.1, r403.2.2.2.1.2.2.2.2.1, (va_up r403.2.2.2.1.2.2.2.2.2.1 l1 (nA (r403.2.2.2.1.2.2.2.2.2.1 l1) ((r403.2.2.2.1.2.2.2.2.2.1 l1).1.2.1 + 1))), r403.2.2.2.1.2.2.2.2.2.2), r403.2.2.2.2)) er416) rfl rfl hm404 (fun _ => rfl) (fun _ => rfl) (fun _ => rfl) (fun _ => dM_rows_136) (fun _ R => kM_236 R) (fun _ => rfl) ⟨(Nat.le_of_ble_eq_true rfl), (Nat.le_of_ble_eq_true rfl)⟩ rfl rfl rfl (fun _ => rfl) (Nat.le_of_ble_eq_true rfl) ?_
                    refine xy_br (xw_if_neB 145 dM_rows_139 (by decide)) (fun c419 => ?_) (fun c419 => ?_)
                    · replace hF := xg_t c419 hF
                      refine xy_r (xw_aload_n dM_rows_145 rfl) ?_
                      refine xy_r (xw_dup_r dM_rows_146) ?_
                      refine xy_r (xw_get dM_rows_147 fM_221 rfl rfl) ?_
                      refine xy_r (xw_iconst (1) dM_rows_150 (by decide)) ?_
                      refine xy_r (xw_iadd dM_rows_151) ?_
                      refine xy_r (xg_put dM_rows_152 fM_221 rfl (by decide) (Nat.le_of_ble_eq_true rfl) (fun _ => rfl) (fun _ => rfl) (mV_o (s' := (r416.2.1, (r416.2.2.1.1, (r416.2.2.1.2.1 + 1), r416.2.2.1.2.2), r416.2.2.2)) rfl)) ?_
                      refine xy_r (xw_goto 13 dM_rows_155 (by decide)) ?_
                      refine xy_r (xw_drop (L' := [some (.ref 2000), some (.ref (xn l1)), some (.int l3), none]) ⟨rfl, ⟨rfl, ⟨rfl, trivial⟩⟩⟩) ?_
                      exact ih.1 (s := (r416.2.1, (r416.2.2.1.1, (r416.2.2.1.2.1 + 1), r416.2.2.1.2.2), r416.2.2.2)) hm417 hF
                    · replace hF := xg_f c419 hF
                      refine xy_r (xw_goto 158 dM_rows_142 (by decide)) ?_
                      refine xy_r (xw_aload_n dM_rows_158 rfl) ?_
                      refine xy_r (xw_iload_n dM_rows_159 rfl) ?_
                      obtain ⟨g420, hF⟩ := xg_g hF
                      refine xy_r (xg_put dM_rows_160 fM_198 (mV_n g420) (xn_le _) (Nat.le_of_ble_eq_true rfl) (fun _ => rfl) (fun _ => rfl) (mV_e (s' := (r416.2.1, r416.2.2.1, (r416.2.2.2.1.1, r416.2.2.2.1.2.1, r416.2.2.2.1.2.2.1, r416.2.2.2.1.2.2.2.1, r416.2.2.2.1.2.2.2.2.1, (va_up r416.2.2.2.1.2.2.2.2.2.1 l1 (nB (r416.2.2.2.1.2.2.2.2.2.1 l1) l3)), r416.2.2.2.1.2.2.2.2.2.2), r416.2.2.2.2)) (mV_pn (q := (nB (r416.2.2.2.1.2.2.2.2.2.1 l1) l3)) g420) rfl)) ?_
                      refine xy_r (xw_aload_n dM_rows_163 rfl) ?_
                      refine xy_r (xw_bipush (125) dM_rows_164 (by decide)) ?_
                      rcases xg_o hF with ⟨r421, er421, hF⟩ | ⟨r421, er421, hF⟩
                      · have hm422 : m0 ≤ r421.2.2.2.1.2.2.2.2.2.2.1 ∧ n0 ≤ r421.2.2.2.1.2.2.2.2.2.2.2 := xy_le hm417 (show r416.2.2.2.1.2.2.2.2.2.2.1 ≤ r421.2.2.2.1.2.2.2.2.2.2.1 ∧ r416.2.2.2.1.2.2.2.2.2.2.2 ≤ r421.2.2.2.1.2.2.2.2.2.2.2 from (CM_close (w := w) (h := h) hb (s := (r416.2.1, r416.2.2.1, (r416.2.2.2.1.1, r416.2.2.2.1.2.1, r416.2.2.2.1.2.2.1, r416.2.2.2.1.2.2.2.1, r416.2.2.2.1.2.2.2.2.1, (va_up r416.2.2.2.1.2.2.2.2.2.1 l1 (nB (r416.2.2.2.1.2.2.2.2.2.1 l1) l3)), r416.2.2.2.1.2.2.2.2.2.2), r416.2.2.2.2)) er421).1)
                        refine xy_V0 (nl := 2) (sm := r416.2.2.2.1.2.2.2.2.2.2.1) (sn := r416.2.2.2.1.2.2.2.2.2.2.2) (tm := r421.2.2.2.1.2.2.2.2.2.2.1) (tn := r421.2.2.2.1.2.2.2.2.2.2.2) (CM_close hb (s := (r416.2.1, r416.2.2.1, (r416.2.2.2.1.1, r416.2.2.2.1.2.1, r416.2.2.2.1.2.2.1, r416.2.2.2.1.2.2.2.1, r416.2.2.2.1.2.2.2.2.1, (va_up r416.2.2.2.1.2.2.2.2.2.1 l1 (nB (r416.2.2.2.1.2.2.2.2.2.1 l1) l3)), r416.2.2.2.1.2.2.2.2.2.2), r416.2.2.2.2)) er421) rfl rfl hm417 (fun _ => rfl) (fun _ => rfl) (fun _ => rfl) (fun _ => dM_rows_166) (fun _ R => kM_289 R) (fun _ => rfl) ⟨(Nat.le_of_ble_eq_true rfl), (Nat.le_of_ble_eq_true rfl)⟩ rfl rfl rfl (fun _ => rfl) (Nat.le_of_ble_eq_true rfl) ?_
                        refine xy_r (xw_aload_n dM_rows_169 rfl) ?_
                        obtain rfl := Option.some.inj hF
                        exact xy_end (xw_areturn dM_rows_170 rfl (Or.inl ⟨_, rfl⟩) (Nat.le_refl _) (Nat.le_refl _) ⟨rfl, rfl⟩)
                      · subst hF
                        exact xy_Vt (nl := 2) (sm := r416.2.2.2.1.2.2.2.2.2.2.1) (sn := r416.2.2.2.1.2.2.2.2.2.2.2) (tm := r421.2.2.2.1.2.2.2.2.2.2.1) (tn := r421.2.2.2.1.2.2.2.2.2.2.2) (CM_close hb (s := (r416.2.1, r416.2.2.1, (r416.2.2.2.1.1, r416.2.2.2.1.2.1, r416.2.2.2.1.2.2.1, r416.2.2.2.1.2.2.2.1, r416.2.2.2.1.2.2.2.2.1, (va_up r416.2.2.2.1.2.2.2.2.2.1 l1 (nB (r416.2.2.2.1.2.2.2.2.2.1 l1) l3)), r416.2.2.2.1.2.2.2.2.2.2), r416.2.2.2.2)) er421) rfl rfl hm417 (fun _ => rfl) (fun _ => rfl) (fun _ => rfl) (fun _ => dM_rows_166) (fun _ R => kM_289 R) (fun _ => rfl) ⟨(Nat.le_of_ble_eq_true rfl), (Nat.le_of_ble_eq_true rfl)⟩ rfl rfl rfl (fun _ => rfl) (Nat.le_of_ble_eq_true rfl) ⟨rfl, rfl⟩
                · subst hF
                  exact xy_Vt (nl := 2) (sm := r320.2.2.2.1.2.2.2.2.2.2.1) (sn := r320.2.2.2.1.2.2.2.2.2.2.2) (tm := r403.2.2.2.1.2.2.2.2.2.2.1) (tn := r403.2.2.2.1.2.2.2.2.2.2.2) (CM_bad hb (s := r320.2) er403) rfl rfl hm321 (fun _ => rfl) (fun _ => rfl) (fun _ => rfl) (fun _ => dM_rows_111) (fun _ R => kM_239 R) (fun _ => rfl) ⟨(Nat.le_of_ble_eq_true rfl), (Nat.le_of_ble_eq_true rfl)⟩ rfl rfl rfl (fun _ => rfl) (Nat.le_of_ble_eq_true rfl) ⟨rfl, rfl⟩
      · replace hF := xg_t c323 hF
        refine xy_r (xw_aload_n dM_rows_32 rfl) ?_
        obtain ⟨g424, hF⟩ := xg_g hF
        refine xy_r (xw_get dM_rows_33 fM_195 (mV_n g424) rfl) ?_
        refine xy_br (xw_if_le 52 dM_rows_36 (by decide)) (fun c425 => ?_) (fun c425 => ?_)
        · replace hF := xg_t c425 hF
          refine xy_r (xw_aload_n dM_rows_52 rfl) ?_
          refine xy_r (xw_dup_r dM_rows_53) ?_
          refine xy_r (xw_get dM_rows_54 fM_221 rfl rfl) ?_
          refine xy_r (xw_iconst (1) dM_rows_57 (by decide)) ?_
          refine xy_r (xw_iadd dM_rows_58) ?_
          refine xy_r (xg_put dM_rows_59 fM_221 rfl (by decide) (Nat.le_of_ble_eq_true rfl) (fun _ => rfl) (fun _ => rfl) (mV_o (s' := (r320.2.1, (r320.2.2.1.1, (r320.2.2.1.2.1 + 1), r320.2.2.1.2.2), r320.2.2.2)) rfl)) ?_
          refine xy_r (xw_aload_n dM_rows_62 rfl) ?_
          refine xy_r (xw_aload_n dM_rows_63 rfl) ?_
          rcases xg_o hF with ⟨r426, er426, hF⟩ | ⟨r426, er426, hF⟩
          · have hm427 : m0 ≤ r426.2.2.2.1.2.2.2.2.2.2.1 ∧ n0 ≤ r426.2.2.2.1.2.2.2.2.2.2.2 := xy_le hm321 (show r320.2.2.2.1.2.2.2.2.2.2.1 ≤ r426.2.2.2.1.2.2.2.2.2.2.1 ∧ r320.2.2.2.1.2.2.2.2.2.2.2 ≤ r426.2.2.2.1.2.2.2.2.2.2.2 from (CM_literal (w := w) (h := h) hb (s := (r320.2.1, (r320.2.2.1.1, (r320.2.2.1.2.1 + 1), r320.2.2.1.2.2), r320.2.2.2)) er426).1)
            refine xy_V1 (nl := 3) (sm := r320.2.2.2.1.2.2.2.2.2.2.1) (sn := r320.2.2.2.1.2.2.2.2.2.2.2) (tm := r426.2.2.2.1.2.2.2.2.2.2.1) (tn := r426.2.2.2.1.2.2.2.2.2.2.2) (CM_literal hb (s := (r320.2.1, (r320.2.2.1.1, (r320.2.2.1.2.1 + 1), r320.2.2.1.2.2), r320.2.2.2)) er426) rfl rfl hm321 (fun _ => rfl) (fun _ => rfl) (fun _ => rfl) (fun _ => dM_rows_64) (fun _ R => kM_404 R) (fun _ => rfl) ⟨(Nat.le_of_ble_eq_true rfl), (Nat.le_of_ble_eq_true rfl)⟩ rfl rfl rfl (fun _ => rfl) (Nat.le_of_ble_eq_true rfl) ?_
            obtain ⟨g429, hF⟩ := xg_g hF
            obtain ⟨r430, er430, hF⟩ := xg_b hF
            have hm431 : m0 ≤ r430.2.2.1.2.2.2.2.2.2.1 ∧ n0 ≤ r430.2.2.1.2.2.2.2.2.2.2 := xy_le hm427 (show r426.2.2.2.1.2.2.2.2.2.2.1 ≤ r430.2.2.1.2.2.2.2.2.2.1 ∧ r426.2.2.2.1.2.2.2.2.2.2.2 ≤ r430.2.2.1.2.2.2.2.2.2.2 from (CN_add (w := w) (h := h) hb (s := r426.2) er430).1)
            refine xy_V0 (nl := 2) (sm := r426.2.2.2.1.2.2.2.2.2.2.1) (sn := r426.2.2.2.1.2.2.2.2.2.2.2) (tm := r430.2.2.1.2.2.2.2.2.2.1) (tn := r430.2.2.1.2.2.2.2.2.2.2) (CN_add hb (s := r426.2) er430) rfl rfl hm427 (fun _ => rfl) (fun _ => rfl) (fun _ => rfl) (fun _ => dM_rows_67) (fun _ R => kM_257 R) (fun _ => rfl) ⟨(Nat.le_of_ble_eq_true rfl), (Nat.le_of_ble_eq_true rfl)⟩ rfl rfl (mV_n g429) (fun _ => rfl) (Nat.le_of_ble_eq_true rfl) ?_
            refine xy_r (xw_iinc ((l3 + 1)) dM_rows_70 rfl rfl (Nat.le_of_ble_eq_true rfl)) ?_
            refine xy_r (xw_Ln (L' := [some (.ref 2000), some (.ref (xn l1)), some (.int l2), some (.int (l3 + 1))]) rfl) ?_
            refine xy_r (xw_goto 23 dM_rows_73 (by decide)) ?_
            exact ih.2 (s := r430) hm431 hF
          · subst hF
            exact xy_Vt (nl := 3) (sm := r320.2.2.2.1.2.2.2.2.2.2.1) (sn := r320.2.2.2.1.2.2.2.2.2.2.2) (tm := r426.2.2.2.1.2.2.2.2.2.2.1) (tn := r426.2.2.2.1.2.2.2.2.2.2.2) (CM_literal hb (s := (r320.2.1, (r320.2.2.1.1, (r320.2.2.1.2.1 + 1), r320.2.2.1.2.2), r320.2.2.2)) er426) rfl rfl hm321 (fun _ => rfl) (fun _ => rfl) (fun _ => rfl) (fun _ => dM_rows_64) (fun _ R => kM_404 R) (fun _ => rfl) ⟨(Nat.le_of_ble_eq_true rfl), (Nat.le_of_ble_eq_true rfl)⟩ rfl rfl rfl (fun _ => rfl) (Nat.le_of_ble_eq_true rfl) ⟨rfl, rfl⟩
        · replace hF := xg_f c425 hF
          refine xy_r (xw_iload_n dM_rows_39 rfl) ?_
          refine xy_r (xw_iload_n dM_rows_40 rfl) ?_
          refine xy_brn (xw_icmp_ne 52 dM_rows_41 (by decide)) (fun c433 => ?_) (fun c433 => ?_)
          · replace hF := xg_f c433 hF
            refine xy_r (xw_aload_n dM_rows_52 rfl) ?_
            refine xy_r (xw_dup_r dM_rows_53) ?_
            refine xy_r (xw_get dM_rows_54 fM_221 rfl rfl) ?_
            refine xy_r (xw_iconst (1) dM_rows_57 (by decide)) ?_
            refine xy_r (xw_iadd dM_rows_58) ?_
            refine xy_r (xg_put dM_rows_59 fM_221 rfl (by decide) (Nat.le_of_ble_eq_true rfl) (fun _ => rfl) (fun _ => rfl) (mV_o (s' := (r320.2.1, (r320.2.2.1.1, (r320.2.2.1.2.1 + 1), r320.2.2.1.2.2), r320.2.2.2)) rfl)) ?_
            refine xy_r (xw_aload_n dM_rows_62 rfl) ?_
            refine xy_r (xw_aload_n dM_rows_63 rfl) ?_
            rcases xg_o hF with ⟨r434, er434, hF⟩ | ⟨r434, er434, hF⟩
            · have hm435 : m0 ≤ r434.2.2.2.1.2.2.2.2.2.2.1 ∧ n0 ≤ r434.2.2.2.1.2.2.2.2.2.2.2 := xy_le hm321 (show r320.2.2.2.1.2.2.2.2.2.2.1 ≤ r434.2.2.2.1.2.2.2.2.2.2.1 ∧ r320.2.2.2.1.2.2.2.2.2.2.2 ≤ r434.2.2.2.1.2.2.2.2.2.2.2 from (CM_literal (w := w) (h := h) hb (s := (r320.2.1, (r320.2.2.1.1, (r320.2.2.1.2.1 + 1), r320.2.2.1.2.2), r320.2.2.2)) er434).1)
              refine xy_V1 (nl := 3) (sm := r320.2.2.2.1.2.2.2.2.2.2.1) (sn := r320.2.2.2.1.2.2.2.2.2.2.2) (tm := r434.2.2.2.1.2.2.2.2.2.2.1) (tn := r434.2.2.2.1.2.2.2.2.2.2.2) (CM_literal hb (s := (r320.2.1, (r320.2.2.1.1, (r320.2.2.1.2.1 + 1), r320.2.2.1.2.2), r320.2.2.2)) er434) rfl rfl hm321 (fun _ => rfl) (fun _ => rfl) (fun _ => rfl) (fun _ => dM_rows_64) (fun _ R => kM_404 R) (fun _ => rfl) ⟨(Nat.le_of_ble_eq_true rfl), (Nat.le_of_ble_eq_true rfl)⟩ rfl rfl rfl (fun _ => rfl) (Nat.le_of_ble_eq_true rfl) ?_
              obtain ⟨g437, hF⟩ := xg_g hF
              obtain ⟨r438, er438, hF⟩ := xg_b hF
              have hm439 : m0 ≤ r438.2.2.1.2.2.2.2.2.2.1 ∧ n0 ≤ r438.2.2.1.2.2.2.2.2.2.2 := xy_le hm435 (show r434.2.2.2.1.2.2.2.2.2.2.1 ≤ r438.2.2.1.2.2.2.2.2.2.1 ∧ r434.2.2.2.1.2.2.2.2.2.2.2 ≤ r438.2.2.1.2.2.2.2.2.2.2 from (CN_add (w := w) (h := h) hb (s := r434.2) er438).1)
              refine xy_V0 (nl := 2) (sm := r434.2.2.2.1.2.2.2.2.2.2.1) (sn := r434.2.2.2.1.2.2.2.2.2.2.2) (tm := r438.2.2.1.2.2.2.2.2.2.1) (tn := r438.2.2.1.2.2.2.2.2.2.2) (CN_add hb (s := r434.2) er438) rfl rfl hm435 (fun _ => rfl) (fun _ => rfl) (fun _ => rfl) (fun _ => dM_rows_67) (fun _ R => kM_257 R) (fun _ => rfl) ⟨(Nat.le_of_ble_eq_true rfl), (Nat.le_of_ble_eq_true rfl)⟩ rfl rfl (mV_n g437) (fun _ => rfl) (Nat.le_of_ble_eq_true rfl) ?_
              refine xy_r (xw_iinc ((l3 + 1)) dM_rows_70 rfl rfl (Nat.le_of_ble_eq_true rfl)) ?_
              refine xy_r (xw_Ln (L' := [some (.ref 2000), some (.ref (xn l1)), some (.int l2), some (.int (l3 + 1))]) rfl) ?_
              refine xy_r (xw_goto 23 dM_rows_73 (by decide)) ?_
              exact ih.2 (s := r438) hm439 hF
            · subst hF
              exact xy_Vt (nl := 3) (sm := r320.2.2.2.1.2.2.2.2.2.2.1) (sn := r320.2.2.2.1.2.2.2.2.2.2.2) (tm := r434.2.2.2.1.2.2.2.2.2.2.1) (tn := r434.2.2.2.1.2.2.2.2.2.2.2) (CM_literal hb (s := (r320.2.1, (r320.2.2.1.1, (r320.2.2.1.2.1 + 1), r320.2.2.1.2.2), r320.2.2.2)) er434) rfl rfl hm321 (fun _ => rfl) (fun _ => rfl) (fun _ => rfl) (fun _ => dM_rows_64) (fun _ R => kM_404 R) (fun _ => rfl) ⟨(Nat.le_of_ble_eq_true rfl), (Nat.le_of_ble_eq_true rfl)⟩ rfl rfl rfl (fun _ => rfl) (Nat.le_of_ble_eq_true rfl) ⟨rfl, rfl⟩
          · replace hF := xg_t c433 hF
            refine xy_r (xw_aload_n dM_rows_44 rfl) ?_
            refine xy_r (xw_aload_n dM_rows_45 rfl) ?_
            refine xy_r (xw_get dM_rows_46 fM_221 rfl rfl) ?_
            rcases xg_o hF with ⟨r441, er441, hF⟩ | ⟨r441, er441, hF⟩
            · have hm442 : m0 ≤ r441.2.2.2.1.2.2.2.2.2.2.1 ∧ n0 ≤ r441.2.2.2.1.2.2.2.2.2.2.2 := xy_le hm321 (show r320.2.2.2.1.2.2.2.2.2.2.1 ≤ r441.2.2.2.1.2.2.2.2.2.2.1 ∧ r320.2.2.2.1.2.2.2.2.2.2.2 ≤ r441.2.2.2.1.2.2.2.2.2.2.2 from (CM_bad (w := w) (h := h) hb (s := r320.2) er441).1)
              refine xy_V0 (nl := 2) (sm := r320.2.2.2.1.2.2.2.2.2.2.1) (sn := r320.2.2.2.1.2.2.2.2.2.2.2) (tm := r441.2.2.2.1.2.2.2.2.2.2.1) (tn := r441.2.2.2.1.2.2.2.2.2.2.2) (CM_bad hb (s := r320.2) er441) rfl rfl hm321 (fun _ => rfl) (fun _ => rfl) (fun _ => rfl) (fun _ => dM_rows_49) (fun _ R => kM_239 R) (fun _ => rfl) ⟨(Nat.le_of_ble_eq_true rfl), (Nat.le_of_ble_eq_true rfl)⟩ rfl rfl rfl (fun _ => rfl) (Nat.le_of_ble_eq_true rfl) ?_
              refine xy_r (xw_aload_n dM_rows_52 rfl) ?_
              refine xy_r (xw_dup_r dM_rows_53) ?_
              refine xy_r (xw_get dM_rows_54 fM_221 rfl rfl) ?_
              refine xy_r (xw_iconst (1) dM_rows_57 (by decide)) ?_
              refine xy_r (xw_iadd dM_rows_58) ?_
              refine xy_r (xg_put dM_rows_59 fM_221 rfl (by decide) (Nat.le_of_ble_eq_true rfl) (fun _ => rfl) (fun _ => rfl) (mV_o (s' := (r441.2.1, (r441.2.2.1.1, (r441.2.2.1.2.1 + 1), r441.2.2.1.2.2), r441.2.2.2)) rfl)) ?_
              refine xy_r (xw_aload_n dM_rows_62 rfl) ?_
              refine xy_r (xw_aload_n dM_rows_63 rfl) ?_
              rcases xg_o hF with ⟨r444, er444, hF⟩ | ⟨r444, er444, hF⟩
              · have hm445 : m0 ≤ r444.2.2.2.1.2.2.2.2.2.2.1 ∧ n0 ≤ r444.2.2.2.1.2.2.2.2.2.2.2 := xy_le hm442 (show r441.2.2.2.1.2.2.2.2.2.2.1 ≤ r444.2.2.2.1.2.2.2.2.2.2.1 ∧ r441.2.2.2.1.2.2.2.2.2.2.2 ≤ r444.2.2.2.1.2.2.2.2.2.2.2 from (CM_literal (w := w) (h := h) hb (s := (r441.2.1, (r441.2.2.1.1, (r441.2.2.1.2.1 + 1), r441.2.2.1.2.2), r441.2.2.2)) er444).1)
                refine xy_V1 (nl := 3) (sm := r441.2.2.2.1.2.2.2.2.2.2.1) (sn := r441.2.2.2.1.2.2.2.2.2.2.2) (tm := r444.2.2.2.1.2.2.2.2.2.2.1) (tn := r444.2.2.2.1.2.2.2.2.2.2.2) (CM_literal hb (s := (r441.2.1, (r441.2.2.1.1, (r441.2.2.1.2.1 + 1), r441.2.2.1.2.2), r441.2.2.2)) er444) rfl rfl hm442 (fun _ => rfl) (fun _ => rfl) (fun _ => rfl) (fun _ => dM_rows_64) (fun _ R => kM_404 R) (fun _ => rfl) ⟨(Nat.le_of_ble_eq_true rfl), (Nat.le_of_ble_eq_true rfl)⟩ rfl rfl rfl (fun _ => rfl) (Nat.le_of_ble_eq_true rfl) ?_
                obtain ⟨g447, hF⟩ := xg_g hF
                obtain ⟨r448, er448, hF⟩ := xg_b hF
                have hm449 : m0 ≤ r448.2.2.1.2.2.2.2.2.2.1 ∧ n0 ≤ r448.2.2.1.2.2.2.2.2.2.2 := xy_le hm445 (show r444.2.2.2.1.2.2.2.2.2.2.1 ≤ r448.2.2.1.2.2.2.2.2.2.1 ∧ r444.2.2.2.1.2.2.2.2.2.2.2 ≤ r448.2.2.1.2.2.2.2.2.2.2 from (CN_add (w := w) (h := h) hb (s := r444.2) er448).1)
                refine xy_V0 (nl := 2) (sm := r444.2.2.2.1.2.2.2.2.2.2.1) (sn := r444.2.2.2.1.2.2.2.2.2.2.2) (tm := r448.2.2.1.2.2.2.2.2.2.1) (tn := r448.2.2.1.2.2.2.2.2.2.2) (CN_add hb (s := r444.2) er448) rfl rfl hm445 (fun _ => rfl) (fun _ => rfl) (fun _ => rfl) (fun _ => dM_rows_67) (fun _ R => kM_257 R) (fun _ => rfl) ⟨(Nat.le_of_ble_eq_true rfl), (Nat.le_of_ble_eq_true rfl)⟩ rfl rfl (mV_n g447) (fun _ => rfl) (Nat.le_of_ble_eq_true rfl) ?_
                refine xy_r (xw_iinc ((l3 + 1)) dM_rows_70 rfl rfl (Nat.le_of_ble_eq_true rfl)) ?_
                refine xy_r (xw_Ln (L' := [some (.ref 2000), some (.ref (xn l1)), some (.int l2), some (.int (l3 + 1))]) rfl) ?_
                refine xy_r (xw_goto 23 dM_rows_73 (by decide)) ?_
                exact ih.2 (s := r448) hm449 hF
              · subst hF
                exact xy_Vt (nl := 3) (sm := r441.2.2.2.1.2.2.2.2.2.2.1) (sn := r441.2.2.2.1.2.2.2.2.2.2.2) (tm := r444.2.2.2.1.2.2.2.2.2.2.1) (tn := r444.2.2.2.1.2.2.2.2.2.2.2) (CM_literal hb (s := (r441.2.1, (r441.2.2.1.1, (r441.2.2.1.2.1 + 1), r441.2.2.1.2.2), r441.2.2.2)) er444) rfl rfl hm442 (fun _ => rfl) (fun _ => rfl) (fun _ => rfl) (fun _ => dM_rows_64) (fun _ R => kM_404 R) (fun _ => rfl) ⟨(Nat.le_of_ble_eq_true rfl), (Nat.le_of_ble_eq_true rfl)⟩ rfl rfl rfl (fun _ => rfl) (Nat.le_of_ble_eq_true rfl) ⟨rfl, rfl⟩
            · subst hF
              exact xy_Vt (nl := 2) (sm := r320.2.2.2.1.2.2.2.2.2.2.1) (sn := r320.2.2.2.1.2.2.2.2.2.2.2) (tm := r441.2.2.2.1.2.2.2.2.2.2.1) (tn := r441.2.2.2.1.2.2.2.2.2.2.2) (CM_bad hb (s := r320.2) er441) rfl rfl hm321 (fun _ => rfl) (fun _ => rfl) (fun _ => rfl) (fun _ => dM_rows_49) (fun _ R => kM_239 R) (fun _ => rfl) ⟨(Nat.le_of_ble_eq_true rfl), (Nat.le_of_ble_eq_true rfl)⟩ rfl rfl rfl (fun _ => rfl) (Nat.le_of_ble_eq_true rfl) ⟨rfl, rfl⟩
theorem CM_rows_13 {w : xw_G} {h : xw_H} (hb : xMb h) (fu : Nat)  {l1 : Nat} {l2 : Int32} {s : xMs} {out : (xo Nat xMs)} {h0 : xw_H} {m0 n0 : Nat} (hm : m0 ≤ s.2.2.1.2.2.2.2.2.2.1 ∧ n0 ≤ s.2.2.1.2.2.2.2.2.2.2) (hF : FM_rows_13 fu l1 l2 s = some out) : xw_Y w mM_rows 10 193 (xo_P (fun x => some (.ref (xn x))) (fun s => mV s h) out) h0 m0 n0 s.2.2.1.2.2.2.2.2.2.1 s.2.2.1.2.2.2.2.2.2.2 (xo_s out).2.2.1.2.2.2.2.2.2.1 (xo_s out).2.2.1.2.2.2.2.2.2.2 13 [some (.ref 2000), some (.ref (xn l1)), some (.int l2), none] [] (mV s h) := (CM_rows_L hb fu).1 hm hF
theorem CM_rows_23 {w : xw_G} {h : xw_H} (hb : xMb h) (fu : Nat)  {l1 : Nat} {l2 : Int32} {l3 : Int32} {s : xMs} {out : (xo Nat xMs)} {h0 : xw_H} {m0 n0 : Nat} (hm : m0 ≤ s.2.2.1.2.2.2.2.2.2.1 ∧ n0 ≤ s.2.2.1.2.2.2.2.2.2.2) (hF : FM_rows_23 fu l1 l2 l3 s = some out) : xw_Y w mM_rows 10 193 (xo_P (fun x => some (.ref (xn x))) (fun s => mV s h) out) h0 m0 n0 s.2.2.1.2.2.2.2.2.2.1 s.2.2.1.2.2.2.2.2.2.2 (xo_s out).2.2.1.2.2.2.2.2.2.1 (xo_s out).2.2.1.2.2.2.2.2.2.2 23 [some (.ref 2000), some (.ref (xn l1)), some (.int l2), some (.int l3)] [] (mV s h) := (CM_rows_L hb fu).2 hm hF
set_option maxRecDepth 20000 in
theorem CM_rows {w : xw_G} {h : xw_H} (hb : xMb h)  {s : xMs} {out : (xo Nat xMs)} (hF : FM_rows  s = some out) : (s.2.2.1.2.2.2.2.2.2.1 ≤ (xo_s out).2.2.1.2.2.2.2.2.2.1 ∧ s.2.2.1.2.2.2.2.2.2.2 ≤ (xo_s out).2.2.1.2.2.2.2.2.2.2) ∧ xw_C w (mM_rows { frames := 10, cells := (xo_s out).2.2.1.2.2.2.2.2.2.1 - s.2.2.1.2.2.2.2.2.2.1, slots := (xo_s out).2.2.1.2.2.2.2.2.2.2 - s.2.2.1.2.2.2.2.2.2.2, locals := 193 }) (xo_P (fun x => some (.ref (xn x))) (fun s => mV s h) out) [.ref 2000] (mV s h) := by
  unfold FM_rows at hF
  refine xy_enter (L := [some (.ref 2000), none, none, none]) (fun _ => rfl) (fun _ => rfl) (fun _ => (show plainName "FormulaShaperModel" = true by decide +kernel)) (fun _ => (Nat.le_of_ble_eq_true rfl)) (fun _ => rfl) ?_
  have hm : s.2.2.1.2.2.2.2.2.2.1 ≤ s.2.2.1.2.2.2.2.2.2.1 ∧ s.2.2.1.2.2.2.2.2.2.2 ≤ s.2.2.1.2.2.2.2.2.2.2 := ⟨Nat.le_refl _, Nat.le_refl _⟩
  refine xy_r (xw_aload_n dM_rows_0 rfl) ?_
  refine xy_r (xw_bipush (8) dM_rows_1 (by decide)) ?_
  obtain ⟨r307, er307, hF⟩ := xg_b hF
  have hm308 : s.2.2.1.2.2.2.2.2.2.1 ≤ r307.2.2.2.1.2.2.2.2.2.2.1 ∧ s.2.2.1.2.2.2.2.2.2.2 ≤ r307.2.2.2.1.2.2.2.2.2.2.2 := xy_le hm (show s.2.2.1.2.2.2.2.2.2.1 ≤ r307.2.2.2.1.2.2.2.2.2.2.1 ∧ s.2.2.1.2.2.2.2.2.2.2 ≤ r307.2.2.2.1.2.2.2.2.2.2.2 from (CM_node (w := w) (h := h) hb (s := s) er307).1)
  refine xy_V1 (nl := 4) (sm := s.2.2.1.2.2.2.2.2.2.1) (sn := s.2.2.1.2.2.2.2.2.2.2) (tm := r307.2.2.2.1.2.2.2.2.2.2.1) (tn := r307.2.2.2.1.2.2.2.2.2.2.2) (CM_node hb (s := s) er307) rfl rfl hm (fun _ => rfl) (fun _ => rfl) (fun _ => rfl) (fun _ => dM_rows_3) (fun _ R => kM_253 R) (fun _ => rfl) ⟨(Nat.le_of_ble_eq_true rfl), (Nat.le_of_ble_eq_true rfl)⟩ rfl rfl rfl (fun _ => rfl) (Nat.le_of_ble_eq_true rfl) ?_
  refine xy_r (xw_astore_n dM_rows_6 (Nat.le_of_ble_eq_true rfl)) ?_
  refine xy_r (xw_Ln (L' := [some (.ref 2000), some (.ref (xn r307.1)), none, none]) rfl) ?_
  refine xy_r (xw_aload_n dM_rows_7 rfl) ?_
  rcases xg_o hF with ⟨r310, er310, hF⟩ | ⟨r310, er310, hF⟩
  · have hm311 : s.2.2.1.2.2.2.2.2.2.1 ≤ r310.2.2.2.1.2.2.2.2.2.2.1 ∧ s.2.2.1.2.2.2.2.2.2.2 ≤ r310.2.2.2.1.2.2.2.2.2.2.2 := xy_le hm308 (show r307.2.2.2.1.2.2.2.2.2.2.1 ≤ r310.2.2.2.1.2.2.2.2.2.2.1 ∧ r307.2.2.2.1.2.2.2.2.2.2.2 ≤ r310.2.2.2.1.2.2.2.2.2.2.2 from (CM_open (w := w) (h := h) hb (s := r307.2) er310).1)
    refine xy_V0 (nl := 1) (sm := r307.2.2.2.1.2.2.2.2.2.2.1) (sn := r307.2.2.2.1.2.2.2.2.2.2.2) (tm := r310.2.2.2.1.2.2.2.2.2.2.1) (tn := r310.2.2.2.1.2.2.2.2.2.2.2) (CM_open hb (s := r307.2) er310) rfl rfl hm308 (fun _ => rfl) (fun _ => rfl) (fun _ => rfl) (fun _ => dM_rows_8) (fun _ R => kM_286 R) (fun _ => rfl) ⟨(Nat.le_of_ble_eq_true rfl), (Nat.le_of_ble_eq_true rfl)⟩ rfl rfl rfl (fun _ => rfl) (Nat.le_of_ble_eq_true rfl) ?_
    refine xy_r (xw_iconst (0) dM_rows_11 (by decide)) ?_
    refine xy_r (xw_istore_n dM_rows_12 (Nat.le_of_ble_eq_true rfl)) ?_
    refine xy_r (xw_Ln (L' := [some (.ref 2000), some (.ref (xn r307.1)), some (.int 0), none]) rfl) ?_
    exact CM_rows_13 hb xFuel (s := r310.2) hm311 hF
  · subst hF
    exact xy_Vt (nl := 1) (sm := r307.2.2.2.1.2.2.2.2.2.2.1) (sn := r307.2.2.2.1.2.2.2.2.2.2.2) (tm := r310.2.2.2.1.2.2.2.2.2.2.1) (tn := r310.2.2.2.1.2.2.2.2.2.2.2) (CM_open hb (s := r307.2) er310) rfl rfl hm308 (fun _ => rfl) (fun _ => rfl) (fun _ => rfl) (fun _ => dM_rows_8) (fun _ R => kM_286 R) (fun _ => rfl) ⟨(Nat.le_of_ble_eq_true rfl), (Nat.le_of_ble_eq_true rfl)⟩ rfl rfl rfl (fun _ => rfl) (Nat.le_of_ble_eq_true rfl) ⟨rfl, rfl⟩
