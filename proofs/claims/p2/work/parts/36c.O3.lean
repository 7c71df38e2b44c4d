def FM_cell_Z_150 (l1 : Int32) (l2 : Int32) (s : xMs) : Option (Bool × xMs) := if 80 < l2 then (some (false, s)) else ((FM_look l1 s).bind fun r81 => (FM_wordSign r81 s).bind fun r82 => if r82 = true then (some (false, s)) else ((FM_look l1 s).bind fun r84 => if r84 < 97 then (some (true, (s.1, (s.2.1.1, s.2.1.2.1, s.2.1.2.2.1, s.2.1.2.2.2.1, (s.2.1.2.1 + l1), s.2.1.2.2.2.2.2.1, s.2.1.2.2.2.2.2.2.1, (l2 - 1), s.2.1.2.2.2.2.2.2.2.2), s.2.2))) else ((FM_look l1 s).bind fun r86 => if 122 < r86 then (some (true, (s.1, (s.2.1.1, s.2.1.2.1, s.2.1.2.2.1, s.2.1.2.2.2.1, (s.2.1.2.1 + l1), s.2.1.2.2.2.2.2.1, s.2.1.2.2.2.2.2.2.1, (l2 - 1), s.2.1.2.2.2.2.2.2.2.2), s.2.2))) else (some (false, s)))))
def FM_cell_Z_113 : Nat → Int32 → Int32 → xMs → Option (Bool × xMs)
  | 0, _, _, _ => none
  | fu + 1, l1, l2, s => (FM_look l1 s).bind fun r78 => if (sM_digit r78) = 0 then (FM_cell_Z_150 l1 l2 s) else (if 80 < l2 then (FM_cell_Z_150 l1 l2 s) else ((FM_look l1 s).bind fun r89 => FM_cell_Z_113 fu (l1 + 1) (((10 * l2) + r89) - 48) s))
def FM_cell_Z_31 (l1 : Int32) (s : xMs) : Option (Bool × xMs) := (FM_look l1 s).bind fun r68 => if (sM_letter r68) = 0 then (some (false, s)) else ((FM_look l1 s).bind fun r70 => (FM_look (l1 + 1) (s.1, (s.2.1.1, s.2.1.2.1, s.2.1.2.2.1, s.2.1.2.2.2.1, s.2.1.2.2.2.2.1, s.2.1.2.2.2.2.2.1, s.2.1.2.2.2.2.2.2.1, s.2.1.2.2.2.2.2.2.2.1, (r70 - 65)), s.2.2)).bind fun r71 => if r71 = 36 then ((FM_look ((l1 + 1) + 1) (s.1, (s.2.1.1, s.2.1.2.1, s.2.1.2.2.1, s.2.1.2.2.2.1, s.2.1.2.2.2.2.1, true, s.2.1.2.2.2.2.2.2.1, s.2.1.2.2.2.2.2.2.2.1, (r70 - 65)), s.2.2)).bind fun r91 => if (sM_digit r91) = 0 then (some (false, (s.1, (s.2.1.1, s.2.1.2.1, s.2.1.2.2.1, s.2.1.2.2.2.1, s.2.1.2.2.2.2.1, true, s.2.1.2.2.2.2.2.2.1, s.2.1.2.2.2.2.2.2.2.1, (r70 - 65)), s.2.2))) else ((FM_look ((l1 + 1) + 1) (s.1, (s.2.1.1, s.2.1.2.1, s.2.1.2.2.1, s.2.1.2.2.2.1, s.2.1.2.2.2.2.1, true, s.2.1.2.2.2.2.2.2.1, s.2.1.2.2.2.2.2.2.2.1, (r70 - 65)), s.2.2)).bind fun r93 => if r93 = 48 then (some (false, (s.1, (s.2.1.1, s.2.1.2.1, s.2.1.2.2.1, s.2.1.2.2.2.1, s.2.1.2.2.2.2.1, true, s.2.1.2.2.2.2.2.2.1, s.2.1.2.2.2.2.2.2.2.1, (r70 - 65)), s.2.2))) else (FM_cell_Z_113 xFuel ((l1 + 1) + 1) 0 (s.1, (s.2.1.1, s.2.1.2.1, s.2.1.2.2.1, s.2.1.2.2.2.1, s.2.1.2.2.2.2.1, true, s.2.1.2.2.2.2.2.2.1, s.2.1.2.2.2.2.2.2.2.1, (r70 - 65)), s.2.2)))) else ((FM_look (l1 + 1) (s.1, (s.2.1.1, s.2.1.2.1, s.2.1.2.2.1, s.2.1.2.2.2.1, s.2.1.2.2.2.2.1, false, s.2.1.2.2.2.2.2.2.1, s.2.1.2.2.2.2.2.2.2.1, (r70 - 65)), s.2.2)).bind fun r74 => if (sM_digit r74) = 0 then (some (false, (s.1, (s.2.1.1, s.2.1.2.1, s.2.1.2.2.1, s.2.1.2.2.2.1, s.2.1.2.2.2.2.1, false, s.2.1.2.2.2.2.2.2.1, s.2.1.2.2.2.2.2.2.2.1, (r70 - 65)), s.2.2))) else ((FM_look (l1 + 1) (s.1, (s.2.1.1, s.2.1.2.1, s.2.1.2.2.1, s.2.1.2.2.2.1, s.2.1.2.2.2.2.1, false, s.2.1.2.2.2.2.2.2.1, s.2.1.2.2.2.2.2.2.2.1, (r70 - 65)), s.2.2)).bind fun r76 => if r76 = 48 then (some (false, (s.1, (s.2.1.1, s.2.1.2.1, s.2.1.2.2.1, s.2.1.2.2.2.1, s.2.1.2.2.2.2.1, false, s.2.1.2.2.2.2.2.2.1, s.2.1.2.2.2.2.2.2.2.1, (r70 - 65)), s.2.2))) else (FM_cell_Z_113 xFuel (l1 + 1) 0 (s.1, (s.2.1.1, s.2.1.2.1, s.2.1.2.2.1, s.2.1.2.2.2.1, s.2.1.2.2.2.2.1, false, s.2.1.2.2.2.2.2.2.1, s.2.1.2.2.2.2.2.2.2.1, (r70 - 65)), s.2.2)))))
def FM_cell_Z_18 (l1 : Int32) (t1 : Bool) (s : xMs) : Option (Bool × xMs) := if t1 = true then (FM_cell_Z_31 (l1 + 1) (s.1, (s.2.1.1, s.2.1.2.1, s.2.1.2.2.1, s.2.1.2.2.2.1, s.2.1.2.2.2.2.1, s.2.1.2.2.2.2.2.1, t1, s.2.1.2.2.2.2.2.2.2), s.2.2)) else (FM_cell_Z_31 l1 (s.1, (s.2.1.1, s.2.1.2.1, s.2.1.2.2.1, s.2.1.2.2.2.1, s.2.1.2.2.2.2.1, s.2.1.2.2.2.2.2.1, t1, s.2.1.2.2.2.2.2.2.2), s.2.2))
/-- FormulaShaperModel.cell -/
def FM_cell_Z  (s : xMs) : Option (Bool × xMs) := (FM_look 0 s).bind fun r65 => if r65 = 36 then (FM_cell_Z_18 0 true s) else (FM_cell_Z_18 0 false s)
set_option maxRecDepth 20000 in
theorem CM_cell_Z_150 {w : xw_G} {h : xw_H} (hb : xMb h)  {l1 : Int32} {l2 : Int32} {s : xMs} {out : (Bool × xMs)} {h0 : xw_H} {m0 n0 : Nat} (hm : m0 ≤ s.2.2.1.2.2.2.2.2.2.1 ∧ n0 ≤ s.2.2.1.2.2.2.2.2.2.2) (hF : FM_cell_Z_150 l1 l2 s = some out) : xw_Y w mM_cell_Z 2 41 (xw_R (some (.int (xb out.1))) (mV out.2 h)) h0 m0 n0 s.2.2.1.2.2.2.2.2.2.1 s.2.2.1.2.2.2.2.2.2.2 out.2.2.2.1.2.2.2.2.2.2.1 out.2.2.2.1.2.2.2.2.2.2.2 150 [some (.ref 2000), some (.int l1), some (.int l2)] [] (mV s h) := by
  unfold FM_cell_Z_150 at hF
  refine xy_r (xw_iload_n dM_cell_Z_150 rfl) ?_
  refine xy_r (xw_bipush (80) dM_cell_Z_151 (by decide)) ?_
  refine xy_br (xw_icmp_gt 188 dM_cell_Z_153 (by decide)) (fun c80 => ?_) (fun c80 => ?_)
  · replace hF := xg_t c80 hF
    refine xy_r (xw_iconst (0) dM_cell_Z_188 (by decide)) ?_
    obtain rfl := Option.some.inj hF
    exact xy_end (xw_ireturn dM_cell_Z_189 rfl (xb_nar false) (Nat.le_refl _) (Nat.le_refl _) ⟨rfl, rfl⟩)
  · replace hF := xg_f c80 hF
    refine xy_r (xw_aload_n dM_cell_Z_156 rfl) ?_
    refine xy_r (xw_aload_n dM_cell_Z_157 rfl) ?_
    refine xy_r (xw_iload_n dM_cell_Z_158 rfl) ?_
    obtain ⟨r81, er81, hF⟩ := xg_b hF
    refine xy_q (fun hq => xg_V1 (k1 := _) (n1 := _) (CM_look er81) rfl rfl rfl dM_cell_Z_159 (kM_264 _) ⟨Nat.le_of_ble_eq_true rfl, Nat.le_of_ble_eq_true rfl⟩ rfl rfl rfl rfl (Nat.le_of_ble_eq_true rfl) (Nat.le_refl _) (Nat.le_refl _) (Nat.sub_le_sub_right hq.1 _) (Nat.sub_le_sub_right hq.2 _)) ?_
    obtain ⟨r82, er82, hF⟩ := xg_b hF
    refine xy_q (fun hq => xg_V1 (k1 := _) (n1 := _) (CM_wordSign er82) rfl rfl rfl dM_cell_Z_162 (kM_308 _) ⟨Nat.le_of_ble_eq_true rfl, Nat.le_of_ble_eq_true rfl⟩ rfl rfl rfl rfl (Nat.le_of_ble_eq_true rfl) (Nat.le_refl _) (Nat.le_refl _) (Nat.sub_le_sub_right hq.1 _) (Nat.sub_le_sub_right hq.2 _)) ?_
    refine xy_br (xw_if_neB 188 dM_cell_Z_165 (by decide)) (fun c83 => ?_) (fun c83 => ?_)
    · replace hF := xg_t c83 hF
      refine xy_r (xw_iconst (0) dM_cell_Z_188 (by decide)) ?_
      obtain rfl := Option.some.inj hF
      exact xy_end (xw_ireturn dM_cell_Z_189 rfl (xb_nar false) (Nat.le_refl _) (Nat.le_refl _) ⟨rfl, rfl⟩)
    · replace hF := xg_f c83 hF
      refine xy_r (xw_aload_n dM_cell_Z_168 rfl) ?_
      refine xy_r (xw_iload_n dM_cell_Z_169 rfl) ?_
      obtain ⟨r84, er84, hF⟩ := xg_b hF
      refine xy_q (fun hq => xg_V1 (k1 := _) (n1 := _) (CM_look er84) rfl rfl rfl dM_cell_Z_170 (kM_264 _) ⟨Nat.le_of_ble_eq_true rfl, Nat.le_of_ble_eq_true rfl⟩ rfl rfl rfl rfl (Nat.le_of_ble_eq_true rfl) (Nat.le_refl _) (Nat.le_refl _) (Nat.sub_le_sub_right hq.1 _) (Nat.sub_le_sub_right hq.2 _)) ?_
      refine xy_r (xw_bipush (97) dM_cell_Z_173 (by decide)) ?_
      refine xy_br (xw_icmp_lt 190 dM_cell_Z_175 (by decide)) (fun c85 => ?_) (fun c85 => ?_)
      · replace hF := xg_t c85 hF
        refine xy_r (xw_aload_n dM_cell_Z_190 rfl) ?_
        refine xy_r (xw_iload_n dM_cell_Z_191 rfl) ?_
        refine xy_r (xw_iconst (1) dM_cell_Z_192 (by decide)) ?_
        refine xy_r (xw_isub dM_cell_Z_193) ?_
        refine xy_r (xg_put dM_cell_Z_194 fM_311 rfl (by decide) (Nat.le_of_ble_eq_true rfl) (fun _ => rfl) (fun _ => rfl) (mV_o (s' := (s.1, (s.2.1.1, s.2.1.2.1, s.2.1.2.2.1, s.2.1.2.2.2.1, s.2.1.2.2.2.2.1, s.2.1.2.2.2.2.2.1, s.2.1.2.2.2.2.2.2.1, (l2 - 1), s.2.1.2.2.2.2.2.2.2.2), s.2.2)) rfl)) ?_
        refine xy_r (xw_aload_n dM_cell_Z_197 rfl) ?_
        refine xy_r (xw_aload_n dM_cell_Z_198 rfl) ?_
        refine xy_r (xw_get dM_cell_Z_199 fM_221 rfl rfl) ?_
        refine xy_r (xw_iload_n dM_cell_Z_202 rfl) ?_
        refine xy_r (xw_iadd dM_cell_Z_203) ?_
        refine xy_r (xg_put dM_cell_Z_204 fM_314 rfl (by decide) (Nat.le_of_ble_eq_true rfl) (fun _ => rfl) (fun _ => rfl) (mV_o (s' := (s.1, (s.2.1.1, s.2.1.2.1, s.2.1.2.2.1, s.2.1.2.2.2.1, (s.2.1.2.1 + l1), s.2.1.2.2.2.2.2.1, s.2.1.2.2.2.2.2.2.1, (l2 - 1), s.2.1.2.2.2.2.2.2.2.2), s.2.2)) rfl)) ?_
        refine xy_r (xw_iconst (1) dM_cell_Z_207 (by decide)) ?_
        obtain rfl := Option.some.inj hF
        exact xy_end (xw_ireturn dM_cell_Z_208 rfl (xb_nar true) (Nat.le_refl _) (Nat.le_refl _) ⟨rfl, rfl⟩)
      · replace hF := xg_f c85 hF
        refine xy_r (xw_aload_n dM_cell_Z_178 rfl) ?_
        refine xy_r (xw_iload_n dM_cell_Z_179 rfl) ?_
        obtain ⟨r86, er86, hF⟩ := xg_b hF
        refine xy_q (fun hq => xg_V1 (k1 := _) (n1 := _) (CM_look er86) rfl rfl rfl dM_cell_Z_180 (kM_264 _) ⟨Nat.le_of_ble_eq_true rfl, Nat.le_of_ble_eq_true rfl⟩ rfl rfl rfl rfl (Nat.le_of_ble_eq_true rfl) (Nat.le_refl _) (Nat.le_refl _) (Nat.sub_le_sub_right hq.1 _) (Nat.sub_le_sub_right hq.2 _)) ?_
        refine xy_r (xw_bipush (122) dM_cell_Z_183 (by decide)) ?_
        refine xy_br (xw_icmp_gt 190 dM_cell_Z_185 (by decide)) (fun c87 => ?_) (fun c87 => ?_)
        · replace hF := xg_t c87 hF
          refine xy_r (xw_aload_n dM_cell_Z_190 rfl) ?_
          refine xy_r (xw_iload_n dM_cell_Z_191 rfl) ?_
          refine xy_r (xw_iconst (1) dM_cell_Z_192 (by decide)) ?_
          refine xy_r (xw_isub dM_cell_Z_193) ?_
          refine xy_r (xg_put dM_cell_Z_194 fM_311 rfl (by decide) (Nat.le_of_ble_eq_true rfl) (fun _ => rfl) (fun _ => rfl) (mV_o (s' := (s.1, (s.2.1.1, s.2.1.2.1, s.2.1.2.2.1, s.2.1.2.2.2.1, s.2.1.2.2.2.2.1, s.2.1.2.2.2.2.2.1, s.2.1.2.2.2.2.2.2.1, (l2 - 1), s.2.1.2.2.2.2.2.2.2.2), s.2.2)) rfl)) ?_
          refine xy_r (xw_aload_n dM_cell_Z_197 rfl) ?_
          refine xy_r (xw_aload_n dM_cell_Z_198 rfl) ?_
          refine xy_r (xw_get dM_cell_Z_199 fM_221 rfl rfl) ?_
          refine xy_r (xw_iload_n dM_cell_Z_202 rfl) ?_
          refine xy_r (xw_iadd dM_cell_Z_203) ?_
          refine xy_r (xg_put dM_cell_Z_204 fM_314 rfl (by decide) (Nat.le_of_ble_eq_true rfl) (fun _ => rfl) (fun _ => rfl) (mV_o (s' := (s.1, (s.2.1.1, s.2.1.2.1, s.2.1.2.2.1, s.2.1.2.2.2.1, (s.2.1.2.1 + l1), s.2.1.2.2.2.2.2.1, s.2.1.2.2.2.2.2.2.1, (l2 - 1), s.2.1.2.2.2.2.2.2.2.2), s.2.2)) rfl)) ?_
          refine xy_r (xw_iconst (1) dM_cell_Z_207 (by decide)) ?_
          obtain rfl := Option.some.inj hF
          exact xy_end (xw_ireturn dM_cell_Z_208 rfl (xb_nar true) (Nat.le_refl _) (Nat.le_refl _) ⟨rfl, rfl⟩)
        · replace hF := xg_f c87 hF
          refine xy_r (xw_iconst (0) dM_cell_Z_188 (by decide)) ?_
          obtain rfl := Option.some.inj hF
          exact xy_end (xw_ireturn dM_cell_Z_189 rfl (xb_nar false) (Nat.le_refl _) (Nat.le_refl _) ⟨rfl, rfl⟩)
set_option maxRecDepth 20000 in
theorem CM_cell_Z_113 {w : xw_G} {h : xw_H} (hb : xMb h)  : ∀ (fu : Nat) {l1 : Int32} {l2 : Int32} {s : xMs} {out : (Bool × xMs)} {h0 : xw_H} {m0 n0 : Nat} (hm : m0 ≤ s.2.2.1.2.2.2.2.2.2.1 ∧ n0 ≤ s.2.2.1.2.2.2.2.2.2.2), FM_cell_Z_113 fu l1 l2 s = some out → xw_Y w mM_cell_Z 2 41 (xw_R (some (.int (xb out.1))) (mV out.2 h)) h0 m0 n0 s.2.2.1.2.2.2.2.2.2.1 s.2.2.1.2.2.2.2.2.2.2 out.2.2.2.1.2.2.2.2.2.2.1 out.2.2.2.1.2.2.2.2.2.2.2 113 [some (.ref 2000), some (.int l1), some (.int l2)] [] (mV s h) := by
  intro fu
  induction fu with
  | zero =>
    intro l1 l2 s out h0 m0 n0 hm hF
    rw [FM_cell_Z_113] at hF
    cases hF
  | succ fu ih =>
    intro l1 l2 s out h0 m0 n0 hm hF
    rw [FM_cell_Z_113] at hF
    refine xy_r (xw_aload_n dM_cell_Z_113 rfl) ?_
    refine xy_r (xw_iload_n dM_cell_Z_114 rfl) ?_
    obtain ⟨r78, er78, hF⟩ := xg_b hF
    refine xy_q (fun hq => xg_V1 (k1 := _) (n1 := _) (CM_look er78) rfl rfl rfl dM_cell_Z_115 (kM_264 _) ⟨Nat.le_of_ble_eq_true rfl, Nat.le_of_ble_eq_true rfl⟩ rfl rfl rfl rfl (Nat.le_of_ble_eq_true rfl) (Nat.le_refl _) (Nat.le_refl _) (Nat.sub_le_sub_right hq.1 _) (Nat.sub_le_sub_right hq.2 _)) ?_
    refine xy_q (fun hq => xg_S1 (k1 := _) (n1 := _) (cM_digit w) rfl rfl rfl dM_cell_Z_118 (kM_295 _) ⟨Nat.le_of_ble_eq_true rfl, Nat.le_of_ble_eq_true rfl⟩ rfl rfl (Nat.le_of_ble_eq_true rfl) (Nat.le_refl _) (Nat.le_refl _) (Nat.sub_le_sub_right hq.1 _) (Nat.sub_le_sub_right hq.2 _)) ?_
    refine xy_br (xw_if_eq 150 dM_cell_Z_121 (by decide)) (fun c79 => ?_) (fun c79 => ?_)
    · replace hF := xg_t c79 hF
      exact CM_cell_Z_150 hb (s := s) hm hF
    · replace hF := xg_f c79 hF
      refine xy_r (xw_iload_n dM_cell_Z_124 rfl) ?_
      refine xy_r (xw_bipush (80) dM_cell_Z_125 (by decide)) ?_
      refine xy_br (xw_icmp_gt 150 dM_cell_Z_127 (by decide)) (fun c88 => ?_) (fun c88 => ?_)
      · replace hF := xg_t c88 hF
        exact CM_cell_Z_150 hb (s := s) hm hF
      · replace hF := xg_f c88 hF
        refine xy_r (xw_bipush (10) dM_cell_Z_130 (by decide)) ?_
        refine xy_r (xw_iload_n dM_cell_Z_132 rfl) ?_
        refine xy_r (xw_imul dM_cell_Z_133) ?_
        refine xy_r (xw_aload_n dM_cell_Z_134 rfl) ?_
        refine xy_r (xw_iload_n dM_cell_Z_135 rfl) ?_
        obtain ⟨r89, er89, hF⟩ := xg_b hF
        refine xy_q (fun hq => xg_V1 (k1 := _) (n1 := _) (CM_look er89) rfl rfl rfl dM_cell_Z_136 (kM_264 _) ⟨Nat.le_of_ble_eq_true rfl, Nat.le_of_ble_eq_true rfl⟩ rfl rfl rfl rfl (Nat.le_of_ble_eq_true rfl) (Nat.le_refl _) (Nat.le_refl _) (Nat.sub_le_sub_right hq.1 _) (Nat.sub_le_sub_right hq.2 _)) ?_
        refine xy_r (xw_iadd dM_cell_Z_139) ?_
        refine xy_r (xw_bipush (48) dM_cell_Z_140 (by decide)) ?_
        refine xy_r (xw_isub dM_cell_Z_142) ?_
        refine xy_r (xw_istore_n dM_cell_Z_143 (Nat.le_of_ble_eq_true rfl)) ?_
        refine xy_r (xw_Ln (L' := [some (.ref 2000), some (.int l1), some (.int (((10 * l2) + r89) - 48))]) rfl) ?_
        refine xy_r (xw_iinc ((l1 + 1)) dM_cell_Z_144 rfl rfl (Nat.le_of_ble_eq_true rfl)) ?_
        refine xy_r (xw_Ln (L' := [some (.ref 2000), some (.int (l1 + 1)), some (.int (((10 * l2) + r89) - 48))]) rfl) ?_
        refine xy_r (xw_goto 113 dM_cell_Z_147 (by decide)) ?_
        exact ih (s := s) hm hF
set_option maxRecDepth 20000 in
theorem CM_cell_Z_31 {w : xw_G} {h : xw_H} (hb : xMb h)  {l1 : Int32} {s : xMs} {out : (Bool × xMs)} {h0 : xw_H} {m0 n0 : Nat} (hm : m0 ≤ s.2.2.1.2.2.2.2.2.2.1 ∧ n0 ≤ s.2.2.1.2.2.2.2.2.2.2) (hF : FM_cell_Z_31 l1 s = some out) : xw_Y w mM_cell_Z 2 41 (xw_R (some (.int (xb out.1))) (mV out.2 h)) h0 m0 n0 s.2.2.1.2.2.2.2.2.2.1 s.2.2.1.2.2.2.2.2.2.2 out.2.2.2.1.2.2.2.2.2.2.1 out.2.2.2.1.2.2.2.2.2.2.2 31 [some (.ref 2000), some (.int l1), none] [] (mV s h) := by
  unfold FM_cell_Z_31 at hF
  refine xy_r (xw_aload_n dM_cell_Z_31 rfl) ?_
  refine xy_r (xw_iload_n dM_cell_Z_32 rfl) ?_
  obtain ⟨r68, er68, hF⟩ := xg_b hF
  refine xy_q (fun hq => xg_V1 (k1 := _) (n1 := _) (CM_look er68) rfl rfl rfl dM_cell_Z_33 (kM_264 _) ⟨Nat.le_of_ble_eq_true rfl, Nat.le_of_ble_eq_true rfl⟩ rfl rfl rfl rfl (Nat.le_of_ble_eq_true rfl) (Nat.le_refl _) (Nat.le_refl _) (Nat.sub_le_sub_right hq.1 _) (Nat.sub_le_sub_right hq.2 _)) ?_
  refine xy_q (fun hq => xg_S1 (k1 := _) (n1 := _) (cM_letter w) rfl rfl rfl dM_cell_Z_36 (kM_292 _) ⟨Nat.le_of_ble_eq_true rfl, Nat.le_of_ble_eq_true rfl⟩ rfl rfl (Nat.le_of_ble_eq_true rfl) (Nat.le_refl _) (Nat.le_refl _) (Nat.sub_le_sub_right hq.1 _) (Nat.sub_le_sub_right hq.2 _)) ?_
  refine xy_brn (xw_if_ne 44 dM_cell_Z_39 (by decide)) (fun c69 => ?_) (fun c69 => ?_)
  · replace hF := xg_f c69 hF
    refine xy_r (xw_aload_n dM_cell_Z_44 rfl) ?_
    refine xy_r (xw_aload_n dM_cell_Z_45 rfl) ?_
    refine xy_r (xw_iload_n dM_cell_Z_46 rfl) ?_
    obtain ⟨r70, er70, hF⟩ := xg_b hF
    refine xy_q (fun hq => xg_V1 (k1 := _) (n1 := _) (CM_look er70) rfl rfl rfl dM_cell_Z_47 (kM_264 _) ⟨Nat.le_of_ble_eq_true rfl, Nat.le_of_ble_eq_true rfl⟩ rfl rfl rfl rfl (Nat.le_of_ble_eq_true rfl) (Nat.le_refl _) (Nat.le_refl _) (Nat.sub_le_sub_right hq.1 _) (Nat.sub_le_sub_right hq.2 _)) ?_
    refine xy_r (xw_bipush (65) dM_cell_Z_50 (by decide)) ?_
    refine xy_r (xw_isub dM_cell_Z_52) ?_
    refine xy_r (xg_put dM_cell_Z_53 fM_302 rfl (by decide) (Nat.le_of_ble_eq_true rfl) (fun _ => rfl) (fun _ => rfl) (mV_o (s' := (s.1, (s.2.1.1, s.2.1.2.1, s.2.1.2.2.1, s.2.1.2.2.2.1, s.2.1.2.2.2.2.1, s.2.1.2.2.2.2.2.1, s.2.1.2.2.2.2.2.2.1, s.2.1.2.2.2.2.2.2.2.1, (r70 - 65)), s.2.2)) rfl)) ?_
    refine xy_r (xw_iinc ((l1 + 1)) dM_cell_Z_56 rfl rfl (Nat.le_of_ble_eq_true rfl)) ?_
    refine xy_r (xw_Ln (L' := [some (.ref 2000), some (.int (l1 + 1)), none]) rfl) ?_
    refine xy_r (xw_aload_n dM_cell_Z_59 rfl) ?_
    refine xy_r (xw_aload_n dM_cell_Z_60 rfl) ?_
    refine xy_r (xw_iload_n dM_cell_Z_61 rfl) ?_
    obtain ⟨r71, er71, hF⟩ := xg_b hF
    refine xy_q (fun hq => xg_V1 (k1 := _) (n1 := _) (CM_look er71) rfl rfl rfl dM_cell_Z_62 (kM_264 _) ⟨Nat.le_of_ble_eq_true rfl, Nat.le_of_ble_eq_true rfl⟩ rfl rfl rfl rfl (Nat.le_of_ble_eq_true rfl) (Nat.le_refl _) (Nat.le_refl _) (Nat.sub_le_sub_right hq.1 _) (Nat.sub_le_sub_right hq.2 _)) ?_
    refine xy_r (xw_bipush (36) dM_cell_Z_65 (by decide)) ?_
    refine xy_brn (xw_icmp_ne 74 dM_cell_Z_67 (by decide)) (fun c72 => ?_) (fun c72 => ?_)
    · replace hF := xg_f c72 hF
      refine xy_r (xw_iconst (0) dM_cell_Z_74 (by decide)) ?_
      refine xy_r (xg_put dM_cell_Z_75 fM_305 rfl (by decide) (Nat.le_of_ble_eq_true rfl) (fun _ => xb_nar false) (fun _ => xb_fit false) (mV_o (s' := (s.1, (s.2.1.1, s.2.1.2.1, s.2.1.2.2.1, s.2.1.2.2.2.1, s.2.1.2.2.2.2.1, false, s.2.1.2.2.2.2.2.2.1, s.2.1.2.2.2.2.2.2.2.1, (r70 - 65)), s.2.2)) rfl)) ?_
      refine xy_r (xw_aload_n dM_cell_Z_78 rfl) ?_
      refine xy_r (xw_get dM_cell_Z_79 fM_305 rfl rfl) ?_
      refine xy_r (fun k9 => xw_if_eq 88 dM_cell_Z_82 (by decide) (fun _ => k9) (fun q => absurd (show (0 : Int32) = 0 by decide) q)) ?_
      refine xy_r (xw_aload_n dM_cell_Z_88 rfl) ?_
      refine xy_r (xw_iload_n dM_cell_Z_89 rfl) ?_
      obtain ⟨r74, er74, hF⟩ := xg_b hF
      refine xy_q (fun hq => xg_V1 (k1 := _) (n1 := _) (CM_look er74) rfl rfl rfl dM_cell_Z_90 (kM_264 _) ⟨Nat.le_of_ble_eq_true rfl, Nat.le_of_ble_eq_true rfl⟩ rfl rfl rfl rfl (Nat.le_of_ble_eq_true rfl) (Nat.le_refl _) (Nat.le_refl _) (Nat.sub_le_sub_right hq.1 _) (Nat.sub_le_sub_right hq.2 _)) ?_
      refine xy_q (fun hq => xg_S1 (k1 := _) (n1 := _) (cM_digit w) rfl rfl rfl dM_cell_Z_93 (kM_295 _) ⟨Nat.le_of_ble_eq_true rfl, Nat.le_of_ble_eq_true rfl⟩ rfl rfl (Nat.le_of_ble_eq_true rfl) (Nat.le_refl _) (Nat.le_refl _) (Nat.sub_le_sub_right hq.1 _) (Nat.sub_le_sub_right hq.2 _)) ?_
      refine xy_br (xw_if_eq 109 dM_cell_Z_96 (by decide)) (fun c75 => ?_) (fun c75 => ?_)
      · replace hF := xg_t c75 hF
        refine xy_r (xw_iconst (0) dM_cell_Z_109 (by decide)) ?_
        obtain rfl := Option.some.inj hF
        exact xy_end (xw_ireturn dM_cell_Z_110 rfl (xb_nar false) (Nat.le_refl _) (Nat.le_refl _) ⟨rfl, rfl⟩)
      · replace hF := xg_f c75 hF
        refine xy_r (xw_aload_n dM_cell_Z_99 rfl) ?_
        refine xy_r (xw_iload_n dM_cell_Z_100 rfl) ?_
        obtain ⟨r76, er76, hF⟩ := xg_b hF
        refine xy_q (fun hq => xg_V1 (k1 := _) (n1 := _) (CM_look er76) rfl rfl rfl dM_cell_Z_101 (kM_264 _) ⟨Nat.le_of_ble_eq_true rfl, Nat.le_of_ble_eq_true rfl⟩ rfl rfl rfl rfl (Nat.le_of_ble_eq_true rfl) (Nat.le_refl _) (Nat.le_refl _) (Nat.sub_le_sub_right hq.1 _) (Nat.sub_le_sub_right hq.2 _)) ?_
        refine xy_r (xw_bipush (48) dM_cell_Z_104 (by decide)) ?_
        refine xy_brn (xw_icmp_ne 111 dM_cell_Z_106 (by decide)) (fun c77 => ?_) (fun c77 => ?_)
        · replace hF := xg_f c77 hF
          refine xy_r (xw_iconst (0) dM_cell_Z_111 (by decide)) ?_
          refine xy_r (xw_istore_n dM_cell_Z_112 (Nat.le_of_ble_eq_true rfl)) ?_
          refine xy_r (xw_Ln (L' := [some (.ref 2000), some (.int (l1 + 1)), some (.int 0)]) rfl) ?_
          exact CM_cell_Z_113 hb xFuel (s := (s.1, (s.2.1.1, s.2.1.2.1, s.2.1.2.2.1, s.2.1.2.2.2.1, s.2.1.2.2.2.2.1, false, s.2.1.2.2.2.2.2.2.1, s.2.1.2.2.2.2.2.2.2.1, (r70 - 65)), s.2.2)) hm hF
        · replace hF := xg_t c77 hF
          refine xy_r (xw_iconst (0) dM_cell_Z_109 (by decide)) ?_
          obtain rfl := Option.some.inj hF
          exact xy_end (xw_ireturn dM_cell_Z_110 rfl (xb_nar false) (Nat.le_refl _) (Nat.le_refl _) ⟨rfl, rfl⟩)
    · replace hF := xg_t c72 hF
      refine xy_r (xw_iconst (1) dM_cell_Z_70 (by decide)) ?_
      refine xy_r (xw_goto 75 dM_cell_Z_71 (by decide)) ?_
      refine xy_r (xg_put dM_cell_Z_75 fM_305 rfl (by decide) (Nat.le_of_ble_eq_true rfl) (fun _ => xb_nar true) (fun _ => xb_fit true) (mV_o (s' := (s.1, (s.2.1.1, s.2.1.2.1, s.2.1.2.2.1, s.2.1.2.2.2.1, s.2.1.2.2.2.2.1, true, s.2.1.2.2.2.2.2.2.1, s.2.1.2.2.2.2.2.2.2.1, (r70 - 65)), s.2.2)) rfl)) ?_
      refine xy_r (xw_aload_n dM_cell_Z_78 rfl) ?_
      refine xy_r (xw_get dM_cell_Z_79 fM_305 rfl rfl) ?_
      refine xy_r (fun k9 => xw_if_eq 88 dM_cell_Z_82 (by decide) (fun q => absurd q (show ¬ ((1 : Int32) = 0) by decide)) (fun _ => k9)) ?_
      refine xy_r (xw_iinc (((l1 + 1) + 1)) dM_cell_Z_85 rfl rfl (Nat.le_of_ble_eq_true rfl)) ?_
      refine xy_r (xw_Ln (L' := [some (.ref 2000), some (.int ((l1 + 1) + 1)), none]) rfl) ?_
      refine xy_r (xw_aload_n dM_cell_Z_88 rfl) ?_
      refine xy_r (xw_iload_n dM_cell_Z_89 rfl) ?_
      obtain ⟨r91, er91, hF⟩ := xg_b hF
      refine xy_q (fun hq => xg_V1 (k1 := _) (n1 := _) (CM_look er91) rfl rfl rfl dM_cell_Z_90 (kM_264 _) ⟨Nat.le_of_ble_eq_true rfl, Nat.le_of_ble_eq_true rfl⟩ rfl rfl rfl rfl (Nat.le_of_ble_eq_true rfl) (Nat.le_refl _) (Nat.le_refl _) (Nat.sub_le_sub_right hq.1 _) (Nat.sub_le_sub_right hq.2 _)) ?_
      refine xy_q (fun hq => xg_S1 (k1 := _) (n1 := _) (cM_digit w) rfl rfl rfl dM_cell_Z_93 (kM_295 _) ⟨Nat.le_of_ble_eq_true rfl, Nat.le_of_ble_eq_true rfl⟩ rfl rfl (Nat.le_of_ble_eq_true rfl) (Nat.le_refl _) (Nat.le_refl _) (Nat.sub_le_sub_right hq.1 _) (Nat.sub_le_sub_right hq.2 _)) ?_
      refine xy_br (xw_if_eq 109 dM_cell_Z_96 (by decide)) (fun c92 => ?_) (fun c92 => ?_)
      · replace hF := xg_t c92 hF
        refine xy_r (xw_iconst (0) dM_cell_Z_109 (by decide)) ?_
        obtain rfl := Option.some.inj hF
        exact xy_end (xw_ireturn dM_cell_Z_110 rfl (xb_nar false) (Nat.le_refl _) (Nat.le_refl _) ⟨rfl, rfl⟩)
      · replace hF := xg_f c92 hF
        refine xy_r (xw_aload_n dM_cell_Z_99 rfl) ?_
        refine xy_r (xw_iload_n dM_cell_Z_100 rfl) ?_
        obtain ⟨r93, er93, hF⟩ := xg_b hF
        refine xy_q (fun hq => xg_V1 (k1 := _) (n1 := _) (CM_look er93) rfl rfl rfl dM_cell_Z_101 (kM_264 _) ⟨Nat.le_of_ble_eq_true rfl, Nat.le_of_ble_eq_true rfl⟩ rfl rfl rfl rfl (Nat.le_of_ble_eq_true rfl) (Nat.le_refl _) (Nat.le_refl _) (Nat.sub_le_sub_right hq.1 _) (Nat.sub_le_sub_right hq.2 _)) ?_
        refine xy_r (xw_bipush (48) dM_cell_Z_104 (by decide)) ?_
        refine xy_brn (xw_icmp_ne 111 dM_cell_Z_106 (by decide)) (fun c94 => ?_) (fun c94 => ?_)
        · replace hF := xg_f c94 hF
          refine xy_r (xw_iconst (0) dM_cell_Z_111 (by decide)) ?_
          refine xy_r (xw_istore_n dM_cell_Z_112 (Nat.le_of_ble_eq_true rfl)) ?_
          refine xy_r (xw_Ln (L' := [some (.ref 2000), some (.int ((l1 + 1) + 1)), some (.int 0)]) rfl) ?_
          exact CM_cell_Z_113 hb xFuel (s := (s.1, (s.2.1.1, s.2.1.2.1, s.2.1.2.2.1, s.2.1.2.2.2.1, s.2.1.2.2.2.2.1, true, s.2.1.2.2.2.2.2.2.1, s.2.1.2.2.2.2.2.2.2.1, (r70 - 65)), s.2.2)) hm hF
        · replace hF := xg_t c94 hF
          refine xy_r (xw_iconst (0) dM_cell_Z_109 (by decide)) ?_
          obtain rfl := Option.some.inj hF
          exact xy_end (xw_ireturn dM_cell_Z_110 rfl (xb_nar false) (Nat.le_refl _) (Nat.le_refl _) ⟨rfl, rfl⟩)
  · replace hF := xg_t c69 hF
    refine xy_r (xw_iconst (0) dM_cell_Z_42 (by decide)) ?_
    obtain rfl := Option.some.inj hF
    exact xy_end (xw_ireturn dM_cell_Z_43 rfl (xb_nar false) (Nat.le_refl _) (Nat.le_refl _) ⟨rfl, rfl⟩)
set_option maxRecDepth 20000 in
theorem CM_cell_Z_18 {w : xw_G} {h : xw_H} (hb : xMb h)  {l1 : Int32} {t1 : Bool} {s : xMs} {out : (Bool × xMs)} {h0 : xw_H} {m0 n0 : Nat} (hm : m0 ≤ s.2.2.1.2.2.2.2.2.2.1 ∧ n0 ≤ s.2.2.1.2.2.2.2.2.2.2) (hF : FM_cell_Z_18 l1 t1 s = some out) : xw_Y w mM_cell_Z 2 41 (xw_R (some (.int (xb out.1))) (mV out.2 h)) h0 m0 n0 s.2.2.1.2.2.2.2.2.2.1 s.2.2.1.2.2.2.2.2.2.2 out.2.2.2.1.2.2.2.2.2.2.1 out.2.2.2.1.2.2.2.2.2.2.2 18 [some (.ref 2000), some (.int l1), none] [.int (xb t1), .ref 2000] (mV s h) := by
  unfold FM_cell_Z_18 at hF
  refine xy_r (xg_put dM_cell_Z_18 fM_298 rfl (by decide) (Nat.le_of_ble_eq_true rfl) (fun _ => xb_nar t1) (fun _ => xb_fit t1) (mV_o (s' := (s.1, (s.2.1.1, s.2.1.2.1, s.2.1.2.2.1, s.2.1.2.2.2.1, s.2.1.2.2.2.2.1, s.2.1.2.2.2.2.2.1, t1, s.2.1.2.2.2.2.2.2.2), s.2.2)) rfl)) ?_
  refine xy_r (xw_aload_n dM_cell_Z_21 rfl) ?_
  refine xy_r (xw_get dM_cell_Z_22 fM_298 rfl rfl) ?_
  refine xy_brn (xw_if_eqB 31 dM_cell_Z_25 (by decide)) (fun c67 => ?_) (fun c67 => ?_)
  · replace hF := xg_f c67 hF
    exact CM_cell_Z_31 hb (s := (s.1, (s.2.1.1, s.2.1.2.1, s.2.1.2.2.1, s.2.1.2.2.2.1, s.2.1.2.2.2.2.1, s.2.1.2.2.2.2.2.1, t1, s.2.1.2.2.2.2.2.2.2), s.2.2)) hm hF
  · replace hF := xg_t c67 hF
    refine xy_r (xw_iinc ((l1 + 1)) dM_cell_Z_28 rfl rfl (Nat.le_of_ble_eq_true rfl)) ?_
    refine xy_r (xw_Ln (L' := [some (.ref 2000), some (.int (l1 + 1)), none]) rfl) ?_
    exact CM_cell_Z_31 hb (s := (s.1, (s.2.1.1, s.2.1.2.1, s.2.1.2.2.1, s.2.1.2.2.2.1, s.2.1.2.2.2.2.1, s.2.1.2.2.2.2.2.1, t1, s.2.1.2.2.2.2.2.2.2), s.2.2)) hm hF
set_option maxRecDepth 20000 in
theorem CM_cell_Z {w : xw_G} {h : xw_H} (hb : xMb h)  {s : xMs} {out : (Bool × xMs)} (hF : FM_cell_Z  s = some out) : (s.2.2.1.2.2.2.2.2.2.1 ≤ out.2.2.2.1.2.2.2.2.2.2.1 ∧ s.2.2.1.2.2.2.2.2.2.2 ≤ out.2.2.2.1.2.2.2.2.2.2.2) ∧ xw_C w (mM_cell_Z { frames := 2, cells := out.2.2.2.1.2.2.2.2.2.2.1 - s.2.2.1.2.2.2.2.2.2.1, slots := out.2.2.2.1.2.2.2.2.2.2.2 - s.2.2.1.2.2.2.2.2.2.2, locals := 41 }) (xw_R (some (.int (xb out.1))) (mV out.2 h)) [.ref 2000] (mV s h) := by
  unfold FM_cell_Z at hF
  refine xy_enter (L := [some (.ref 2000), none, none]) (fun _ => rfl) (fun _ => rfl) (fun _ => (show plainName "FormulaShaperModel" = true by decide +kernel)) (fun _ => (Nat.le_of_ble_eq_true rfl)) (fun _ => rfl) ?_
  have hm : s.2.2.1.2.2.2.2.2.2.1 ≤ s.2.2.1.2.2.2.2.2.2.1 ∧ s.2.2.1.2.2.2.2.2.2.2 ≤ s.2.2.1.2.2.2.2.2.2.2 := ⟨Nat.le_refl _, Nat.le_refl _⟩
  refine xy_r (xw_iconst (0) dM_cell_Z_0 (by decide)) ?_
  refine xy_r (xw_istore_n dM_cell_Z_1 (Nat.le_of_ble_eq_true rfl)) ?_
  refine xy_r (xw_Ln (L' := [some (.ref 2000), some (.int 0), none]) rfl) ?_
  refine xy_r (xw_aload_n dM_cell_Z_2 rfl) ?_
  refine xy_r (xw_aload_n dM_cell_Z_3 rfl) ?_
  refine xy_r (xw_iload_n dM_cell_Z_4 rfl) ?_
  obtain ⟨r65, er65, hF⟩ := xg_b hF
  refine xy_q (fun hq => xg_V1 (k1 := _) (n1 := _) (CM_look er65) rfl rfl rfl dM_cell_Z_5 (kM_264 _) ⟨Nat.le_of_ble_eq_true rfl, Nat.le_of_ble_eq_true rfl⟩ rfl rfl rfl rfl (Nat.le_of_ble_eq_true rfl) (Nat.le_refl _) (Nat.le_refl _) (Nat.sub_le_sub_right hq.1 _) (Nat.sub_le_sub_right hq.2 _)) ?_
  refine xy_r (xw_bipush (36) dM_cell_Z_8 (by decide)) ?_
  refine xy_brn (xw_icmp_ne 17 dM_cell_Z_10 (by decide)) (fun c66 => ?_) (fun c66 => ?_)
  · replace hF := xg_f c66 hF
    refine xy_r (xw_iconst (0) dM_cell_Z_17 (by decide)) ?_
    exact CM_cell_Z_18 hb (s := s) hm hF
  · replace hF := xg_t c66 hF
    refine xy_r (xw_iconst (1) dM_cell_Z_13 (by decide)) ?_
    refine xy_r (xw_goto 18 dM_cell_Z_14 (by decide)) ?_
    exact CM_cell_Z_18 hb (s := s) hm hF
