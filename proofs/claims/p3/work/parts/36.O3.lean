def FM_node_52 (l1 : Int32) (s : xMs) : Option (Nat × xMs) := if (0 ≤ s.2.2.1.1 ∧ s.2.2.1.1 < nI (256 * 2 ^ s.2.2.1.2.1)) ∧ s.2.2.1.2.1 < s.2.2.1.2.2.1 ∧ s.2.2.1.2.1 < 8 then (xm (s.2.2.1.2.2.2.1 s.2.2.1.2.1 (s.2.2.1.1).toNatClampNeg) ((((va_up s.2.2.1.2.2.2.1 s.2.2.1.2.1 (va_up (s.2.2.1.2.2.2.1 s.2.2.1.2.1) (s.2.2.1.1).toNatClampNeg (some s.2.2.1.2.2.2.2.1))) s.2.2.1.2.1 (s.2.2.1.1).toNatClampNeg)).bind fun i43 => if i43 < (s.2.2.1.2.2.2.2.1 + 1) then (some (i43, (s.1, s.2.1, ((s.2.2.1.1 + 1), s.2.2.1.2.1, s.2.2.1.2.2.1, (va_up s.2.2.1.2.2.2.1 s.2.2.1.2.1 (va_up (s.2.2.1.2.2.2.1 s.2.2.1.2.1) (s.2.2.1.1).toNatClampNeg (some s.2.2.1.2.2.2.2.1))), (s.2.2.1.2.2.2.2.1 + 1), (va_up (va_up s.2.2.1.2.2.2.2.2.1 s.2.2.1.2.2.2.2.1 xN0) i43 (nCount (nNext (nLast (nFirst (nNumber (nB (nA (nKind ((va_up s.2.2.1.2.2.2.2.2.1 s.2.2.1.2.2.2.2.1 xN0) i43) l1) 0) 0) 0) none) none) none) 0)), (s.2.2.1.2.2.2.2.2.2.1 + 1), (s.2.2.1.2.2.2.2.2.2.2 + 16)), s.2.2.2))) else none) (fun i40 => ((s.2.2.1.2.2.2.1 s.2.2.1.2.1 (s.2.2.1.1).toNatClampNeg)).bind fun i45 => if i45 < s.2.2.1.2.2.2.2.1 then (some (i45, (s.1, s.2.1, ((s.2.2.1.1 + 1), s.2.2.1.2.1, s.2.2.1.2.2.1, s.2.2.1.2.2.2.1, s.2.2.1.2.2.2.2.1, (va_up s.2.2.1.2.2.2.2.2.1 i45 (nCount (nNext (nLast (nFirst (nNumber (nB (nA (nKind (s.2.2.1.2.2.2.2.2.1 i45) l1) 0) 0) 0) none) none) none) 0)), s.2.2.1.2.2.2.2.2.2), s.2.2.2))) else none)) else none
def FM_node_24 : Nat → Int32 → Nat → Int32 → xMs → Option (Nat × xMs)
  | 0, _, _, _, _ => none
  | fu + 1, l1, l2, l3, s => if s.2.2.1.1 ≤ l3 then (FM_node_52 l1 (s.1, s.2.1, (s.2.2.1.1, l2, s.2.2.1.2.2), s.2.2.2)) else (if (0 ≤ l3 ∧ l3 < nI (256 * 2 ^ s.2.2.1.2.1)) ∧ s.2.2.1.2.1 < s.2.2.1.2.2.1 ∧ s.2.2.1.2.1 < 8 then (((s.2.2.1.2.2.2.1 s.2.2.1.2.1 (l3).toNatClampNeg)).bind fun i51 => if i51 < s.2.2.1.2.2.2.2.1 then (if (0 ≤ l3 ∧ l3 < nI (256 * 2 ^ l2)) ∧ l2 < s.2.2.1.2.2.1 ∧ l2 < 8 then (FM_node_24 fu l1 l2 (l3 + 1) (s.1, s.2.1, (s.2.2.1.1, s.2.2.1.2.1, s.2.2.1.2.2.1, (va_up s.2.2.1.2.2.2.1 l2 (va_up (s.2.2.1.2.2.2.1 l2) (l3).toNatClampNeg (some i51))), s.2.2.1.2.2.2.2), s.2.2.2)) else none) else none) else none)
/-- FormulaShaperModel.node -/
def FM_node (x0 : Int32) (s : xMs) : Option (Nat × xMs) := if s.2.2.1.2.1 < s.2.2.1.2.2.1 then (if s.2.2.1.1 = (nI (256 * 2 ^ s.2.2.1.2.1)) then (if (2 * s.2.2.1.1) = nI (256 * 2 ^ s.2.2.1.2.2.1) ∧ s.2.2.1.2.2.1 < 8 then (FM_node_24 xFuel x0 s.2.2.1.2.2.1 0 (s.1, s.2.1, (s.2.2.1.1, s.2.2.1.2.1, (s.2.2.1.2.2.1 + 1), (va_up s.2.2.1.2.2.2.1 s.2.2.1.2.2.1 (fun _ => none)), s.2.2.1.2.2.2.2.1, s.2.2.1.2.2.2.2.2.1, (s.2.2.1.2.2.2.2.2.2.1 + 1), (s.2.2.1.2.2.2.2.2.2.2 + 256 * 2 ^ s.2.2.1.2.2.1)), s.2.2.2)) else none) else (FM_node_52 x0 s)) else none
set_option maxRecDepth 20000 in
theorem CM_node_52 {w : xw_G} {h : xw_H} (hb : xMb h)  {l1 : Int32} {s : xMs} {out : (Nat × xMs)} {h0 : xw_H} {m0 n0 : Nat} (hm : m0 ≤ s.2.2.1.2.2.2.2.2.2.1 ∧ n0 ≤ s.2.2.1.2.2.2.2.2.2.2) (hF : FM_node_52 l1 s = some out) : xw_Y w mM_node 2 60 (xw_R (some (.ref (xn out.1))) (mV out.2 h)) h0 m0 n0 s.2.2.1.2.2.2.2.2.2.1 s.2.2.1.2.2.2.2.2.2.2 out.2.2.2.1.2.2.2.2.2.2.1 out.2.2.2.1.2.2.2.2.2.2.2 52 [some (.ref 2000), some (.int l1), none, none] [] (mV s h) := by
  unfold FM_node_52 at hF
  refine xy_r (xw_aload_n dM_node_52 rfl) ?_
  refine xy_r (xw_get dM_node_53 fM_25 rfl rfl) ?_
  refine xy_r (xw_aload_n dM_node_56 rfl) ?_
  refine xy_r (xw_get dM_node_57 fM_188 rfl rfl) ?_
  obtain ⟨g39, hF⟩ := xg_g hF
  refine xy_r (xg_naload g39.1 (xlev g39.2.2) dM_node_60 (mV_d g39.2.1)) ?_
  rcases xg_m hF with ⟨ei40, hF⟩ | ⟨i40, ei40, hF⟩
  · refine xy_r (xw_Sn (st' := [.null]) (by first | (rw [ei40]; done) | (rw [ei40]; rfl))) ?_
    refine xy_r (xw_ifnonnull_n dM_node_61) ?_
    refine xy_r (xw_aload_n dM_node_64 rfl) ?_
    refine xy_r (xw_get dM_node_65 fM_25 rfl rfl) ?_
    refine xy_r (xw_aload_n dM_node_68 rfl) ?_
    refine xy_r (xw_get dM_node_69 fM_188 rfl rfl) ?_
    refine xy_new (xn s.2.2.1.2.2.2.2.1) (fun _ => rfl) (fun _ => dM_node_72) (fun _ => nM_23) (mV_nf hb) (xn_le _) hm (mV_e (s' := (s.1, s.2.1, (s.2.2.1.1, s.2.2.1.2.1, s.2.2.1.2.2.1, s.2.2.1.2.2.2.1, (s.2.2.1.2.2.2.2.1 + 1), (va_up s.2.2.1.2.2.2.2.2.1 s.2.2.1.2.2.2.2.1 xN0), (s.2.2.1.2.2.2.2.2.2.1 + 1), (s.2.2.1.2.2.2.2.2.2.2 + 16)), s.2.2.2)) (mV_nn (q := xN0) (k := (s.2.2.1.2.2.2.2.2.2.1 + 1)) (m := (s.2.2.1.2.2.2.2.2.2.2 + 16))) rfl) ?_
    have hm41 : m0 ≤ (s.2.2.1.2.2.2.2.2.2.1 + 1) ∧ n0 ≤ (s.2.2.1.2.2.2.2.2.2.2 + 16) := ⟨by omega, by omega⟩
    have g42 : s.2.2.1.2.2.2.2.1 < (s.2.2.1.2.2.2.2.1 + 1) := by omega
    refine xy_r (xw_dup_r dM_node_75) ?_
    refine xy_q (fun hq => xg_N0 (k1 := _) (n1 := _) (CN_init (a := xn s.2.2.1.2.2.2.2.1) w) rfl rfl rfl dM_node_76 (nM_191 _) ⟨Nat.le_of_ble_eq_true rfl, Nat.le_of_ble_eq_true rfl⟩ rfl rfl (Nat.le_of_ble_eq_true rfl) (Nat.le_refl _) (Nat.le_refl _) (Nat.sub_le_sub_right hq.1 _) (Nat.sub_le_sub_right hq.2 _)) ?_
    refine xy_r (xg_nastore (f := (s.2.2.1.2.2.2.1 s.2.2.1.2.1)) g39.1 (xlev g39.2.2) dM_node_79 (mV_d g39.2.1) (xna_le _) (mV_n g42) (mV_e (s' := (s.1, s.2.1, (s.2.2.1.1, s.2.2.1.2.1, s.2.2.1.2.2.1, (va_up s.2.2.1.2.2.2.1 s.2.2.1.2.1 (va_up (s.2.2.1.2.2.2.1 s.2.2.1.2.1) (s.2.2.1.1).toNatClampNeg (some s.2.2.1.2.2.2.2.1))), (s.2.2.1.2.2.2.2.1 + 1), (va_up s.2.2.1.2.2.2.2.2.1 s.2.2.1.2.2.2.2.1 xN0), (s.2.2.1.2.2.2.2.2.2.1 + 1), (s.2.2.1.2.2.2.2.2.2.2 + 16)), s.2.2.2)) (mV_pd g39.2.1) rfl)) ?_
    refine xy_r (xw_aload_n dM_node_80 rfl) ?_
    refine xy_r (xw_get dM_node_81 fM_25 rfl rfl) ?_
    refine xy_r (xw_aload_n dM_node_84 rfl) ?_
    refine xy_r (xw_get dM_node_85 fM_188 rfl rfl) ?_
    refine xy_r (xg_naload g39.1 (xlev g39.2.2) dM_node_88 (mV_d g39.2.1)) ?_
    refine xy_r (xg_astore_n dM_node_89 (Nat.le_of_ble_eq_true rfl)) ?_
    refine xy_r (xw_Ln (L' := [some (.ref 2000), some (.int l1), some (xw_rf ((va_up s.2.2.1.2.2.2.1 s.2.2.1.2.1 (va_up (s.2.2.1.2.2.2.1 s.2.2.1.2.1) (s.2.2.1.1).toNatClampNeg (some s.2.2.1.2.2.2.2.1))) s.2.2.1.2.1 (s.2.2.1.1).toNatClampNeg)), none]) rfl) ?_
    refine xy_r (xw_aload_n dM_node_90 rfl) ?_
    refine xy_r (xw_dup_r dM_node_91) ?_
    refine xy_r (xw_get dM_node_92 fM_188 rfl rfl) ?_
    refine xy_r (xw_iconst (1) dM_node_95 (by decide)) ?_
    refine xy_r (xw_iadd dM_node_96) ?_
    refine xy_r (xg_put dM_node_97 fM_188 rfl (by decide) (Nat.le_of_ble_eq_true rfl) (fun _ => rfl) (fun _ => rfl) (mV_o (s' := (s.1, s.2.1, ((s.2.2.1.1 + 1), s.2.2.1.2.1, s.2.2.1.2.2.1, (va_up s.2.2.1.2.2.2.1 s.2.2.1.2.1 (va_up (s.2.2.1.2.2.2.1 s.2.2.1.2.1) (s.2.2.1.1).toNatClampNeg (some s.2.2.1.2.2.2.2.1))), (s.2.2.1.2.2.2.2.1 + 1), (va_up s.2.2.1.2.2.2.2.2.1 s.2.2.1.2.2.2.2.1 xN0), (s.2.2.1.2.2.2.2.2.2.1 + 1), (s.2.2.1.2.2.2.2.2.2.2 + 16)), s.2.2.2)) rfl)) ?_
    refine xy_r (xg_aload_n dM_node_100 rfl) ?_
    refine xy_r (xw_iload_n dM_node_101 rfl) ?_
    obtain ⟨i43, ei43, hF⟩ := xg_b hF
    refine xy_r (xw_Ln (L' := [some (.ref 2000), some (.int l1), some (.ref (xn i43)), none]) (by first | (rw [ei43]; done) | (rw [ei43]; rfl))) ?_
    refine xy_r (xw_Sn (st' := [.int l1, .ref (xn i43)]) (by first | (rw [ei43]; done) | (rw [ei43]; rfl))) ?_
    obtain ⟨g44, hF⟩ := xg_g hF
    refine xy_r (xg_put dM_node_102 fM_192 (mV_n g44) (xn_le _) (Nat.le_of_ble_eq_true rfl) (fun _ => rfl) (fun _ => rfl) (mV_e (s' := (s.1, s.2.1, ((s.2.2.1.1 + 1), s.2.2.1.2.1, s.2.2.1.2.2.1, (va_up s.2.2.1.2.2.2.1 s.2.2.1.2.1 (va_up (s.2.2.1.2.2.2.1 s.2.2.1.2.1) (s.2.2.1.1).toNatClampNeg (some s.2.2.1.2.2.2.2.1))), (s.2.2.1.2.2.2.2.1 + 1), (va_up (va_up s.2.2.1.2.2.2.2.2.1 s.2.2.1.2.2.2.2.1 xN0) i43 (nKind ((va_up s.2.2.1.2.2.2.2.2.1 s.2.2.1.2.2.2.2.1 xN0) i43) l1)), (s.2.2.1.2.2.2.2.2.2.1 + 1), (s.2.2.1.2.2.2.2.2.2.2 + 16)), s.2.2.2)) (mV_pn (q := (nKind ((va_up s.2.2.1.2.2.2.2.2.1 s.2.2.1.2.2.2.2.1 xN0) i43) l1)) g44) rfl)) ?_
    refine xy_r (xw_aload_n dM_node_105 rfl) ?_
    refine xy_r (xw_iconst (0) dM_node_106 (by decide)) ?_
    refine xy_r (xg_put dM_node_107 fM_195 (mV_nu (va_up_self _ _ _) g44) (xn_le _) (Nat.le_of_ble_eq_true rfl) (fun _ => rfl) (fun _ => rfl) (mV_e (s' := (s.1, s.2.1, ((s.2.2.1.1 + 1), s.2.2.1.2.1, s.2.2.1.2.2.1, (va_up s.2.2.1.2.2.2.1 s.2.2.1.2.1 (va_up (s.2.2.1.2.2.2.1 s.2.2.1.2.1) (s.2.2.1.1).toNatClampNeg (some s.2.2.1.2.2.2.2.1))), (s.2.2.1.2.2.2.2.1 + 1), (va_up (va_up s.2.2.1.2.2.2.2.2.1 s.2.2.1.2.2.2.2.1 xN0) i43 (nA (nKind ((va_up s.2.2.1.2.2.2.2.2.1 s.2.2.1.2.2.2.2.1 xN0) i43) l1) 0)), (s.2.2.1.2.2.2.2.2.2.1 + 1), (s.2.2.1.2.2.2.2.2.2.2 + 16)), s.2.2.2)) (mV_pu (q := (nA (nKind ((va_up s.2.2.1.2.2.2.2.2.1 s.2.2.1.2.2.2.2.1 xN0) i43) l1) 0)) g44 (va_up_up _ _ _ _)) rfl)) ?_
    refine xy_r (xw_aload_n dM_node_110 rfl) ?_
    refine xy_r (xw_iconst (0) dM_node_111 (by decide)) ?_
    refine xy_r (xg_put dM_node_112 fM_198 (mV_nu (va_up_self _ _ _) g44) (xn_le _) (Nat.le_of_ble_eq_true rfl) (fun _ => rfl) (fun _ => rfl) (mV_e (s' := (s.1, s.2.1, ((s.2.2.1.1 + 1), s.2.2.1.2.1, s.2.2.1.2.2.1, (va_up s.2.2.1.2.2.2.1 s.2.2.1.2.1 (va_up (s.2.2.1.2.2.2.1 s.2.2.1.2.1) (s.2.2.1.1).toNatClampNeg (some s.2.2.1.2.2.2.2.1))), (s.2.2.1.2.2.2.2.1 + 1), (va_up (va_up s.2.2.1.2.2.2.2.2.1 s.2.2.1.2.2.2.2.1 xN0) i43 (nB (nA (nKind ((va_up s.2.2.1.2.2.2.2.2.1 s.2.2.1.2.2.2.2.1 xN0) i43) l1) 0) 0)), (s.2.2.1.2.2.2.2.2.2.1 + 1), (s.2.2.1.2.2.2.2.2.2.2 + 16)), s.2.2.2)) (mV_pu (q := (nB (nA (nKind ((va_up s.2.2.1.2.2.2.2.2.1 s.2.2.1.2.2.2.2.1 xN0) i43) l1) 0) 0)) g44 (va_up_up _ _ _ _)) rfl)) ?_
    refine xy_r (xw_aload_n dM_node_115 rfl) ?_
    refine xy_r (xw_lconst (0) dM_node_116 (by decide)) ?_
    refine xy_r (xg_put dM_node_117 fM_201 (mV_nu (va_up_self _ _ _) g44) (xn_le _) (Nat.le_of_ble_eq_true rfl) (fun _ => rfl) (fun _ => rfl) (mV_e (s' := (s.1, s.2.1, ((s.2.2.1.1 + 1), s.2.2.1.2.1, s.2.2.1.2.2.1, (va_up s.2.2.1.2.2.2.1 s.2.2.1.2.1 (va_up (s.2.2.1.2.2.2.1 s.2.2.1.2.1) (s.2.2.1.1).toNatClampNeg (some s.2.2.1.2.2.2.2.1))), (s.2.2.1.2.2.2.2.1 + 1), (va_up (va_up s.2.2.1.2.2.2.2.2.1 s.2.2.1.2.2.2.2.1 xN0) i43 (nNumber (nB (nA (nKind ((va_up s.2.2.1.2.2.2.2.2.1 s.2.2.1.2.2.2.2.1 xN0) i43) l1) 0) 0) 0)), (s.2.2.1.2.2.2.2.2.2.1 + 1), (s.2.2.1.2.2.2.2.2.2.2 + 16)), s.2.2.2)) (mV_pu (q := (nNumber (nB (nA (nKind ((va_up s.2.2.1.2.2.2.2.2.1 s.2.2.1.2.2.2.2.1 xN0) i43) l1) 0) 0) 0)) g44 (va_up_up _ _ _ _)) rfl)) ?_
    refine xy_r (xw_aload_n dM_node_120 rfl) ?_
    refine xy_r (xw_null dM_node_121) ?_
    refine xy_r (xg_put dM_node_122 fM_205 (mV_nu (va_up_self _ _ _) g44) (xn_le _) (Nat.le_of_ble_eq_true rfl) (fun _ => rfl) (fun _ => rfl) (mV_e (s' := (s.1, s.2.1, ((s.2.2.1.1 + 1), s.2.2.1.2.1, s.2.2.1.2.2.1, (va_up s.2.2.1.2.2.2.1 s.2.2.1.2.1 (va_up (s.2.2.1.2.2.2.1 s.2.2.1.2.1) (s.2.2.1.1).toNatClampNeg (some s.2.2.1.2.2.2.2.1))), (s.2.2.1.2.2.2.2.1 + 1), (va_up (va_up s.2.2.1.2.2.2.2.2.1 s.2.2.1.2.2.2.2.1 xN0) i43 (nFirst (nNumber (nB (nA (nKind ((va_up s.2.2.1.2.2.2.2.2.1 s.2.2.1.2.2.2.2.1 xN0) i43) l1) 0) 0) 0) none)), (s.2.2.1.2.2.2.2.2.2.1 + 1), (s.2.2.1.2.2.2.2.2.2.2 + 16)), s.2.2.2)) (mV_pu (q := (nFirst (nNumber (nB (nA (nKind ((va_up s.2.2.1.2.2.2.2.2.1 s.2.2.1.2.2.2.2.1 xN0) i43) l1) 0) 0) 0) none)) g44 (va_up_up _ _ _ _)) rfl)) ?_
    refine xy_r (xw_aload_n dM_node_125 rfl) ?_
    refine xy_r (xw_null dM_node_126) ?_
    refine xy_r (xg_put dM_node_127 fM_209 (mV_nu (va_up_self _ _ _) g44) (xn_le _) (Nat.le_of_ble_eq_true rfl) (fun _ => rfl) (fun _ => rfl) (mV_e (s' := (s.1, s.2.1, ((s.2.2.1.1 + 1), s.2.2.1.2.1, s.2.2.1.2.2.1, (va_up s.2.2.1.2.2.2.1 s.2.2.1.2.1 (va_up (s.2.2.1.2.2.2.1 s.2.2.1.2.1) (s.2.2.1.1).toNatClampNeg (some s.2.2.1.2.2.2.2.1))), (s.2.2.1.2.2.2.2.1 + 1), (va_up (va_up s.2.2.1.2.2.2.2.2.1 s.2.2.1.2.2.2.2.1 xN0) i43 (nLast (nFirst (nNumber (nB (nA (nKind ((va_up s.2.2.1.2.2.2.2.2.1 s.2.2.1.2.2.2.2.1 xN0) i43) l1) 0) 0) 0) none) none)), (s.2.2.1.2.2.2.2.2.2.1 + 1), (s.2.2.1.2.2.2.2.2.2.2 + 16)), s.2.2.2)) (mV_pu (q := (nLast (nFirst (nNumber (nB (nA (nKind ((va_up s.2.2.1.2.2.2.2.2.1 s.2.2.1.2.2.2.2.1 xN0) i43) l1) 0) 0) 0) none) none)) g44 (va_up_up _ _ _ _)) rfl)) ?_
    refine xy_r (xw_aload_n dM_node_130 rfl) ?_
    refine xy_r (xw_null dM_node_131) ?_
    refine xy_r (xg_put dM_node_132 fM_212 (mV_nu (va_up_self _ _ _) g44) (xn_le _) (Nat.le_of_ble_eq_true rfl) (fun _ => rfl) (fun _ => rfl) (mV_e (s' := (s.1, s.2.1, ((s.2.2.1.1 + 1), s.2.2.1.2.1, s.2.2.1.2.2.1, (va_up s.2.2.1.2.2.2.1 s.2.2.1.2.1 (va_up (s.2.2.1.2.2.2.1 s.2.2.1.2.1) (s.2.2.1.1).toNatClampNeg (some s.2.2.1.2.2.2.2.1))), (s.2.2.1.2.2.2.2.1 + 1), (va_up (va_up s.2.2.1.2.2.2.2.2.1 s.2.2.1.2.2.2.2.1 xN0) i43 (nNext (nLast (nFirst (nNumber (nB (nA (nKind ((va_up s.2.2.1.2.2.2.2.2.1 s.2.2.1.2.2.2.2.1 xN0) i43) l1) 0) 0) 0) none) none) none)), (s.2.2.1.2.2.2.2.2.2.1 + 1), (s.2.2.1.2.2.2.2.2.2.2 + 16)), s.2.2.2)) (mV_pu (q := (nNext (nLast (nFirst (nNumber (nB (nA (nKind ((va_up s.2.2.1.2.2.2.2.2.1 s.2.2.1.2.2.2.2.1 xN0) i43) l1) 0) 0) 0) none) none) none)) g44 (va_up_up _ _ _ _)) rfl)) ?_
    refine xy_r (xw_aload_n dM_node_135 rfl) ?_
    refine xy_r (xw_iconst (0) dM_node_136 (by decide)) ?_
    refine xy_r (xg_put dM_node_137 fM_215 (mV_nu (va_up_self _ _ _) g44) (xn_le _) (Nat.le_of_ble_eq_true rfl) (fun _ => rfl) (fun _ => rfl) (mV_e (s' := (s.1, s.2.1, ((s.2.2.1.1 + 1), s.2.2.1.2.1, s.2.2.1.2.2.1, (va_up s.2.2.1.2.2.2.1 s.2.2.1.2.1 (va_up (s.2.2.1.2.2.2.1 s.2.2.1.2.1) (s.2.2.1.1).toNatClampNeg (some s.2.2.1.2.2.2.2.1))), (s.2.2.1.2.2.2.2.1 + 1), (va_up (va_up s.2.2.1.2.2.2.2.2.1 s.2.2.1.2.2.2.2.1 xN0) i43 (nCount (nNext (nLast (nFirst (nNumber (nB (nA (nKind ((va_up s.2.2.1.2.2.2.2.2.1 s.2.2.1.2.2.2.2.1 xN0) i43) l1) 0) 0) 0) none) none) none) 0)), (s.2.2.1.2.2.2.2.2.2.1 + 1), (s.2.2.1.2.2.2.2.2.2.2 + 16)), s.2.2.2)) (mV_pu (q := (nCount (nNext (nLast (nFirst (nNumber (nB (nA (nKind ((va_up s.2.2.1.2.2.2.2.2.1 s.2.2.1.2.2.2.2.1 xN0) i43) l1) 0) 0) 0) none) none) none) 0)) g44 (va_up_up _ _ _ _)) rfl)) ?_
    refine xy_r (xw_aload_n dM_node_140 rfl) ?_
    obtain rfl := Option.some.inj hF
    exact xy_end (xw_areturn dM_node_141 rfl (Or.inl ⟨_, rfl⟩) (Nat.le_refl _) (Nat.le_refl _) ⟨rfl, rfl⟩)
  · refine xy_r (xw_Sn (st' := [.ref (xn i40)]) (by first | (rw [ei40]; done) | (rw [ei40]; rfl))) ?_
    refine xy_r (xw_ifnonnull_r 80 dM_node_61 (by decide)) ?_
    refine xy_r (xw_aload_n dM_node_80 rfl) ?_
    refine xy_r (xw_get dM_node_81 fM_25 rfl rfl) ?_
    refine xy_r (xw_aload_n dM_node_84 rfl) ?_
    refine xy_r (xw_get dM_node_85 fM_188 rfl rfl) ?_
    refine xy_r (xg_naload g39.1 (xlev g39.2.2) dM_node_88 (mV_d g39.2.1)) ?_
    refine xy_r (xg_astore_n dM_node_89 (Nat.le_of_ble_eq_true rfl)) ?_
    refine xy_r (xw_Ln (L' := [some (.ref 2000), some (.int l1), some (xw_rf (s.2.2.1.2.2.2.1 s.2.2.1.2.1 (s.2.2.1.1).toNatClampNeg)), none]) rfl) ?_
    refine xy_r (xw_aload_n dM_node_90 rfl) ?_
    refine xy_r (xw_dup_r dM_node_91) ?_
    refine xy_r (xw_get dM_node_92 fM_188 rfl rfl) ?_
    refine xy_r (xw_iconst (1) dM_node_95 (by decide)) ?_
    refine xy_r (xw_iadd dM_node_96) ?_
    refine xy_r (xg_put dM_node_97 fM_188 rfl (by decide) (Nat.le_of_ble_eq_true rfl) (fun _ => rfl) (fun _ => rfl) (mV_o (s' := (s.1, s.2.1, ((s.2.2.1.1 + 1), s.2.2.1.2), s.2.2.2)) rfl)) ?_
    refine xy_r (xg_aload_n dM_node_100 rfl) ?_
    refine xy_r (xw_iload_n dM_node_101 rfl) ?_
    obtain ⟨i45, ei45, hF⟩ := xg_b hF
    refine xy_r (xw_Ln (L' := [some (.ref 2000), some (.int l1), some (.ref (xn i45)), none]) (by first | (rw [ei45]; done) | (rw [ei45]; rfl))) ?_
    refine xy_r (xw_Sn (st' := [.int l1, .ref (xn i45)]) (by first | (rw [ei45]; done) | (rw [ei45]; rfl))) ?_
    obtain ⟨g46, hF⟩ := xg_g hF
    refine xy_r (xg_put dM_node_102 fM_192 (mV_n g46) (xn_le _) (Nat.le_of_ble_eq_true rfl) (fun _ => rfl) (fun _ => rfl) (mV_e (s' := (s.1, s.2.1, ((s.2.2.1.1 + 1), s.2.2.1.2.1, s.2.2.1.2.2.1, s.2.2.1.2.2.2.1, s.2.2.1.2.2.2.2.1, (va_up s.2.2.1.2.2.2.2.2.1 i45 (nKind (s.2.2.1.2.2.2.2.2.1 i45) l1)), s.2.2.1.2.2.2.2.2.2), s.2.2.2)) (mV_pn (q := (nKind (s.2.2.1.2.2.2.2.2.1 i45) l1)) g46) rfl)) ?_
    refine xy_r (xw_aload_n dM_node_105 rfl) ?_
    refine xy_r (xw_iconst (0) dM_node_106 (by decide)) ?_
    refine xy_r (xg_put dM_node_107 fM_195 (mV_nu (va_up_self _ _ _) g46) (xn_le _) (Nat.le_of_ble_eq_true rfl) (fun _ => rfl) (fun _ => rfl) (mV_e (s' := (s.1, s.2.1, ((s.2.2.1.1 + 1), s.2.2.1.2.1, s.2.2.1.2.2.1, s.2.2.1.2.2.2.1, s.2.2.1.2.2.2.2.1, (va_up s.2.2.1.2.2.2.2.2.1 i45 (nA (nKind (s.2.2.1.2.2.2.2.2.1 i45) l1) 0)), s.2.2.1.2.2.2.2.2.2), s.2.2.2)) (mV_pu (q := (nA (nKind (s.2.2.1.2.2.2.2.2.1 i45) l1) 0)) g46 (va_up_up _ _ _ _)) rfl)) ?_
    refine xy_r (xw_aload_n dM_node_110 rfl) ?_
    refine xy_r (xw_iconst (0) dM_node_111 (by decide)) ?_
    refine xy_r (xg_put dM_node_112 fM_198 (mV_nu (va_up_self _ _ _) g46) (xn_le _) (Nat.le_of_ble_eq_true rfl) (fun _ => rfl) (fun _ => rfl) (mV_e (s' := (s.1, s.2.1, ((s.2.2.1.1 + 1), s.2.2.1.2.1, s.2.2.1.2.2.1, s.2.2.1.2.2.2.1, s.2.2.1.2.2.2.2.1, (va_up s.2.2.1.2.2.2.2.2.1 i45 (nB (nA (nKind (s.2.2.1.2.2.2.2.2.1 i45) l1) 0) 0)), s.2.2.1.2.2.2.2.2.2), s.2.2.2)) (mV_pu (q := (nB (nA (nKind (s.2.2.1.2.2.2.2.2.1 i45) l1) 0) 0)) g46 (va_up_up _ _ _ _)) rfl)) ?_
    refine xy_r (xw_aload_n dM_node_115 rfl) ?_
    refine xy_r (xw_lconst (0) dM_node_116 (by decide)) ?_
    refine xy_r (xg_put dM_node_117 fM_201 (mV_nu (va_up_self _ _ _) g46) (xn_le _) (Nat.le_of_ble_eq_true rfl) (fun _ => rfl) (fun _ => rfl) (mV_e (s' := (s.1, s.2.1, ((s.2.2.1.1 + 1), s.2.2.1.2.1, s.2.2.1.2.2.1, s.2.2.1.2.2.2.1, s.2.2.1.2.2.2.2.1, (va_up s.2.2.1.2.2.2.2.2.1 i45 (nNumber (nB (nA (nKind (s.2.2.1.2.2.2.2.2.1 i45) l1) 0) 0) 0)), s.2.2.1.2.2.2.2.2.2), s.2.2.2)) (mV_pu (q := (nNumber (nB (nA (nKind (s.2.2.1.2.2.2.2.2.1 i45) l1) 0) 0) 0)) g46 (va_up_up _ _ _ _)) rfl)) ?_
    refine xy_r (xw_aload_n dM_node_120 rfl) ?_
    refine xy_r (xw_null dM_node_121) ?_
    refine xy_r (xg_put dM_node_122 fM_205 (mV_nu (va_up_self _ _ _) g46) (xn_le _) (Nat.le_of_ble_eq_true rfl) (fun _ => rfl) (fun _ => rfl) (mV_e (s' := (s.1, s.2.1, ((s.2.2.1.1 + 1), s.2.2.1.2.1, s.2.2.1.2.2.1, s.2.2.1.2.2.2.1, s.2.2.1.2.2.2.2.1, (va_up s.2.2.1.2.2.2.2.2.1 i45 (nFirst (nNumber (nB (nA (nKind (s.2.2.1.2.2.2.2.2.1 i45) l1) 0) 0) 0) none)), s.2.2.1.2.2.2.2.2.2), s.2.2.2)) (mV_pu (q := (nFirst (nNumber (nB (nA (nKind (s.2.2.1.2.2.2.2.2.1 i45) l1) 0) 0) 0) none)) g46 (va_up_up _ _ _ _)) rfl)) ?_
    refine xy_r (xw_aload_n dM_node_125 rfl) ?_
    refine xy_r (xw_null dM_node_126) ?_
    refine xy_r (xg_put dM_node_127 fM_209 (mV_nu (va_up_self _ _ _) g46) (xn_le _) (Nat.le_of_ble_eq_true rfl) (fun _ => rfl) (fun _ => rfl) (mV_e (s' := (s.1, s.2.1, ((s.2.2.1.1 + 1), s.2.2.1.2.1, s.2.2.1.2.2.1, s.2.2.1.2.2.2.1, s.2.2.1.2.2.2.2.1, (va_up s.2.2.1.2.2.2.2.2.1 i45 (nLast (nFirst (nNumber (nB (nA (nKind (s.2.2.1.2.2.2.2.2.1 i45) l1) 0) 0) 0) none) none)), s.2.2.1.2.2.2.2.2.2), s.2.2.2)) (mV_pu (q := (nLast (nFirst (nNumber (nB (nA (nKind (s.2.2.1.2.2.2.2.2.1 i45) l1) 0) 0) 0) none) none)) g46 (va_up_up _ _ _ _)) rfl)) ?_
    refine xy_r (xw_aload_n dM_node_130 rfl) ?_
    refine xy_r (xw_null dM_node_131) ?_
    refine xy_r (xg_put dM_node_132 fM_212 (mV_nu (va_up_self _ _ _) g46) (xn_le _) (Nat.le_of_ble_eq_true rfl) (fun _ => rfl) (fun _ => rfl) (mV_e (s' := (s.1, s.2.1, ((s.2.2.1.1 + 1), s.2.2.1.2.1, s.2.2.1.2.2.1, s.2.2.1.2.2.2.1, s.2.2.1.2.2.2.2.1, (va_up s.2.2.1.2.2.2.2.2.1 i45 (nNext (nLast (nFirst (nNumber (nB (nA (nKind (s.2.2.1.2.2.2.2.2.1 i45) l1) 0) 0) 0) none) none) none)), s.2.2.1.2.2.2.2.2.2), s.2.2.2)) (mV_pu (q := (nNext (nLast (nFirst (nNumber (nB (nA (nKind (s.2.2.1.2.2.2.2.2.1 i45) l1) 0) 0) 0) none) none) none)) g46 (va_up_up _ _ _ _)) rfl)) ?_
    refine xy_r (xw_aload_n dM_node_135 rfl) ?_
    refine xy_r (xw_iconst (0) dM_node_136 (by decide)) ?_
    refine xy_r (xg_put dM_node_137 fM_215 (mV_nu (va_up_self _ _ _) g46) (xn_le _) (Nat.le_of_ble_eq_true rfl) (fun _ => rfl) (fun _ => rfl) (mV_e (s' := (s.1, s.2.1, ((s.2.2.1.1 + 1), s.2.2.1.2.1, s.2.2.1.2.2.1, s.2.2.1.2.2.2.1, s.2.2.1.2.2.2.2.1, (va_up s.2.2.1.2.2.2.2.2.1 i45 (nCount (nNext (nLast (nFirst (nNumber (nB (nA (nKind (s.2.2.1.2.2.2.2.2.1 i45) l1) 0) 0) 0) none) none) none) 0)), s.2.2.1.2.2.2.2.2.2), s.2.2.2)) (mV_pu (q := (nCount (nNext (nLast (nFirst (nNumber (nB (nA (nKind (s.2.2.1.2.2.2.2.2.1 i45) l1) 0) 0) 0) none) none) none) 0)) g46 (va_up_up _ _ _ _)) rfl)) ?_
    refine xy_r (xw_aload_n dM_node_140 rfl) ?_
    obtain rfl := Option.some.inj hF
    exact xy_end (xw_areturn dM_node_141 rfl (Or.inl ⟨_, rfl⟩) (Nat.le_refl _) (Nat.le_refl _) ⟨rfl, rfl⟩)
set_option maxRecDepth 20000 in
theorem CM_node_24 {w : xw_G} {h : xw_H} (hb : xMb h)  : ∀ (fu : Nat) {l1 : Int32} {l2 : Nat} {l3 : Int32} {s : xMs} {out : (Nat × xMs)} {h0 : xw_H} {m0 n0 : Nat} (hm : m0 ≤ s.2.2.1.2.2.2.2.2.2.1 ∧ n0 ≤ s.2.2.1.2.2.2.2.2.2.2), FM_node_24 fu l1 l2 l3 s = some out → xw_Y w mM_node 2 60 (xw_R (some (.ref (xn out.1))) (mV out.2 h)) h0 m0 n0 s.2.2.1.2.2.2.2.2.2.1 s.2.2.1.2.2.2.2.2.2.2 out.2.2.2.1.2.2.2.2.2.2.1 out.2.2.2.1.2.2.2.2.2.2.2 24 [some (.ref 2000), some (.int l1), some (.ref (3001 + 3 * l2)), some (.int l3)] [] (mV s h) := by
  intro fu
  induction fu with
  | zero =>
    intro l1 l2 l3 s out h0 m0 n0 hm hF
    rw [FM_node_24] at hF
    cases hF
  | succ fu ih =>
    intro l1 l2 l3 s out h0 m0 n0 hm hF
    rw [FM_node_24] at hF
    refine xy_r (xw_iload_n dM_node_24 rfl) ?_
    refine xy_r (xw_aload_n dM_node_25 rfl) ?_
    refine xy_r (xw_get dM_node_26 fM_188 rfl rfl) ?_
    refine xy_br (xw_icmp_ge 47 dM_node_29 (by decide)) (fun c49 => ?_) (fun c49 => ?_)
    · replace hF := xg_t c49 hF
      refine xy_r (xw_aload_n dM_node_47 rfl) ?_
      refine xy_r (xw_aload_n dM_node_48 rfl) ?_
      refine xy_r (xg_put dM_node_49 fM_25 rfl (by decide) (Nat.le_of_ble_eq_true rfl) (fun _ => rfl) (fun _ => rfl) (mV_o (s' := (s.1, s.2.1, (s.2.2.1.1, l2, s.2.2.1.2.2), s.2.2.2)) rfl)) ?_
      refine xy_r (xw_drop (L' := [some (.ref 2000), some (.int l1), none, none]) ⟨rfl, ⟨rfl, trivial⟩⟩) ?_
      exact CM_node_52 hb (s := (s.1, s.2.1, (s.2.2.1.1, l2, s.2.2.1.2.2), s.2.2.2)) hm hF
    · replace hF := xg_f c49 hF
      refine xy_r (xw_aload_n dM_node_32 rfl) ?_
      refine xy_r (xw_iload_n dM_node_33 rfl) ?_
      refine xy_r (xw_aload_n dM_node_34 rfl) ?_
      refine xy_r (xw_get dM_node_35 fM_25 rfl rfl) ?_
      refine xy_r (xw_iload_n dM_node_38 rfl) ?_
      obtain ⟨g50, hF⟩ := xg_g hF
      refine xy_r (xg_naload g50.1 (xlev g50.2.2) dM_node_39 (mV_d g50.2.1)) ?_
      obtain ⟨i51, ei51, hF⟩ := xg_b hF
      refine xy_r (xw_Sn (st' := [.ref (xn i51), .int l3, .ref (3001 + 3 * l2)]) (by first | (rw [ei51]; done) | (rw [ei51]; rfl))) ?_
      obtain ⟨g52, hF⟩ := xg_g hF
      obtain ⟨g53, hF⟩ := xg_g hF
      refine xy_r (xg_nastore (f := (s.2.2.1.2.2.2.1 l2)) g53.1 (xlev g53.2.2) dM_node_40 (mV_d g53.2.1) (xna_le _) (mV_n g52) (mV_e (s' := (s.1, s.2.1, (s.2.2.1.1, s.2.2.1.2.1, s.2.2.1.2.2.1, (va_up s.2.2.1.2.2.2.1 l2 (va_up (s.2.2.1.2.2.2.1 l2) (l3).toNatClampNeg (some i51))), s.2.2.1.2.2.2.2), s.2.2.2)) (mV_pd g53.2.1) rfl)) ?_
      refine xy_r (xw_iinc ((l3 + 1)) dM_node_41 rfl rfl (Nat.le_of_ble_eq_true rfl)) ?_
      refine xy_r (xw_Ln (L' := [some (.ref 2000), some (.int l1), some (.ref (3001 + 3 * l2)), some (.int (l3 + 1))]) rfl) ?_
      refine xy_r (xw_goto 24 dM_node_44 (by decide)) ?_
      exact ih (s := (s.1, s.2.1, (s.2.2.1.1, s.2.2.1.2.1, s.2.2.1.2.2.1, (va_up s.2.2.1.2.2.2.1 l2 (va_up (s.2.2.1.2.2.2.1 l2) (l3).toNatClampNeg (some i51))), s.2.2.1.2.2.2.2), s.2.2.2)) hm hF
set_option maxRecDepth 20000 in
theorem CM_node {w : xw_G} {h : xw_H} (hb : xMb h) {x0 : Int32} {s : xMs} {out : (Nat × xMs)} (hF : FM_node x0 s = some out) : (s.2.2.1.2.2.2.2.2.2.1 ≤ out.2.2.2.1.2.2.2.2.2.2.1 ∧ s.2.2.1.2.2.2.2.2.2.2 ≤ out.2.2.2.1.2.2.2.2.2.2.2) ∧ xw_C w (mM_node { frames := 2, cells := out.2.2.2.1.2.2.2.2.2.2.1 - s.2.2.1.2.2.2.2.2.2.1, slots := out.2.2.2.1.2.2.2.2.2.2.2 - s.2.2.1.2.2.2.2.2.2.2, locals := 60 }) (xw_R (some (.ref (xn out.1))) (mV out.2 h)) [.ref 2000, .int x0] (mV s h) := by
  unfold FM_node at hF
  refine xy_enter (L := [some (.ref 2000), some (.int x0), none, none]) (fun _ => rfl) (fun _ => rfl) (fun _ => (show plainName "FormulaShaperModel" = true by decide +kernel)) (fun _ => (Nat.le_of_ble_eq_true rfl)) (fun _ => rfl) ?_
  have hm : s.2.2.1.2.2.2.2.2.2.1 ≤ s.2.2.1.2.2.2.2.2.2.1 ∧ s.2.2.1.2.2.2.2.2.2.2 ≤ s.2.2.1.2.2.2.2.2.2.2 := ⟨Nat.le_refl _, Nat.le_refl _⟩
  refine xy_r (xw_aload_n dM_node_0 rfl) ?_
  refine xy_r (xw_get dM_node_1 fM_188 rfl rfl) ?_
  refine xy_r (xw_aload_n dM_node_4 rfl) ?_
  refine xy_r (xw_get dM_node_5 fM_25 rfl rfl) ?_
  obtain ⟨g37, hF⟩ := xg_g hF
  refine xy_r (xw_alen (ty := fun _ => (0, .object "FormulaShaperModel$Node")) (nI (256 * 2 ^ s.2.2.1.2.1)) dM_node_8 (mV_d g37) (fun _ => rfl) rfl) ?_
  refine xy_brn (xw_icmp_ne 52 dM_node_9 (by decide)) (fun c38 => ?_) (fun c38 => ?_)
  · replace hF := xg_f c38 hF
    exact CM_node_52 hb (s := s) hm hF
  · replace hF := xg_t c38 hF
    refine xy_r (xw_iconst (2) dM_node_12 (by decide)) ?_
    refine xy_r (xw_aload_n dM_node_13 rfl) ?_
    refine xy_r (xw_get dM_node_14 fM_188 rfl rfl) ?_
    refine xy_r (xw_imul dM_node_17) ?_
    obtain ⟨g47, hF⟩ := xg_g hF
    refine xy_anew (3001 + 3 * s.2.2.1.2.2.1) 3 (256 * 2 ^ s.2.2.1.2.2.1) (fun _ => rfl) (fun _ => rfl) (fun _ => dM_node_18) (fun _ => tw_898) tw_899 (mV_df hb) (by omega) g47.1 (xlev g47.2) hm (mV_e (s' := (s.1, s.2.1, (s.2.2.1.1, s.2.2.1.2.1, (s.2.2.1.2.2.1 + 1), (va_up s.2.2.1.2.2.2.1 s.2.2.1.2.2.1 (fun _ => none)), s.2.2.1.2.2.2.2.1, s.2.2.1.2.2.2.2.2.1, (s.2.2.1.2.2.2.2.2.2.1 + 1), (s.2.2.1.2.2.2.2.2.2.2 + 256 * 2 ^ s.2.2.1.2.2.1)), s.2.2.2)) (mV_nd (f := fun _ => none) (k := (s.2.2.1.2.2.2.2.2.2.1 + 1)) (m := (s.2.2.1.2.2.2.2.2.2.2 + 256 * 2 ^ s.2.2.1.2.2.1))) rfl) ?_
    have hm48 : s.2.2.1.2.2.2.2.2.2.1 ≤ (s.2.2.1.2.2.2.2.2.2.1 + 1) ∧ s.2.2.1.2.2.2.2.2.2.2 ≤ (s.2.2.1.2.2.2.2.2.2.2 + 256 * 2 ^ s.2.2.1.2.2.1) := ⟨by omega, by omega⟩
    refine xy_r (xw_astore_n dM_node_21 (Nat.le_of_ble_eq_true rfl)) ?_
    refine xy_r (xw_Ln (L' := [some (.ref 2000), some (.int x0), some (.ref (3001 + 3 * s.2.2.1.2.2.1)), none]) rfl) ?_
    refine xy_r (xw_iconst (0) dM_node_22 (by decide)) ?_
    refine xy_r (xw_istore_n dM_node_23 (Nat.le_of_ble_eq_true rfl)) ?_
    refine xy_r (xw_Ln (L' := [some (.ref 2000), some (.int x0), some (.ref (3001 + 3 * s.2.2.1.2.2.1)), some (.int 0)]) rfl) ?_
    exact CM_node_24 hb xFuel (s := (s.1, s.2.1, (s.2.2.1.1, s.2.2.1.2.1, (s.2.2.1.2.2.1 + 1), (va_up s.2.2.1.2.2.2.1 s.2.2.1.2.2.1 (fun _ => none)), s.2.2.1.2.2.2.2.1, s.2.2.1.2.2.2.2.2.1, (s.2.2.1.2.2.2.2.2.2.1 + 1), (s.2.2.1.2.2.2.2.2.2.2 + 256 * 2 ^ s.2.2.1.2.2.1)), s.2.2.2)) hm48 hF
