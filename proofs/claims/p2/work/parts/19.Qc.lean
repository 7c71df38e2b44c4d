theorem xk_mO {k : Nat} (h : k < xk_N) : (k, "java/lang/String") ∈ xk_O := List.mem_append_left _ (List.mem_map.mpr ⟨k, List.mem_range.mpr h, rfl⟩)
theorem xk_mFc {k : Nat} (h : k < xk_N) : (k, "java/lang/String", "coder", "B", Value.int 0) ∈ xk_F := List.mem_append_left _ (List.mem_map.mpr ⟨k, List.mem_range.mpr h, rfl⟩)
theorem xk_mFv {k : Nat} (h : k < xk_N) : (k, "java/lang/String", "value", "[B", Value.ref (500 + k)) ∈ xk_F := List.mem_append_right _ (List.mem_append_left _ (List.mem_map.mpr ⟨k, List.mem_range.mpr h, rfl⟩))
theorem xk_mT {k : Nat} (h : k < xk_N) : (500 + k, FieldType.byte, (xk_by k).length, fun j => Value.int ((xk_by k).getD j 0)) ∈ xk_T := List.mem_append_left _ (List.mem_map.mpr ⟨k, List.mem_range.mpr h, rfl⟩)
theorem xk_lt {k : Nat} (h : k < xk_N) : k < 100 := Nat.lt_of_lt_of_le h (by decide)
theorem xk_len : ∀ k, k < xk_N → (xk_by k).length < 100 := by decide +kernel
theorem xk_asc : ∀ k, k < xk_N → ∀ b ∈ xk_by k, ((b &&& 255).toUInt32 % 65536).toInt32 = b ∧ narrow .char (.int b) = .int b ∧ b &&& 255 = b ∧ b.toInt8.toInt32 = b ∧ 0 ≤ b ∧ b < 127 := by decide +kernel
theorem xk_cv5 {k : Nat} (h : k < xk_N) : xk_cv (.ref (500 + k)) = true := by
  have h1 : 500 + k < 1000 := by have := xk_lt h; omega
  exact decide_eq_true h1
theorem xk_in {k j : Nat} (hj : j < (xk_by k).length) : (xk_by k).getD j 0 ∈ xk_by k := by
  rw [List.getD_eq_getElem?_getD, List.getElem?_eq_getElem hj]; exact List.getElem_mem hj
set_option maxRecDepth 20000 in
theorem cQ_coder (w : xw_G) {h : xw_H} {k : Nat} (hk : k < xk_N) : xw_C w (mQ_coder { frames := 0, cells := 0, slots := 0, locals := 0 }) (fun v h1 => v = some (.int 0) ∧ h1 = h, xw_nx) [.ref k] h := by
  refine xw_enter rfl (by decide +kernel) (Nat.le_of_ble_eq_true rfl) ?_
  refine xw_getsK dQ_coder_0 tw_334 (List.mem_of_getElem? (i := 0) rfl) rfl ?_
  refine xw_if_eq 13 dQ_coder_3 (by decide) (fun q => absurd q (by decide)) (fun _ => ?_)
  refine xw_aload_n dQ_coder_6 rfl ?_
  refine xw_getK dQ_coder_7 tw_1410 (xk_mFc hk) (by have := xk_lt hk; omega) rfl ?_
  refine xw_goto 14 dQ_coder_10 (by decide) ?_
  exact xw_ireturn dQ_coder_14 rfl rfl (Nat.le_of_ble_eq_true rfl) (Nat.le_of_ble_eq_true rfl) ⟨rfl, rfl⟩
set_option maxRecDepth 20000 in
theorem cQ_isLatin1 (w : xw_G) {h : xw_H} {k : Nat} (hk : k < xk_N) : xw_C w (mQ_isLatin1 { frames := 0, cells := 0, slots := 0, locals := 0 }) (fun v h1 => v = some (.int 1) ∧ h1 = h, xw_nx) [.ref k] h := by
  refine xw_enter rfl (by decide +kernel) (Nat.le_of_ble_eq_true rfl) ?_
  refine xw_getsK dQ_isLatin1_0 tw_334 (List.mem_of_getElem? (i := 0) rfl) rfl ?_
  refine xw_if_eq 17 dQ_isLatin1_3 (by decide) (fun q => absurd q (by decide)) (fun _ => ?_)
  refine xw_aload_n dQ_isLatin1_6 rfl ?_
  refine xw_getK dQ_isLatin1_7 tw_1410 (xk_mFc hk) (by have := xk_lt hk; omega) rfl ?_
  refine xw_if_ne 17 dQ_isLatin1_10 (by decide) (fun q => absurd rfl q) (fun _ => ?_)
  refine xw_iconst 1 dQ_isLatin1_13 (by decide) ?_
  refine xw_goto 18 dQ_isLatin1_14 (by decide) ?_
  exact xw_ireturn dQ_isLatin1_18 rfl rfl (Nat.le_of_ble_eq_true rfl) (Nat.le_of_ble_eq_true rfl) ⟨rfl, rfl⟩
set_option maxRecDepth 20000 in
/-- length() -/
theorem cQ_length (w : xw_G) {h : xw_H} {k : Nat} (hk : k < xk_N) : xw_C w (mQ_length { frames := 1, cells := 0, slots := 0, locals := 20 }) (fun v h1 => v = some (.int (nI (xk_by k).length)) ∧ h1 = h, xw_nx) [.ref k] h := by
  have h1 := xk_lt hk
  refine xw_enter rfl (by decide +kernel) (Nat.le_of_ble_eq_true rfl) ?_
  refine xw_aload_n dQ_length_0 rfl ?_
  refine xw_getK dQ_length_1 tw_1409 (xk_mFv hk) (by omega) (xk_cv5 hk) ?_
  refine xw_alenK (nI (xk_by k).length) dQ_length_4 (xk_mT hk) (by omega) rfl ?_
  refine xw_aload_n dQ_length_5 rfl ?_
  refine xw_callVK (cQ_coder w hk) rfl dQ_length_6 (kQ_335 _) ⟨Nat.le_of_ble_eq_true rfl, Nat.le_of_ble_eq_true rfl⟩ rfl rfl (xk_mO hk) (by omega) (Nat.le_of_ble_eq_true rfl) (Nat.le_of_ble_eq_true rfl) (Nat.le_of_ble_eq_true rfl) ?_ (fun _ _ q => q.elim)
  rintro _ _ ⟨rfl, rfl⟩
  refine xw_ishr dQ_length_9 ?_
  exact xw_ireturn dQ_length_10 rfl rfl (Nat.le_of_ble_eq_true rfl) (Nat.le_of_ble_eq_true rfl) ⟨by rw [sc_shr0 (by have := xk_len k hk; omega)], rfl⟩
set_option maxRecDepth 20000 in
theorem cK_checkIndex (w : xw_G) {h : xw_H} {i n : Nat} {v : Value} (hi : i < n) (hn : n < 100000) (hv : v.category = 1) : xw_C w (mK_checkIndex { frames := 0, cells := 0, slots := 0, locals := 0 }) (fun v h1 => v = some (.int (nI i)) ∧ h1 = h, xw_nx) [.int (nI i), .int (nI n), v] h := by
  have hL : xw_La 3 [.int (nI i), .int (nI n), v] = [some (.int (nI i)), some (.int (nI n)), some v] := by
    show some (Value.int (nI i)) :: some (Value.int (nI n)) :: xw_La 1 [v] = _
    unfold xw_La
    rw [if_neg (by rw [hv]; decide)]
    rfl
  refine xw_enter rfl (by decide +kernel) (by show (lg_sl [.int (nI i), .int (nI n), v]).length ≤ 3; unfold lg_sl; simp only [List.flatMap_cons, List.flatMap_nil, hv]; exact Nat.le_of_ble_eq_true rfl) ?_
  rw [show (mK_checkIndex { frames := 0, cells := 0, slots := 0, locals := 0 }).2.2.1 = 3 from rfl, hL]
  refine xw_iload_n dK_checkIndex_0 rfl ?_
  refine xw_if_lt 9 dK_checkIndex_1 (by decide) (fun q => absurd q (nI_pos (by omega))) (fun _ => ?_)
  refine xw_iload_n dK_checkIndex_4 rfl ?_
  refine xw_iload_n dK_checkIndex_5 rfl ?_
  refine xw_icmp_lt 16 dK_checkIndex_6 (by decide) (fun _ => ?_) (fun q => absurd (nI_lt hi (by omega)) q)
  refine xw_iload_n dK_checkIndex_16 rfl ?_
  exact xw_ireturn dK_checkIndex_17 rfl rfl (Nat.le_of_ble_eq_true rfl) (Nat.le_of_ble_eq_true rfl) ⟨rfl, rfl⟩
set_option maxRecDepth 20000 in
theorem cQ_checkIndex (w : xw_G) {h : xw_H} {i n : Nat} (hi : i < n) (hn : n < 100000) : xw_C w (mQ_checkIndex { frames := 1, cells := 0, slots := 0, locals := 22 }) (fun v h1 => v = none ∧ h1 = h, xw_nx) [.int (nI i), .int (nI n)] h := by
  refine xw_enter rfl (by decide +kernel) (Nat.le_of_ble_eq_true rfl) ?_
  refine xw_iload_n dQ_checkIndex_0 rfl ?_
  refine xw_iload_n dQ_checkIndex_1 rfl ?_
  refine xw_getsQ dQ_checkIndex_2 tw_350 ?_ ?_
  · refine xw_callS (cK_checkIndex w hi hn rfl) rfl dQ_checkIndex_5 (kQ_1059 _) ⟨Nat.le_of_ble_eq_true rfl, Nat.le_of_ble_eq_true rfl⟩ rfl rfl (Nat.le_of_ble_eq_true rfl) (Nat.le_of_ble_eq_true rfl) (Nat.le_of_ble_eq_true rfl) ?_ (fun _ _ q => q.elim)
    rintro _ _ ⟨rfl, rfl⟩
    refine xw_pop_i dQ_checkIndex_8 ?_
    exact xw_return dQ_checkIndex_9 rfl (Nat.le_of_ble_eq_true rfl) (Nat.le_of_ble_eq_true rfl) ⟨rfl, rfl⟩
  · refine xw_callS (cK_checkIndex w hi hn rfl) rfl dQ_checkIndex_5 (kQ_1059 _) ⟨Nat.le_of_ble_eq_true rfl, Nat.le_of_ble_eq_true rfl⟩ rfl rfl (Nat.le_of_ble_eq_true rfl) (Nat.le_of_ble_eq_true rfl) (Nat.le_of_ble_eq_true rfl) ?_ (fun _ _ q => q.elim)
    rintro _ _ ⟨rfl, rfl⟩
    refine xw_pop_i dQ_checkIndex_8 ?_
    exact xw_return dQ_checkIndex_9 rfl (Nat.le_of_ble_eq_true rfl) (Nat.le_of_ble_eq_true rfl) ⟨rfl, rfl⟩
set_option maxRecDepth 20000 in
theorem cZ_charAt (w : xw_G) {h : xw_H} {k j : Nat} (hk : k < xk_N) (hj : j < (xk_by k).length) : xw_C w (mZ_charAt { frames := 2, cells := 0, slots := 0, locals := 43 }) (fun v h1 => v = some (.int ((xk_by k).getD j 0)) ∧ h1 = h, xw_nx) [.ref (500 + k), .int (nI j)] h := by
  have h1 := xk_lt hk
  have h2 := xk_len k hk
  have ha := xk_asc k hk _ (xk_in hj)
  refine xw_enter rfl (by decide +kernel) (Nat.le_of_ble_eq_true rfl) ?_
  refine xw_iload_n dZ_charAt_0 rfl ?_
  refine xw_aload_n dZ_charAt_1 rfl ?_
  refine xw_alenK (nI (xk_by k).length) dZ_charAt_2 (xk_mT hk) (by omega) rfl ?_
  refine xw_callS (cQ_checkIndex w hj (by omega)) rfl dZ_charAt_3 (kZ_9 _) ⟨Nat.le_of_ble_eq_true rfl, Nat.le_of_ble_eq_true rfl⟩ rfl rfl (Nat.le_of_ble_eq_true rfl) (Nat.le_of_ble_eq_true rfl) (Nat.le_of_ble_eq_true rfl) ?_ (fun _ _ q => q.elim)
  rintro _ _ ⟨rfl, rfl⟩
  refine xw_aload_n dZ_charAt_6 rfl ?_
  refine xw_iload_n dZ_charAt_7 rfl ?_
  refine xw_baloadK j dZ_charAt_8 (xk_mT hk) (by omega) rfl hj (by omega) rfl ?_
  refine xw_sipush 255 dZ_charAt_9 (by decide) ?_
  refine xw_iand dZ_charAt_12 ?_
  refine xw_i2c dZ_charAt_13 ?_
  exact xw_ireturn dZ_charAt_14 rfl (by rw [ha.1]; exact ha.2.1) (Nat.le_of_ble_eq_true rfl) (Nat.le_of_ble_eq_true rfl) ⟨by rw [ha.1], rfl⟩
set_option maxRecDepth 20000 in
/-- charAt(j) -/
theorem cQ_charAt (w : xw_G) {h : xw_H} {k j : Nat} (hk : k < xk_N) (hj : j < (xk_by k).length) : xw_C w (mQ_charAt { frames := 3, cells := 0, slots := 0, locals := 64 }) (fun v h1 => v = some (.int ((xk_by k).getD j 0)) ∧ h1 = h, xw_nx) [.ref k, .int (nI j)] h := by
  have h1 := xk_lt hk
  have ha := xk_asc k hk _ (xk_in hj)
  refine xw_enter rfl (by decide +kernel) (Nat.le_of_ble_eq_true rfl) ?_
  refine xw_aload_n dQ_charAt_0 rfl ?_
  refine xw_callVK (cQ_isLatin1 w hk) rfl dQ_charAt_1 (kQ_492 _) ⟨Nat.le_of_ble_eq_true rfl, Nat.le_of_ble_eq_true rfl⟩ rfl rfl (xk_mO hk) (by omega) (Nat.le_of_ble_eq_true rfl) (Nat.le_of_ble_eq_true rfl) (Nat.le_of_ble_eq_true rfl) ?_ (fun _ _ q => q.elim)
  rintro _ _ ⟨rfl, rfl⟩
  refine xw_if_eq 16 dQ_charAt_4 (by decide) (fun q => absurd q (by decide)) (fun _ => ?_)
  refine xw_aload_n dQ_charAt_7 rfl ?_
  refine xw_getK dQ_charAt_8 tw_1409 (xk_mFv hk) (by omega) (xk_cv5 hk) ?_
  refine xw_iload_n dQ_charAt_11 rfl ?_
  refine xw_callS (cZ_charAt w hk hj) rfl dQ_charAt_12 (kQ_495 _) ⟨Nat.le_of_ble_eq_true rfl, Nat.le_of_ble_eq_true rfl⟩ rfl rfl (Nat.le_of_ble_eq_true rfl) (Nat.le_of_ble_eq_true rfl) (Nat.le_of_ble_eq_true rfl) ?_ (fun _ _ q => q.elim)
  rintro _ _ ⟨rfl, rfl⟩
  exact xw_ireturn dQ_charAt_15 rfl ha.2.1 (Nat.le_of_ble_eq_true rfl) (Nat.le_of_ble_eq_true rfl) ⟨rfl, rfl⟩
