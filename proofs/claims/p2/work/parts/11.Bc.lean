abbrev xB (b n : Nat) : va_E := .inr (1, [.ref b, .int (nI n)])
abbrev xBa (f : Nat → Int32) : va_E := .inl (0, 2000, .inl f)
set_option maxRecDepth 20000 in
theorem cB_size (w : xw_G) {h : xw_H} {a b n : Nat} (ha : h a = some (xB b n)) : xw_C w (mB_size { frames := 0, cells := 0, slots := 0, locals := 0 }) (fun v h1 => v = some (.int (nI n)) ∧ h1 = h, xw_nx) [.ref a] h := by
  refine xw_enter rfl (by decide +kernel) (Nat.le_of_ble_eq_true rfl) ?_
  refine xw_aload_n dB_size_0 rfl ?_
  refine xw_get dB_size_1 fB_15 ha rfl ?_
  exact xw_ireturn dB_size_4 rfl rfl (by decide) (by decide) ⟨rfl, rfl⟩
set_option maxRecDepth 20000 in
theorem cB_cut (w : xw_G) {h : xw_H} {a b n m : Nat} (ha : h a = some (xB b n)) (h1 : 1000 ≤ a) : xw_C w (mB_cut { frames := 0, cells := 0, slots := 0, locals := 0 }) (fun v h1 => v = none ∧ h1 = xw_u h a (some (xB b m)), xw_nx) [.ref a, .int (nI m)] h := by
  refine xw_enter rfl (by decide +kernel) (Nat.le_of_ble_eq_true rfl) ?_
  refine xw_aload_n dB_cut_0 rfl ?_
  refine xw_iload_n dB_cut_1 rfl ?_
  refine xw_put dB_cut_2 fB_15 ha h1 (Nat.le_of_ble_eq_true rfl) (fun _ => rfl) (fun _ => rfl) ?_
  exact xw_return dB_cut_5 rfl (by decide) (by decide) ⟨rfl, rfl⟩
/-- the byte at i, or -1 -/
def xB_at (f : Nat → Int32) (n : Nat) (i : Int32) : Int32 := if 0 ≤ i ∧ i < nI n then f i.toNatClampNeg &&& 255 else -1
set_option maxRecDepth 20000 in
theorem cB_at (w : xw_G) {h : xw_H} {a b n : Nat} {f : Nat → Int32} {i : Int32} (ha : h a = some (xB b n)) (hb : h b = some (xBa f)) (hn : n ≤ 2000) : xw_C w (mB_at { frames := 0, cells := 0, slots := 0, locals := 0 }) (fun v h1 => v = some (.int (xB_at f n i)) ∧ h1 = h, xw_nx) [.ref a, .int i] h := by
  refine xw_enter rfl (by decide +kernel) (Nat.le_of_ble_eq_true rfl) ?_
  refine xw_iload_n dB_at_0 rfl ?_
  refine xw_if_lt 25 dB_at_1 (by decide) (fun c1 => ?_) (fun c1 => ?_)
  · refine xw_iconst (-1) dB_at_25 (by decide) ?_
    exact xw_ireturn dB_at_26 rfl rfl (by decide) (by decide) ⟨by unfold xB_at; rw [if_neg (fun q => Int32.not_lt.mpr q.1 c1)], rfl⟩
  · refine xw_iload_n dB_at_4 rfl ?_
    refine xw_aload_n dB_at_5 rfl ?_
    refine xw_get dB_at_6 fB_15 ha rfl ?_
    refine xw_icmp_ge 25 dB_at_9 (by decide) (fun c9 => ?_) (fun c9 => ?_)
    · refine xw_iconst (-1) dB_at_25 (by decide) ?_
      exact xw_ireturn dB_at_26 rfl rfl (by decide) (by decide) ⟨by unfold xB_at; rw [if_neg (fun q => Int32.not_lt.mpr c9 q.2)], rfl⟩
    · refine xw_aload_n dB_at_12 rfl ?_
      refine xw_get dB_at_13 fB_9 ha rfl ?_
      refine xw_iload_n dB_at_16 rfl ?_
      obtain ⟨j, hj, rfl⟩ : ∃ j : Nat, j < n ∧ i = nI j := by
        rcases pk_ix i (n := n) (by omega) with q | q | q
        · exact absurd q c1
        · exact absurd q c9
        · exact q
      have hcl : (nI j).toNatClampNeg = j := nI_clamp (by omega)
      refine xw_baload j dB_at_17 hb rfl (by omega) (by decide) ?_
      refine xw_sipush (255) dB_at_18 (by decide) ?_
      refine xw_iand dB_at_21 ?_
      refine xw_goto 26 dB_at_22 (by decide) ?_
      exact xw_ireturn dB_at_26 rfl rfl (by decide) (by decide) ⟨by unfold xB_at; rw [if_pos ⟨Int32.not_lt.mp c1, Int32.not_le.mp c9⟩, hcl], rfl⟩
set_option maxRecDepth 20000 in
theorem cB_init (w : xw_G) {h : xw_H} {a b : Nat} (ha : h a = some (.inr (1, [.null, .int 0]))) (hb : h b = none) (h1 : 1000 ≤ a) (hb1 : 1000 ≤ b) (hab : a ≠ b) : xw_C w (mB_init { frames := 1, cells := 1, slots := 2000, locals := 20 }) (fun v h1 => v = none ∧ h1 = xw_u (xw_u h b (some (xBa (fun _ => 0)))) a (some (xB b 0)), xw_nx) [.ref a] h := by
  refine xw_enter rfl (by decide +kernel) (Nat.le_of_ble_eq_true rfl) ?_
  refine xw_aload_n dB_init_0 rfl ?_
  refine xw_objInit dB_init_1 oB_3 (by decide) (by decide) (by decide) ?_
  refine xw_aload_n dB_init_4 rfl ?_
  refine xw_sipush (2000) dB_init_5 (by decide) ?_
  refine xw_newa_b b 2000 dB_init_8 hb hb1 (by decide) (by decide) (by decide) (by decide) ?_
  refine xw_putF dB_init_10 fB_9 rfl rfl (by rw [xw_u_ne hab]; exact ha) h1 (Nat.le_of_ble_eq_true rfl) (fun _ => rfl) (fun _ => rfl) ?_
  refine xw_aload_n dB_init_13 rfl ?_
  refine xw_iconst (0) dB_init_14 (by decide) ?_
  refine xw_put dB_init_15 fB_15 xw_u_at h1 (Nat.le_of_ble_eq_true rfl) (fun _ => rfl) (fun _ => rfl) ?_
  exact xw_return dB_init_18 rfl (by decide) (by decide) ⟨rfl, by rw [xw_u_u]; rfl⟩
/-- a byte more, where there is room -/
def xB_add (f : Nat → Int32) (n : Nat) (x : Int32) : (Nat → Int32) × Nat := if n < 2000 then (upd f n x.toInt8.toInt32, n + 1) else (f, n)
set_option maxRecDepth 20000 in
theorem cB_add (w : xw_G) {h : xw_H} {a b n : Nat} {f : Nat → Int32} {x : Int32} (ha : h a = some (xB b n)) (hb : h b = some (xBa f)) (hn : n ≤ 2000) (h1 : 1000 ≤ a) (hb1 : 1000 ≤ b) (hab : a ≠ b) : xw_C w (mB_add { frames := 0, cells := 0, slots := 0, locals := 0 }) (fun v h1 => v = none ∧ h1 = xw_u (xw_u h b (some (xBa (xB_add f n x).1))) a (some (xB b (xB_add f n x).2)), xw_nx) [.ref a, .int x] h := by
  refine xw_enter rfl (by decide +kernel) (Nat.le_of_ble_eq_true rfl) ?_
  refine xw_aload_n dB_add_0 rfl ?_
  refine xw_get dB_add_1 fB_15 ha rfl ?_
  refine xw_aload_n dB_add_4 rfl ?_
  refine xw_get dB_add_5 fB_9 ha rfl ?_
  refine xw_alen (ty := fun _ => (0, .byte)) (nI 2000) dB_add_8 hb (fun _ => rfl) rfl ?_
  refine xw_icmp_ge 33 dB_add_9 (by decide) (fun c9 => ?_) (fun c9 => ?_)
  · exact xw_return dB_add_33 rfl (by decide) (by decide) ⟨rfl, by unfold xB_add; rw [if_neg (fun q => absurd c9 (nI_ge q (by omega)))]; show h = xw_u (xw_u h b (some (xBa f))) a (some (xB b n)); rw [xw_u_self hb, xw_u_self ha]⟩
  · refine xw_aload_n dB_add_12 rfl ?_
    refine xw_get dB_add_13 fB_9 ha rfl ?_
    refine xw_aload_n dB_add_16 rfl ?_
    refine xw_get dB_add_17 fB_15 ha rfl ?_
    refine xw_iload_n dB_add_20 rfl ?_
    refine xw_i2b dB_add_21 ?_
    have hlt : n < 2000 := Nat.not_le.mp (fun q => c9 (nI_le q (by omega)))
    refine xw_bastore n dB_add_22 hb hb1 rfl hlt (by decide) ?_
    refine xw_aload_n dB_add_23 rfl ?_
    refine xw_dup_r dB_add_24 ?_
    refine xw_get dB_add_25 fB_15 (by rw [xw_u_ne hab]; exact ha) rfl ?_
    refine xw_iconst (1) dB_add_28 (by decide) ?_
    refine xw_iadd dB_add_29 ?_
    refine xw_put dB_add_30 fB_15 (by rw [xw_u_ne hab]; exact ha) h1 (Nat.le_of_ble_eq_true rfl) (fun _ => rfl) (fun _ => rfl) ?_
    exact xw_return dB_add_33 rfl (by decide) (by decide) ⟨rfl, by unfold xB_add; rw [if_pos hlt]; show xw_u (xw_u h b _) a (some (.inr (1, [.ref b, .int (nI n + 1)]))) = _; rw [nI_1, pk_vb]⟩
