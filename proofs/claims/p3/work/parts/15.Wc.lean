theorem xB_add_le {f : Nat → Int32} {n : Nat} {x : Int32} (h : n ≤ 2000) : (xB_add f n x).2 ≤ 2000 := by unfold xB_add; split <;> simp_all <;> omega
/-- four bytes more -/
def xB_add4 (f : Nat → Int32) (n : Nat) (x : Int32) : (Nat → Int32) × Nat := let a := xB_add f n (x.toUInt32 >>> ((24 : Int32).toUInt32 &&& Int32.toUInt32 31)).toInt32; let b := xB_add a.1 a.2 (x.toUInt32 >>> ((16 : Int32).toUInt32 &&& Int32.toUInt32 31)).toInt32; let c := xB_add b.1 b.2 (x.toUInt32 >>> ((8 : Int32).toUInt32 &&& Int32.toUInt32 31)).toInt32; xB_add c.1 c.2 x
theorem xw_u2 {h : xw_H} {a b : Nat} {c1 c2 d1 d2 : Option va_E} (hab : a ≠ b) : xw_u (xw_u (xw_u (xw_u h b c1) a d1) b c2) a d2 = xw_u (xw_u h b c2) a d2 := by rw [xw_u_comm hab, xw_u_u, xw_u_u]
set_option maxRecDepth 20000 in
theorem cB_addInt (w : xw_G) {h : xw_H} {a b n : Nat} {f : Nat → Int32} {x : Int32} (ha : h a = some (xB b n)) (hb : h b = some (xBa f)) (hn : n ≤ 2000) (h1 : 1000 ≤ a) (hb1 : 1000 ≤ b) (hab : a ≠ b) : xw_C w (mB_addInt { frames := 1, cells := 0, slots := 0, locals := 40 }) (fun v h1 => v = none ∧ h1 = xw_u (xw_u h b (some (xBa (xB_add4 f n x).1))) a (some (xB b (xB_add4 f n x).2)), xw_nx) [.ref a, .int x] h := by
  refine xw_enter rfl (by decide +kernel) (Nat.le_of_ble_eq_true rfl) ?_
  refine xw_aload_n dB_addInt_0 rfl ?_
  refine xw_iload_n dB_addInt_1 rfl ?_
  refine xw_bipush (24) dB_addInt_2 (by decide) ?_
  refine xw_iushr dB_addInt_4 ?_
  refine xw_callV (cB_add w ha hb hn h1 hb1 hab) rfl dB_addInt_5 (kB_19 _) ⟨Nat.le_of_ble_eq_true rfl, Nat.le_of_ble_eq_true rfl⟩ rfl rfl ha rfl (Nat.le_of_ble_eq_true rfl) (Nat.le_of_ble_eq_true rfl) (Nat.le_of_ble_eq_true rfl) ?_ (fun _ _ q => q.elim)
  rintro _ _ ⟨rfl, rfl⟩
  refine xw_aload_n dB_addInt_8 rfl ?_
  refine xw_iload_n dB_addInt_9 rfl ?_
  refine xw_bipush (16) dB_addInt_10 (by decide) ?_
  refine xw_iushr dB_addInt_12 ?_
  refine xw_callV (cB_add w xw_u_at ((xw_u_ne (Ne.symm hab)).trans xw_u_at) (xB_add_le hn) h1 hb1 hab) rfl dB_addInt_13 (kB_19 _) ⟨Nat.le_of_ble_eq_true rfl, Nat.le_of_ble_eq_true rfl⟩ rfl rfl xw_u_at rfl (Nat.le_of_ble_eq_true rfl) (Nat.le_of_ble_eq_true rfl) (Nat.le_of_ble_eq_true rfl) ?_ (fun _ _ q => q.elim)
  rintro _ _ ⟨rfl, rfl⟩
  refine xw_aload_n dB_addInt_16 rfl ?_
  refine xw_iload_n dB_addInt_17 rfl ?_
  refine xw_bipush (8) dB_addInt_18 (by decide) ?_
  refine xw_iushr dB_addInt_20 ?_
  refine xw_callV (cB_add w xw_u_at ((xw_u_ne (Ne.symm hab)).trans xw_u_at) (xB_add_le (xB_add_le hn)) h1 hb1 hab) rfl dB_addInt_21 (kB_19 _) ⟨Nat.le_of_ble_eq_true rfl, Nat.le_of_ble_eq_true rfl⟩ rfl rfl xw_u_at rfl (Nat.le_of_ble_eq_true rfl) (Nat.le_of_ble_eq_true rfl) (Nat.le_of_ble_eq_true rfl) ?_ (fun _ _ q => q.elim)
  rintro _ _ ⟨rfl, rfl⟩
  refine xw_aload_n dB_addInt_24 rfl ?_
  refine xw_iload_n dB_addInt_25 rfl ?_
  refine xw_callV (cB_add w xw_u_at ((xw_u_ne (Ne.symm hab)).trans xw_u_at) (xB_add_le (xB_add_le (xB_add_le hn))) h1 hb1 hab) rfl dB_addInt_26 (kB_19 _) ⟨Nat.le_of_ble_eq_true rfl, Nat.le_of_ble_eq_true rfl⟩ rfl rfl xw_u_at rfl (Nat.le_of_ble_eq_true rfl) (Nat.le_of_ble_eq_true rfl) (Nat.le_of_ble_eq_true rfl) ?_ (fun _ _ q => q.elim)
  rintro _ _ ⟨rfl, rfl⟩
  exact xw_return dB_addInt_29 rfl (Nat.le_of_ble_eq_true rfl) (Nat.le_of_ble_eq_true rfl) ⟨rfl, by rw [xw_u2 hab, xw_u2 hab, xw_u2 hab]; rfl⟩
theorem xB_add4_le {f : Nat → Int32} {n : Nat} {x : Int32} (h : n ≤ 2000) : (xB_add4 f n x).2 ≤ 2000 := xB_add_le (xB_add_le (xB_add_le (xB_add_le h)))
abbrev xT (n : Nat) : va_E := .inr (2, [.ref 1006, .ref 1007, .int (nI n)])
abbrev xTa (f : Nat → Int32) : va_E := .inl (1, 2001, .inl f)
set_option maxRecDepth 20000 in
theorem cT_clear (w : xw_G) {h : xw_H} {n : Nat} (ha : h 1005 = some (xT n)) : xw_C w (mT_clear { frames := 0, cells := 0, slots := 0, locals := 0 }) (fun v h1 => v = none ∧ h1 = xw_u h 1005 (some (xT 0)), xw_nx) [.ref 1005] h := by
  refine xw_enter rfl (by decide +kernel) (Nat.le_of_ble_eq_true rfl) ?_
  refine xw_aload_n dT_clear_0 rfl ?_
  refine xw_iconst (0) dT_clear_1 (by decide) ?_
  refine xw_put dT_clear_2 fT_18 ha (by decide) (Nat.le_of_ble_eq_true rfl) (fun _ => rfl) (fun _ => rfl) ?_
  exact xw_return dT_clear_5 rfl (Nat.le_of_ble_eq_true rfl) (Nat.le_of_ble_eq_true rfl) ⟨rfl, rfl⟩
set_option maxRecDepth 20000 in
theorem cT_init (w : xw_G) {h : xw_H} (ha : h 1005 = some (.inr (2, [.null, .null, .int 0]))) (f6 : h 1006 = none) (f7 : h 1007 = none) : xw_C w (mT_init { frames := 1, cells := 2, slots := 4002, locals := 20 }) (fun v h1 => v = none ∧ h1 = xw_u (xw_u (xw_u h 1006 (some (xTa (fun _ => 0)))) 1007 (some (xTa (fun _ => 0)))) 1005 (some (xT 0)), xw_nx) [.ref 1005] h := by
  refine xw_enter rfl (by decide +kernel) (Nat.le_of_ble_eq_true rfl) ?_
  refine xw_aload_n dT_init_0 rfl ?_
  refine xw_objInit dT_init_1 oT_3 (Nat.le_of_ble_eq_true rfl) (Nat.le_of_ble_eq_true rfl) (Nat.le_of_ble_eq_true rfl) ?_
  refine xw_aload_n dT_init_4 rfl ?_
  refine xw_sipush (2001) dT_init_5 (by decide) ?_
  refine xw_newa_i 1006 2001 dT_init_8 f6 (by decide) rfl (by decide) (Nat.le_of_ble_eq_true rfl) (Nat.le_of_ble_eq_true rfl) ?_
  refine xw_putF dT_init_10 fT_9 rfl rfl ((xw_u_ne (by decide)).trans ha) (by decide) (Nat.le_of_ble_eq_true rfl) (fun _ => rfl) (fun _ => rfl) ?_
  refine xw_aload_n dT_init_13 rfl ?_
  refine xw_sipush (2001) dT_init_14 (by decide) ?_
  refine xw_newa_i 1007 2001 dT_init_17 ((xw_u_ne (by decide)).trans ((xw_u_ne (by decide)).trans f7)) (by decide) rfl (by decide) (Nat.le_of_ble_eq_true rfl) (Nat.le_of_ble_eq_true rfl) ?_
  refine xw_putF dT_init_19 fT_15 rfl rfl ((xw_u_ne (by decide)).trans xw_u_at) (by decide) (Nat.le_of_ble_eq_true rfl) (fun _ => rfl) (fun _ => rfl) ?_
  refine xw_aload_n dT_init_22 rfl ?_
  refine xw_iconst (0) dT_init_23 (by decide) ?_
  refine xw_put dT_init_24 fT_18 xw_u_at (by decide) (Nat.le_of_ble_eq_true rfl) (fun _ => rfl) (fun _ => rfl) ?_
  exact xw_return dT_init_27 rfl (Nat.le_of_ble_eq_true rfl) (Nat.le_of_ble_eq_true rfl) ⟨rfl, by rw [xw_u_u, xw_u_comm (a := 1005) (b := 1007) (by decide), xw_u_u]; rfl⟩
def xT_at (f : Nat → Int32) (n : Nat) (i d : Int32) : Int32 := if 0 ≤ i ∧ i < nI n then f i.toNatClampNeg else d
set_option maxRecDepth 20000 in
theorem cT_kindAt (w : xw_G) {h : xw_H} {n : Nat} {f : Nat → Int32} {i : Int32} (ha : h 1005 = some (xT n)) (hf : h 1006 = some (xTa f)) (hn : n ≤ 2001) : xw_C w (mT_kindAt { frames := 0, cells := 0, slots := 0, locals := 0 }) (fun v h1 => v = some (.int (xT_at f n i 256)) ∧ h1 = h, xw_nx) [.ref 1005, .int i] h := by
  refine xw_enter rfl (by decide +kernel) (Nat.le_of_ble_eq_true rfl) ?_
  refine xw_iload_n dT_kindAt_0 rfl ?_
  refine xw_if_lt 21 dT_kindAt_1 (by decide) (fun c1_0 => ?_) (fun c1_0 => ?_)
  · refine xw_sipush (256) dT_kindAt_21 (by decide) ?_
    exact xw_ireturn dT_kindAt_24 rfl rfl (Nat.le_of_ble_eq_true rfl) (Nat.le_of_ble_eq_true rfl) ⟨by unfold xT_at; rw [if_neg (fun q => Int32.not_lt.mpr q.1 c1_0)], rfl⟩
  · refine xw_iload_n dT_kindAt_4 rfl ?_
    refine xw_aload_n dT_kindAt_5 rfl ?_
    refine xw_get dT_kindAt_6 fT_18 ha rfl ?_
    refine xw_icmp_ge 21 dT_kindAt_9 (by decide) (fun c9_1 => ?_) (fun c9_1 => ?_)
    · refine xw_sipush (256) dT_kindAt_21 (by decide) ?_
      exact xw_ireturn dT_kindAt_24 rfl rfl (Nat.le_of_ble_eq_true rfl) (Nat.le_of_ble_eq_true rfl) ⟨by unfold xT_at; rw [if_neg (fun q => Int32.not_lt.mpr c9_1 q.2)], rfl⟩
    · refine xw_aload_n dT_kindAt_12 rfl ?_
      refine xw_get dT_kindAt_13 fT_9 ha rfl ?_
      refine xw_iload_n dT_kindAt_16 rfl ?_
      obtain ⟨j, hj, rfl⟩ : ∃ j : Nat, j < n ∧ i = nI j := by
        rcases pk_ix i (n := n) (by omega) with q1 | q1 | q1
        · exact absurd q1 c1_0
        · exact absurd q1 c9_1
        · exact q1
      have hcl : (nI j).toNatClampNeg = j := nI_clamp (by omega)
      refine xw_iaload j dT_kindAt_17 hf rfl (by omega) (by decide) ?_
      refine xw_goto 24 dT_kindAt_18 (by decide) ?_
      exact xw_ireturn dT_kindAt_24 rfl rfl (Nat.le_of_ble_eq_true rfl) (Nat.le_of_ble_eq_true rfl) ⟨by unfold xT_at; rw [if_pos ⟨Int32.not_lt.mp c1_0, Int32.not_le.mp c9_1⟩, hcl], rfl⟩
set_option maxRecDepth 20000 in
theorem cT_placeAt (w : xw_G) {h : xw_H} {n : Nat} {q : Nat → Int32} {i : Int32} (ha : h 1005 = some (xT n)) (hq : h 1007 = some (xTa q)) (hn : n ≤ 2001) : xw_C w (mT_placeAt { frames := 0, cells := 0, slots := 0, locals := 0 }) (fun v h1 => v = some (.int (xT_at q n i (-1))) ∧ h1 = h, xw_nx) [.ref 1005, .int i] h := by
  refine xw_enter rfl (by decide +kernel) (Nat.le_of_ble_eq_true rfl) ?_
  refine xw_iload_n dT_placeAt_0 rfl ?_
  refine xw_if_lt 21 dT_placeAt_1 (by decide) (fun c1_0 => ?_) (fun c1_0 => ?_)
  · refine xw_iconst (-1) dT_placeAt_21 (by decide) ?_
    exact xw_ireturn dT_placeAt_22 rfl rfl (Nat.le_of_ble_eq_true rfl) (Nat.le_of_ble_eq_true rfl) ⟨by unfold xT_at; rw [if_neg (fun q => Int32.not_lt.mpr q.1 c1_0)], rfl⟩
  · refine xw_iload_n dT_placeAt_4 rfl ?_
    refine xw_aload_n dT_placeAt_5 rfl ?_
    refine xw_get dT_placeAt_6 fT_18 ha rfl ?_
    refine xw_icmp_ge 21 dT_placeAt_9 (by decide) (fun c9_1 => ?_) (fun c9_1 => ?_)
    · refine xw_iconst (-1) dT_placeAt_21 (by decide) ?_
      exact xw_ireturn dT_placeAt_22 rfl rfl (Nat.le_of_ble_eq_true rfl) (Nat.le_of_ble_eq_true rfl) ⟨by unfold xT_at; rw [if_neg (fun q => Int32.not_lt.mpr c9_1 q.2)], rfl⟩
    · refine xw_aload_n dT_placeAt_12 rfl ?_
      refine xw_get dT_placeAt_13 fT_15 ha rfl ?_
      refine xw_iload_n dT_placeAt_16 rfl ?_
      obtain ⟨j, hj, rfl⟩ : ∃ j : Nat, j < n ∧ i = nI j := by
        rcases pk_ix i (n := n) (by omega) with q1 | q1 | q1
        · exact absurd q1 c1_0
        · exact absurd q1 c9_1
        · exact q1
      have hcl : (nI j).toNatClampNeg = j := nI_clamp (by omega)
      refine xw_iaload j dT_placeAt_17 hq rfl (by omega) (by decide) ?_
      refine xw_goto 22 dT_placeAt_18 (by decide) ?_
      exact xw_ireturn dT_placeAt_22 rfl rfl (Nat.le_of_ble_eq_true rfl) (Nat.le_of_ble_eq_true rfl) ⟨by unfold xT_at; rw [if_pos ⟨Int32.not_lt.mp c1_0, Int32.not_le.mp c9_1⟩, hcl], rfl⟩
def xT_add (f : Nat → Int32) (n : Nat) (x : Int32) : Nat → Int32 := if n < 2001 then upd f n x else f
def xT_n (n : Nat) : Nat := if n < 2001 then n + 1 else n
set_option maxRecDepth 20000 in
theorem cT_add (w : xw_G) {h : xw_H} {n : Nat} {f q : Nat → Int32} (ha : h 1005 = some (xT n)) (hf : h 1006 = some (xTa f)) (hq : h 1007 = some (xTa q)) {x y : Int32} (hn : n ≤ 2001) : xw_C w (mT_add { frames := 0, cells := 0, slots := 0, locals := 0 }) (fun v h1 => v = none ∧ h1 = xw_u (xw_u (xw_u h 1006 (some (xTa (xT_add f n x)))) 1007 (some (xTa (xT_add q n y)))) 1005 (some (xT (xT_n n))), xw_nx) [.ref 1005, .int x, .int y] h := by
  refine xw_enter rfl (by decide +kernel) (Nat.le_of_ble_eq_true rfl) ?_
  refine xw_aload_n dT_add_0 rfl ?_
  refine xw_get dT_add_1 fT_18 ha rfl ?_
  refine xw_aload_n dT_add_4 rfl ?_
  refine xw_get dT_add_5 fT_9 ha rfl ?_
  refine xw_alen (ty := fun _ => (0, .int)) (nI 2001) dT_add_8 hf (fun _ => rfl) rfl ?_
  refine xw_icmp_ge 42 dT_add_9 (by decide) (fun c9_0 => ?_) (fun c9_0 => ?_)
  · exact xw_return dT_add_42 rfl (Nat.le_of_ble_eq_true rfl) (Nat.le_of_ble_eq_true rfl) ⟨rfl, by have e : ¬ n < 2001 := fun q => absurd c9_0 (nI_ge q (by omega)); unfold xT_add xT_n; rw [if_neg e, if_neg e, if_neg e, xw_u_self hf, xw_u_self hq, xw_u_self ha]⟩
  · refine xw_aload_n dT_add_12 rfl ?_
    refine xw_get dT_add_13 fT_9 ha rfl ?_
    refine xw_aload_n dT_add_16 rfl ?_
    refine xw_get dT_add_17 fT_18 ha rfl ?_
    refine xw_iload_n dT_add_20 rfl ?_
    have hlt : n < 2001 := Nat.not_le.mp (fun q => c9_0 (nI_le q (by omega)))
    refine xw_iastore n dT_add_21 hf (by decide) rfl hlt (by decide) ?_
    refine xw_aload_n dT_add_22 rfl ?_
    refine xw_get dT_add_23 fT_15 ((xw_u_ne (by decide)).trans ha) rfl ?_
    refine xw_aload_n dT_add_26 rfl ?_
    refine xw_get dT_add_27 fT_18 ((xw_u_ne (by decide)).trans ha) rfl ?_
    refine xw_iload_n dT_add_30 rfl ?_
    refine xw_iastore n dT_add_31 ((xw_u_ne (by decide)).trans hq) (by decide) rfl hlt (by decide) ?_
    refine xw_aload_n dT_add_32 rfl ?_
    refine xw_dup_r dT_add_33 ?_
    refine xw_get dT_add_34 fT_18 ((xw_u_ne (by decide)).trans ((xw_u_ne (by decide)).trans ha)) rfl ?_
    refine xw_iconst (1) dT_add_37 (by decide) ?_
    refine xw_iadd dT_add_38 ?_
    refine xw_put dT_add_39 fT_18 ((xw_u_ne (by decide)).trans ((xw_u_ne (by decide)).trans ha)) (by decide) (Nat.le_of_ble_eq_true rfl) (fun _ => rfl) (fun _ => rfl) ?_
    exact xw_return dT_add_42 rfl (Nat.le_of_ble_eq_true rfl) (Nat.le_of_ble_eq_true rfl) ⟨rfl, by unfold xT_add xT_n; rw [if_pos hlt, if_pos hlt, if_pos hlt, nI_1]; rfl⟩
abbrev xF (b n : Nat) (wd : Int32) (rf : Int32) : va_E := .inr (3, [.ref b, .int (nI n), .int wd, .int rf])
abbrev xFa (f : Nat → Int64) : va_E := .inl (2, 1000, .inr (.inl f))
set_option maxRecDepth 20000 in
theorem cF_init (w : xw_G) {h : xw_H} {a b : Nat} (ha : h a = some (.inr (3, [.null, .int 0, .int 0, .int 0]))) (fb : h b = none) (h1 : 1000 ≤ a) (hb1 : 1000 ≤ b) (hab : a ≠ b) : xw_C w (mF_init { frames := 1, cells := 1, slots := 1000, locals := 20 }) (fun v h1 => v = none ∧ h1 = xw_u (xw_u h b (some (xFa (fun _ => 0)))) a (some (xF b 0 0 0)), xw_nx) [.ref a] h := by
  refine xw_enter rfl (by decide +kernel) (Nat.le_of_ble_eq_true rfl) ?_
  refine xw_aload_n dF_init_0 rfl ?_
  refine xw_objInit dF_init_1 oF_3 (Nat.le_of_ble_eq_true rfl) (Nat.le_of_ble_eq_true rfl) (Nat.le_of_ble_eq_true rfl) ?_
  refine xw_aload_n dF_init_4 rfl ?_
  refine xw_sipush (1000) dF_init_5 (by decide) ?_
  refine xw_newa_l b 1000 dF_init_8 fb hb1 rfl (by decide) (Nat.le_of_ble_eq_true rfl) (Nat.le_of_ble_eq_true rfl) ?_
  refine xw_putF dF_init_10 fF_9 rfl rfl ((xw_u_ne hab).trans ha) h1 (Nat.le_of_ble_eq_true rfl) (fun _ => rfl) (fun _ => rfl) ?_
  refine xw_aload_n dF_init_13 rfl ?_
  refine xw_iconst (0) dF_init_14 (by decide) ?_
  refine xw_put dF_init_15 fF_15 xw_u_at h1 (Nat.le_of_ble_eq_true rfl) (fun _ => rfl) (fun _ => rfl) ?_
  refine xw_aload_n dF_init_18 rfl ?_
  refine xw_iconst (0) dF_init_19 (by decide) ?_
  refine xw_put dF_init_20 fF_19 xw_u_at h1 (Nat.le_of_ble_eq_true rfl) (fun _ => rfl) (fun _ => rfl) ?_
  refine xw_aload_n dF_init_23 rfl ?_
  refine xw_iconst (0) dF_init_24 (by decide) ?_
  refine xw_put dF_init_25 fF_22 xw_u_at h1 (Nat.le_of_ble_eq_true rfl) (fun _ => rfl) (fun _ => rfl) ?_
  exact xw_return dF_init_28 rfl (Nat.le_of_ble_eq_true rfl) (Nat.le_of_ble_eq_true rfl) ⟨rfl, by rw [xw_u_u, xw_u_u, xw_u_u]; rfl⟩
set_option maxRecDepth 20000 in
theorem cF_clear (w : xw_G) {h : xw_H} {a b n : Nat} {wd rf : Int32} (ha : h a = some (xF b n wd rf)) (h1 : 1000 ≤ a) : xw_C w (mF_clear { frames := 0, cells := 0, slots := 0, locals := 0 }) (fun v h1 => v = none ∧ h1 = xw_u h a (some (xF b 0 0 0)), xw_nx) [.ref a] h := by
  refine xw_enter rfl (by decide +kernel) (Nat.le_of_ble_eq_true rfl) ?_
  refine xw_aload_n dF_clear_0 rfl ?_
  refine xw_iconst (0) dF_clear_1 (by decide) ?_
  refine xw_put dF_clear_2 fF_15 ha h1 (Nat.le_of_ble_eq_true rfl) (fun _ => rfl) (fun _ => rfl) ?_
  refine xw_aload_n dF_clear_5 rfl ?_
  refine xw_iconst (0) dF_clear_6 (by decide) ?_
  refine xw_put dF_clear_7 fF_19 xw_u_at h1 (Nat.le_of_ble_eq_true rfl) (fun _ => rfl) (fun _ => rfl) ?_
  refine xw_aload_n dF_clear_10 rfl ?_
  refine xw_iconst (0) dF_clear_11 (by decide) ?_
  refine xw_put dF_clear_12 fF_22 xw_u_at h1 (Nat.le_of_ble_eq_true rfl) (fun _ => rfl) (fun _ => rfl) ?_
  exact xw_return dF_clear_15 rfl (Nat.le_of_ble_eq_true rfl) (Nat.le_of_ble_eq_true rfl) ⟨rfl, by rw [xw_u_u, xw_u_u]; rfl⟩
set_option maxRecDepth 20000 in
theorem cF_width (w : xw_G) {h : xw_H} {a b n : Nat} {wd rf : Int32} (ha : h a = some (xF b n wd rf))  : xw_C w (mF_width { frames := 0, cells := 0, slots := 0, locals := 0 }) (fun v h1 => v = some (.int wd) ∧ h1 = h, xw_nx) [.ref a] h := by
  refine xw_enter rfl (by decide +kernel) (Nat.le_of_ble_eq_true rfl) ?_
  refine xw_aload_n dF_width_0 rfl ?_
  refine xw_get dF_width_1 fF_19 ha rfl ?_
  exact xw_ireturn dF_width_4 rfl rfl (Nat.le_of_ble_eq_true rfl) (Nat.le_of_ble_eq_true rfl) ⟨rfl, rfl⟩
set_option maxRecDepth 20000 in
theorem cF_references (w : xw_G) {h : xw_H} {a b n : Nat} {wd rf : Int32} (ha : h a = some (xF b n wd rf))  : xw_C w (mF_references { frames := 0, cells := 0, slots := 0, locals := 0 }) (fun v h1 => v = some (.int rf) ∧ h1 = h, xw_nx) [.ref a] h := by
  refine xw_enter rfl (by decide +kernel) (Nat.le_of_ble_eq_true rfl) ?_
  refine xw_aload_n dF_references_0 rfl ?_
  refine xw_get dF_references_1 fF_22 ha rfl ?_
  exact xw_ireturn dF_references_4 rfl rfl (Nat.le_of_ble_eq_true rfl) (Nat.le_of_ble_eq_true rfl) ⟨rfl, rfl⟩
