theorem xT_n_le {n : Nat} (h : n ≤ 2001) : xT_n n ≤ 2001 := by unfold xT_n; split <;> omega
abbrev xS (fo sp : Nat) (pr pl : Int32) : va_E := .inr (0, [.ref 1001, .ref 1003, .ref 1005, .ref fo, .ref sp, .int pr, .int pl])
/-- what the class holds at its start -/
def xS_new (h h1 : xw_H) : Prop := h1 1000 = some (xS 1008 1010 0 (-1)) ∧ h1 1001 = some (xB 1002 0) ∧ h1 1002 = some (xBa (fun _ => 0)) ∧ h1 1003 = some (xB 1004 0) ∧ h1 1004 = some (xBa (fun _ => 0)) ∧ h1 1005 = some (xT 0) ∧ h1 1006 = some (xTa (fun _ => 0)) ∧ h1 1007 = some (xTa (fun _ => 0)) ∧ h1 1008 = some (xF 1009 0 0 0) ∧ h1 1009 = some (xFa (fun _ => 0)) ∧ h1 1010 = some (xF 1011 0 0 0) ∧ h1 1011 = some (xFa (fun _ => 0)) ∧ ∀ x, (x < 1000 ∨ 1011 < x) → h1 x = h x
set_option maxRecDepth 20000 in
theorem cS_init (w : xw_G) {h : xw_H} (ha : h 1000 = some (.inr (0, [.null, .null, .null, .null, .null, .int 0, .int 0]))) (fr : ∀ x, 1001 ≤ x → x ≤ 1011 → h x = none) : xw_C w (mS_init { frames := 2, cells := 11, slots := 10017, locals := 60 }) (fun v h1 => v = none ∧ xS_new h h1, xw_nx) [.ref 1000] h := by
  refine xw_enter rfl (by decide +kernel) (Nat.le_of_ble_eq_true rfl) ?_
  refine xw_aload_n dS_init_0 rfl ?_
  refine xw_objInit dS_init_1 oS_1 (Nat.le_of_ble_eq_true rfl) (Nat.le_of_ble_eq_true rfl) (Nat.le_of_ble_eq_true rfl) ?_
  refine xw_aload_n dS_init_4 rfl ?_
  refine xw_new 1001 dS_init_5 nS_7 (fr 1001 (by decide) (by decide)) (by decide) (Nat.le_of_ble_eq_true rfl) (Nat.le_of_ble_eq_true rfl) ?_
  refine xw_dup_r dS_init_8 ?_
  refine xw_callI (cB_init w (b := 1002) xw_u_at ((xw_u_ne (by decide)).trans (fr 1002 (by decide) (by decide))) (by decide) (by decide) (by decide)) rfl dS_init_9 (kS_9 _) ⟨Nat.le_of_ble_eq_true rfl, Nat.le_of_ble_eq_true rfl⟩ rfl rfl (Nat.le_of_ble_eq_true rfl) (fun _ _ q => q) (Nat.le_of_ble_eq_true rfl) (Nat.le_of_ble_eq_true rfl) ?_
  rintro _ _ ⟨rfl, rfl⟩
  refine xw_putF dS_init_12 fS_10 rfl rfl ((xw_u_ne (by decide)).trans ((xw_u_ne (by decide)).trans ((xw_u_ne (by decide)).trans ha))) (by decide) (Nat.le_of_ble_eq_true rfl) (fun _ => rfl) (fun _ => rfl) ?_
  refine xw_aload_n dS_init_15 rfl ?_
  refine xw_new 1003 dS_init_16 nS_7 ((xw_u_ne (by decide)).trans ((xw_u_ne (by decide)).trans ((xw_u_ne (by decide)).trans ((xw_u_ne (by decide)).trans (fr 1003 (by decide) (by decide)))))) (by decide) (Nat.le_of_ble_eq_true rfl) (Nat.le_of_ble_eq_true rfl) ?_
  refine xw_dup_r dS_init_19 ?_
  refine xw_callI (cB_init w (b := 1004) xw_u_at ((xw_u_ne (by decide)).trans ((xw_u_ne (by decide)).trans ((xw_u_ne (by decide)).trans ((xw_u_ne (by decide)).trans ((xw_u_ne (by decide)).trans (fr 1004 (by decide) (by decide))))))) (by decide) (by decide) (by decide)) rfl dS_init_20 (kS_9 _) ⟨Nat.le_of_ble_eq_true rfl, Nat.le_of_ble_eq_true rfl⟩ rfl rfl (Nat.le_of_ble_eq_true rfl) (fun _ _ q => q) (Nat.le_of_ble_eq_true rfl) (Nat.le_of_ble_eq_true rfl) ?_
  rintro _ _ ⟨rfl, rfl⟩
  refine xw_putF dS_init_23 fS_16 rfl rfl ((xw_u_ne (by decide)).trans ((xw_u_ne (by decide)).trans ((xw_u_ne (by decide)).trans xw_u_at))) (by decide) (Nat.le_of_ble_eq_true rfl) (fun _ => rfl) (fun _ => rfl) ?_
  refine xw_aload_n dS_init_26 rfl ?_
  refine xw_new 1005 dS_init_27 nS_19 ((xw_u_ne (by decide)).trans ((xw_u_ne (by decide)).trans ((xw_u_ne (by decide)).trans ((xw_u_ne (by decide)).trans ((xw_u_ne (by decide)).trans ((xw_u_ne (by decide)).trans ((xw_u_ne (by decide)).trans ((xw_u_ne (by decide)).trans (fr 1005 (by decide) (by decide)))))))))) (by decide) (Nat.le_of_ble_eq_true rfl) (Nat.le_of_ble_eq_true rfl) ?_
  refine xw_dup_r dS_init_30 ?_
  refine xw_callI (cT_init w xw_u_at ((xw_u_ne (by decide)).trans ((xw_u_ne (by decide)).trans ((xw_u_ne (by decide)).trans ((xw_u_ne (by decide)).trans ((xw_u_ne (by decide)).trans ((xw_u_ne (by decide)).trans ((xw_u_ne (by decide)).trans ((xw_u_ne (by decide)).trans ((xw_u_ne (by decide)).trans (fr 1006 (by decide) (by decide))))))))))) ((xw_u_ne (by decide)).trans ((xw_u_ne (by decide)).trans ((xw_u_ne (by decide)).trans ((xw_u_ne (by decide)).trans ((xw_u_ne (by decide)).trans ((xw_u_ne (by decide)).trans ((xw_u_ne (by decide)).trans ((xw_u_ne (by decide)).trans ((xw_u_ne (by decide)).trans (fr 1007 (by decide) (by decide)))))))))))) rfl dS_init_31 (kS_21 _) ⟨Nat.le_of_ble_eq_true rfl, Nat.le_of_ble_eq_true rfl⟩ rfl rfl (Nat.le_of_ble_eq_true rfl) (fun _ _ q => q) (Nat.le_of_ble_eq_true rfl) (Nat.le_of_ble_eq_true rfl) ?_
  rintro _ _ ⟨rfl, rfl⟩
  refine xw_putF dS_init_34 fS_22 rfl rfl ((xw_u_ne (by decide)).trans ((xw_u_ne (by decide)).trans ((xw_u_ne (by decide)).trans ((xw_u_ne (by decide)).trans xw_u_at)))) (by decide) (Nat.le_of_ble_eq_true rfl) (fun _ => rfl) (fun _ => rfl) ?_
  refine xw_aload_n dS_init_37 rfl ?_
  refine xw_new 1008 dS_init_38 nS_26 ((xw_u_ne (by decide)).trans ((xw_u_ne (by decide)).trans ((xw_u_ne (by decide)).trans ((xw_u_ne (by decide)).trans ((xw_u_ne (by decide)).trans ((xw_u_ne (by decide)).trans ((xw_u_ne (by decide)).trans ((xw_u_ne (by decide)).trans ((xw_u_ne (by decide)).trans ((xw_u_ne (by decide)).trans ((xw_u_ne (by decide)).trans ((xw_u_ne (by decide)).trans ((xw_u_ne (by decide)).trans (fr 1008 (by decide) (by decide))))))))))))))) (by decide) (Nat.le_of_ble_eq_true rfl) (Nat.le_of_ble_eq_true rfl) ?_
  refine xw_dup_r dS_init_41 ?_
  refine xw_callI (cF_init w (b := 1009) xw_u_at ((xw_u_ne (by decide)).trans ((xw_u_ne (by decide)).trans ((xw_u_ne (by decide)).trans ((xw_u_ne (by decide)).trans ((xw_u_ne (by decide)).trans ((xw_u_ne (by decide)).trans ((xw_u_ne (by decide)).trans ((xw_u_ne (by decide)).trans ((xw_u_ne (by decide)).trans ((xw_u_ne (by decide)).trans ((xw_u_ne (by decide)).trans ((xw_u_ne (by decide)).trans ((xw_u_ne (by decide)).trans ((xw_u_ne (by decide)).trans (fr 1009 (by decide) (by decide)))))))))))))))) (by decide) (by decide) (by decide)) rfl dS_init_42 (kS_28 _) ⟨Nat.le_of_ble_eq_true rfl, Nat.le_of_ble_eq_true rfl⟩ rfl rfl (Nat.le_of_ble_eq_true rfl) (fun _ _ q => q) (Nat.le_of_ble_eq_true rfl) (Nat.le_of_ble_eq_true rfl) ?_
  rintro _ _ ⟨rfl, rfl⟩
  refine xw_put dS_init_45 fS_29 ((xw_u_ne (by decide)).trans ((xw_u_ne (by decide)).trans ((xw_u_ne (by decide)).trans xw_u_at))) (by decide) (Nat.le_of_ble_eq_true rfl) (fun _ => rfl) (fun _ => rfl) ?_
  refine xw_aload_n dS_init_48 rfl ?_
  refine xw_new 1010 dS_init_49 nS_26 ((xw_u_ne (by decide)).trans ((xw_u_ne (by decide)).trans ((xw_u_ne (by decide)).trans ((xw_u_ne (by decide)).trans ((xw_u_ne (by decide)).trans ((xw_u_ne (by decide)).trans ((xw_u_ne (by decide)).trans ((xw_u_ne (by decide)).trans ((xw_u_ne (by decide)).trans ((xw_u_ne (by decide)).trans ((xw_u_ne (by decide)).trans ((xw_u_ne (by decide)).trans ((xw_u_ne (by decide)).trans ((xw_u_ne (by decide)).trans ((xw_u_ne (by decide)).trans ((xw_u_ne (by decide)).trans ((xw_u_ne (by decide)).trans (fr 1010 (by decide) (by decide))))))))))))))))))) (by decide) (Nat.le_of_ble_eq_true rfl) (Nat.le_of_ble_eq_true rfl) ?_
  refine xw_dup_r dS_init_52 ?_
  refine xw_callI (cF_init w (b := 1011) xw_u_at ((xw_u_ne (by decide)).trans ((xw_u_ne (by decide)).trans ((xw_u_ne (by decide)).trans ((xw_u_ne (by decide)).trans ((xw_u_ne (by decide)).trans ((xw_u_ne (by decide)).trans ((xw_u_ne (by decide)).trans ((xw_u_ne (by decide)).trans ((xw_u_ne (by decide)).trans ((xw_u_ne (by decide)).trans ((xw_u_ne (by decide)).trans ((xw_u_ne (by decide)).trans ((xw_u_ne (by decide)).trans ((xw_u_ne (by decide)).trans ((xw_u_ne (by decide)).trans ((xw_u_ne (by decide)).trans ((xw_u_ne (by decide)).trans ((xw_u_ne (by decide)).trans (fr 1011 (by decide) (by decide)))))))))))))))))))) (by decide) (by decide) (by decide)) rfl dS_init_53 (kS_28 _) ⟨Nat.le_of_ble_eq_true rfl, Nat.le_of_ble_eq_true rfl⟩ rfl rfl (Nat.le_of_ble_eq_true rfl) (fun _ _ q => q) (Nat.le_of_ble_eq_true rfl) (Nat.le_of_ble_eq_true rfl) ?_
  rintro _ _ ⟨rfl, rfl⟩
  refine xw_put dS_init_56 fS_33 ((xw_u_ne (by decide)).trans ((xw_u_ne (by decide)).trans ((xw_u_ne (by decide)).trans xw_u_at))) (by decide) (Nat.le_of_ble_eq_true rfl) (fun _ => rfl) (fun _ => rfl) ?_
  refine xw_aload_n dS_init_59 rfl ?_
  refine xw_iconst (0) dS_init_60 (by decide) ?_
  refine xw_put dS_init_61 fS_36 xw_u_at (by decide) (Nat.le_of_ble_eq_true rfl) (fun _ => rfl) (fun _ => rfl) ?_
  refine xw_aload_n dS_init_64 rfl ?_
  refine xw_iconst (-1) dS_init_65 (by decide) ?_
  refine xw_put dS_init_66 fS_40 xw_u_at (by decide) (Nat.le_of_ble_eq_true rfl) (fun _ => rfl) (fun _ => rfl) ?_
  exact xw_return dS_init_69 rfl (Nat.le_of_ble_eq_true rfl) (Nat.le_of_ble_eq_true rfl) ⟨rfl, rfl, rfl, rfl, rfl, rfl, rfl, rfl, rfl, rfl, rfl, rfl, rfl, fun x hx => by repeat rw [xw_u_ne (by omega)]⟩
/-- five ints more on the tape -/
def xS_feed (f : Nat → Int32) (n : Nat) (a b c d e : Int32) : (Nat → Int32) × Nat := let p := xB_add4 f n a; let q := xB_add4 p.1 p.2 b; let r := xB_add4 q.1 q.2 c; let t := xB_add4 r.1 r.2 d; xB_add4 t.1 t.2 e
set_option maxRecDepth 20000 in
theorem cS_feed (w : xw_G) {h : xw_H} {fo sp : Nat} {pr pl : Int32} (hS : h 1000 = some (xS fo sp pr pl)) {n : Nat} {f : Nat → Int32} (ha : h 1001 = some (xB 1002 n)) (hb : h 1002 = some (xBa f)) (hn : n ≤ 2000) {a b c d e : Int32} : xw_C w (mS_feed { frames := 6, cells := 1, slots := 6, locals := 100 }) (fun v h1 => n + 20 ≤ 2000 ∧ v = some (.int (nI (xS_feed f n a b c d e).2)) ∧ h1 = xw_u (xw_u h 1002 (some (xBa (xS_feed f n a b c d e).1))) 1001 (some (xB 1002 (xS_feed f n a b c d e).2)), fun E h1 => E = "java/lang/IndexOutOfBoundsException" ∧ 2000 < n + 20 ∧ h1 = h) [.ref 1000, .int a, .int b, .int c, .int d, .int e] h := by
  refine xw_enter rfl (by decide +kernel) (Nat.le_of_ble_eq_true rfl) ?_
  refine xw_aload_n dS_feed_0 rfl ?_
  refine xw_get dS_feed_1 fS_10 hS rfl ?_
  refine xw_callV (cB_size w ha) rfl dS_feed_4 (kS_44 _) ⟨Nat.le_of_ble_eq_true rfl, Nat.le_of_ble_eq_true rfl⟩ rfl rfl ha rfl (Nat.le_of_ble_eq_true rfl) (Nat.le_of_ble_eq_true rfl) (Nat.le_of_ble_eq_true rfl) ?_ (fun _ _ q => q.elim)
  rintro _ _ ⟨rfl, rfl⟩
  refine xw_bipush (20) dS_feed_7 (by decide) ?_
  refine xw_iadd dS_feed_9 ?_
  refine xw_sipush (2000) dS_feed_10 (by decide) ?_
  refine xw_icmp_le 24 dS_feed_13 (by decide) (fun c13_0 => ?_) (fun c13_0 => ?_)
  · have hle : n + 20 ≤ 2000 := (nI_leI (by omega) (by decide)).mp (by have q := c13_0; rw [show (20 : Int32) = nI 20 from rfl, nI_add] at q; exact q)
    refine xw_aload_n dS_feed_24 rfl ?_
    refine xw_get dS_feed_25 fS_10 hS rfl ?_
    refine xw_iload_n dS_feed_28 rfl ?_
    refine xw_callV (cB_addInt w ha hb hn (by decide) (by decide) (by decide)) rfl dS_feed_29 (kS_51 _) ⟨Nat.le_of_ble_eq_true rfl, Nat.le_of_ble_eq_true rfl⟩ rfl rfl ha rfl (Nat.le_of_ble_eq_true rfl) (Nat.le_of_ble_eq_true rfl) (Nat.le_of_ble_eq_true rfl) ?_ (fun _ _ q => q.elim)
    rintro _ _ ⟨rfl, rfl⟩
    refine xw_aload_n dS_feed_32 rfl ?_
    refine xw_get dS_feed_33 fS_10 ((xw_u_ne (by decide)).trans ((xw_u_ne (by decide)).trans hS)) rfl ?_
    refine xw_iload_n dS_feed_36 rfl ?_
    refine xw_callV (cB_addInt w xw_u_at ((xw_u_ne (by decide)).trans xw_u_at) (xB_add4_le hn) (by decide) (by decide) (by decide)) rfl dS_feed_37 (kS_51 _) ⟨Nat.le_of_ble_eq_true rfl, Nat.le_of_ble_eq_true rfl⟩ rfl rfl xw_u_at rfl (Nat.le_of_ble_eq_true rfl) (Nat.le_of_ble_eq_true rfl) (Nat.le_of_ble_eq_true rfl) ?_ (fun _ _ q => q.elim)
    rintro _ _ ⟨rfl, rfl⟩
    refine xw_aload_n dS_feed_40 rfl ?_
    refine xw_get dS_feed_41 fS_10 ((xw_u_ne (by decide)).trans ((xw_u_ne (by decide)).trans ((xw_u_ne (by decide)).trans ((xw_u_ne (by decide)).trans hS)))) rfl ?_
    refine xw_iload_n dS_feed_44 rfl ?_
    refine xw_callV (cB_addInt w xw_u_at ((xw_u_ne (by decide)).trans xw_u_at) (xB_add4_le (xB_add4_le hn)) (by decide) (by decide) (by decide)) rfl dS_feed_45 (kS_51 _) ⟨Nat.le_of_ble_eq_true rfl, Nat.le_of_ble_eq_true rfl⟩ rfl rfl xw_u_at rfl (Nat.le_of_ble_eq_true rfl) (Nat.le_of_ble_eq_true rfl) (Nat.le_of_ble_eq_true rfl) ?_ (fun _ _ q => q.elim)
    rintro _ _ ⟨rfl, rfl⟩
    refine xw_aload_n dS_feed_48 rfl ?_
    refine xw_get dS_feed_49 fS_10 ((xw_u_ne (by decide)).trans ((xw_u_ne (by decide)).trans ((xw_u_ne (by decide)).trans ((xw_u_ne (by decide)).trans ((xw_u_ne (by decide)).trans ((xw_u_ne (by decide)).trans hS)))))) rfl ?_
    refine xw_iload dS_feed_52 rfl ?_
    refine xw_callV (cB_addInt w xw_u_at ((xw_u_ne (by decide)).trans xw_u_at) (xB_add4_le (xB_add4_le (xB_add4_le hn))) (by decide) (by decide) (by decide)) rfl dS_feed_54 (kS_51 _) ⟨Nat.le_of_ble_eq_true rfl, Nat.le_of_ble_eq_true rfl⟩ rfl rfl xw_u_at rfl (Nat.le_of_ble_eq_true rfl) (Nat.le_of_ble_eq_true rfl) (Nat.le_of_ble_eq_true rfl) ?_ (fun _ _ q => q.elim)
    rintro _ _ ⟨rfl, rfl⟩
    refine xw_aload_n dS_feed_57 rfl ?_
    refine xw_get dS_feed_58 fS_10 ((xw_u_ne (by decide)).trans ((xw_u_ne (by decide)).trans ((xw_u_ne (by decide)).trans ((xw_u_ne (by decide)).trans ((xw_u_ne (by decide)).trans ((xw_u_ne (by decide)).trans ((xw_u_ne (by decide)).trans ((xw_u_ne (by decide)).trans hS)))))))) rfl ?_
    refine xw_iload dS_feed_61 rfl ?_
    refine xw_callV (cB_addInt w xw_u_at ((xw_u_ne (by decide)).trans xw_u_at) (xB_add4_le (xB_add4_le (xB_add4_le (xB_add4_le hn)))) (by decide) (by decide) (by decide)) rfl dS_feed_63 (kS_51 _) ⟨Nat.le_of_ble_eq_true rfl, Nat.le_of_ble_eq_true rfl⟩ rfl rfl xw_u_at rfl (Nat.le_of_ble_eq_true rfl) (Nat.le_of_ble_eq_true rfl) (Nat.le_of_ble_eq_true rfl) ?_ (fun _ _ q => q.elim)
    rintro _ _ ⟨rfl, rfl⟩
    refine xw_aload_n dS_feed_66 rfl ?_
    refine xw_get dS_feed_67 fS_10 ((xw_u_ne (by decide)).trans ((xw_u_ne (by decide)).trans ((xw_u_ne (by decide)).trans ((xw_u_ne (by decide)).trans ((xw_u_ne (by decide)).trans ((xw_u_ne (by decide)).trans ((xw_u_ne (by decide)).trans ((xw_u_ne (by decide)).trans ((xw_u_ne (by decide)).trans ((xw_u_ne (by decide)).trans hS)))))))))) rfl ?_
    refine xw_callV (cB_size w xw_u_at) rfl dS_feed_70 (kS_44 _) ⟨Nat.le_of_ble_eq_true rfl, Nat.le_of_ble_eq_true rfl⟩ rfl rfl xw_u_at rfl (Nat.le_of_ble_eq_true rfl) (Nat.le_of_ble_eq_true rfl) (Nat.le_of_ble_eq_true rfl) ?_ (fun _ _ q => q.elim)
    rintro _ _ ⟨rfl, rfl⟩
    exact xw_ireturn dS_feed_73 rfl rfl (Nat.le_of_ble_eq_true rfl) (Nat.le_of_ble_eq_true rfl) ⟨hle, rfl, by rw [xw_u2 (by decide), xw_u2 (by decide), xw_u2 (by decide), xw_u2 (by decide)]; rfl⟩
  · exact xw_throw rfl tS_48 dS_feed_16 dS_feed_19 dS_feed_20 dS_feed_23 (Nat.le_of_ble_eq_true rfl) (Nat.le_of_ble_eq_true rfl) (Nat.le_of_ble_eq_true rfl) (Nat.le_of_ble_eq_true rfl) ⟨rfl, by have q : ¬ n + 20 ≤ 2000 := fun q => c13_0 (by show nI n + nI 20 ≤ nI 2000; rw [nI_add]; exact nI_le q (by decide)); omega, rfl⟩
set_option maxRecDepth 20000 in
theorem cS_end (w : xw_G) {h : xw_H} {fo sp : Nat} {pr pl : Int32} (hS : h 1000 = some (xS fo sp pr pl)) {n : Nat} {f : Nat → Int32} (ha : h 1001 = some (xB 1002 n)) (hb : h 1002 = some (xBa f)) (hn : n ≤ 2000) {x : Int32} : xw_C w (mS_end { frames := 6, cells := 1, slots := 6, locals := 100 }) (fun v h1 => ∃ j : Nat, j ≤ n ∧ x = nI j ∧ v = some (.int (nI j)) ∧ h1 = xw_u h 1001 (some (xB 1002 j)), fun E h1 => E = "java/lang/IllegalArgumentException" ∧ (∀ j : Nat, j ≤ n → ¬ x = nI j) ∧ h1 = h) [.ref 1000, .int x] h := by
  refine xw_enter rfl (by decide +kernel) (Nat.le_of_ble_eq_true rfl) ?_
  refine xw_iload_n dS_end_0 rfl ?_
  refine xw_if_lt 15 dS_end_1 (by decide) (fun c1_0 => ?_) (fun c1_0 => ?_)
  · exact xw_throw rfl tS_55 dS_end_15 dS_end_18 dS_end_19 dS_end_22 (Nat.le_of_ble_eq_true rfl) (Nat.le_of_ble_eq_true rfl) (Nat.le_of_ble_eq_true rfl) (Nat.le_of_ble_eq_true rfl) ⟨rfl, fun j hj e => nI_pos (by omega) (e ▸ c1_0), rfl⟩
  · refine xw_iload_n dS_end_4 rfl ?_
    refine xw_aload_n dS_end_5 rfl ?_
    refine xw_get dS_end_6 fS_10 hS rfl ?_
    refine xw_callV (cB_size w ha) rfl dS_end_9 (kS_44 _) ⟨Nat.le_of_ble_eq_true rfl, Nat.le_of_ble_eq_true rfl⟩ rfl rfl ha rfl (Nat.le_of_ble_eq_true rfl) (Nat.le_of_ble_eq_true rfl) (Nat.le_of_ble_eq_true rfl) ?_ (fun _ _ q => q.elim)
    rintro _ _ ⟨rfl, rfl⟩
    refine xw_icmp_le 23 dS_end_12 (by decide) (fun c12_1 => ?_) (fun c12_1 => ?_)
    · obtain ⟨j, hj, rfl⟩ : ∃ j : Nat, j ≤ n ∧ x = nI j := nI_of2 (nI_toInt (by omega)) c1_0 c12_1
      refine xw_aload_n dS_end_23 rfl ?_
      refine xw_get dS_end_24 fS_10 hS rfl ?_
      refine xw_iload_n dS_end_27 rfl ?_
      refine xw_callV (cB_cut w (m := j) ha (by decide)) rfl dS_end_28 (kS_58 _) ⟨Nat.le_of_ble_eq_true rfl, Nat.le_of_ble_eq_true rfl⟩ rfl rfl ha rfl (Nat.le_of_ble_eq_true rfl) (Nat.le_of_ble_eq_true rfl) (Nat.le_of_ble_eq_true rfl) ?_ (fun _ _ q => q.elim)
      rintro _ _ ⟨rfl, rfl⟩
      refine xw_iload_n dS_end_31 rfl ?_
      exact xw_ireturn dS_end_32 rfl rfl (Nat.le_of_ble_eq_true rfl) (Nat.le_of_ble_eq_true rfl) ⟨j, hj, rfl, rfl, rfl⟩
    · exact xw_throw rfl tS_55 dS_end_15 dS_end_18 dS_end_19 dS_end_22 (Nat.le_of_ble_eq_true rfl) (Nat.le_of_ble_eq_true rfl) (Nat.le_of_ble_eq_true rfl) (Nat.le_of_ble_eq_true rfl) ⟨rfl, fun j hj e => c12_1 (by rw [e]; exact nI_le hj (by omega)), rfl⟩
set_option maxRecDepth 20000 in
theorem cS_needFormula (w : xw_G) {h : xw_H} {fo sp : Nat} {pr pl : Int32} (hS : h 1000 = some (xS fo sp pr pl))  : xw_C w (mS_needFormula { frames := 6, cells := 1, slots := 6, locals := 100 }) (fun v h1 => v = none ∧ ¬ pr = 0 ∧ h1 = h, fun E h1 => E = "java/lang/IllegalStateException" ∧ pr = 0 ∧ h1 = h) [.ref 1000] h := by
  refine xw_enter rfl (by decide +kernel) (Nat.le_of_ble_eq_true rfl) ?_
  refine xw_aload_n dS_needFormula_0 rfl ?_
  refine xw_get dS_needFormula_1 fS_36 hS rfl ?_
  refine xw_if_ne 15 dS_needFormula_4 (by decide) (fun c4_0 => ?_) (fun c4_0 => ?_)
  · exact xw_return dS_needFormula_15 rfl (Nat.le_of_ble_eq_true rfl) (Nat.le_of_ble_eq_true rfl) ⟨rfl, c4_0, rfl⟩
  · exact xw_throw rfl tS_151 dS_needFormula_7 dS_needFormula_10 dS_needFormula_11 dS_needFormula_14 (Nat.le_of_ble_eq_true rfl) (Nat.le_of_ble_eq_true rfl) (Nat.le_of_ble_eq_true rfl) (Nat.le_of_ble_eq_true rfl) ⟨rfl, c4_0, rfl⟩
set_option maxRecDepth 20000 in
theorem cS_count (w : xw_G) {h : xw_H} {fo sp : Nat} {pr pl : Int32} (hS : h 1000 = some (xS fo sp pr pl)) {n1 n2 b n : Nat} {wd rf x : Int32} (ha : h 1001 = some (xB 1002 n1)) (hc : h 1003 = some (xB 1004 n2)) (hF : h fo = some (xF b n wd rf)) : xw_C w (mS_count { frames := 6, cells := 1, slots := 6, locals := 100 }) (fun v h1 => ((x = 0 ∧ v = some (.int (nI n1))) ∨ (x = 1 ∧ v = some (.int (nI n2))) ∨ (x = 2 ∧ v = some (.int pl)) ∨ (x = 3 ∧ v = some (.int (if pr = 0 then 0 else rf)))) ∧ h1 = h, fun E h1 => E = "java/lang/IllegalArgumentException" ∧ (¬ x = 0 ∧ ¬ x = 1 ∧ ¬ x = 2 ∧ ¬ x = 3) ∧ h1 = h) [.ref 1000, .int x] h := by
  refine xw_enter rfl (by decide +kernel) (Nat.le_of_ble_eq_true rfl) ?_
  refine xw_iload_n dS_count_0 rfl ?_
  by_cases e0 : x = 0
  · subst e0
    refine xw_tableIn 32 dS_count_1 (by decide) (by decide) rfl (by decide) ?_
    refine xw_aload_n dS_count_32 rfl ?_
    refine xw_get dS_count_33 fS_10 hS rfl ?_
    refine xw_callV (cB_size w ha) rfl dS_count_36 (kS_44 _) ⟨Nat.le_of_ble_eq_true rfl, Nat.le_of_ble_eq_true rfl⟩ rfl rfl ha rfl (Nat.le_of_ble_eq_true rfl) (Nat.le_of_ble_eq_true rfl) (Nat.le_of_ble_eq_true rfl) ?_ (fun _ _ q => q.elim)
    rintro _ _ ⟨rfl, rfl⟩
    exact xw_ireturn dS_count_39 rfl rfl (Nat.le_of_ble_eq_true rfl) (Nat.le_of_ble_eq_true rfl) ⟨Or.inl ⟨rfl, rfl⟩, rfl⟩
  by_cases e1 : x = 1
  · subst e1
    refine xw_tableIn 40 dS_count_1 (by decide) (by decide) rfl (by decide) ?_
    refine xw_aload_n dS_count_40 rfl ?_
    refine xw_get dS_count_41 fS_16 hS rfl ?_
    refine xw_callV (cB_size w hc) rfl dS_count_44 (kS_44 _) ⟨Nat.le_of_ble_eq_true rfl, Nat.le_of_ble_eq_true rfl⟩ rfl rfl hc rfl (Nat.le_of_ble_eq_true rfl) (Nat.le_of_ble_eq_true rfl) (Nat.le_of_ble_eq_true rfl) ?_ (fun _ _ q => q.elim)
    rintro _ _ ⟨rfl, rfl⟩
    exact xw_ireturn dS_count_47 rfl rfl (Nat.le_of_ble_eq_true rfl) (Nat.le_of_ble_eq_true rfl) ⟨Or.inr (Or.inl ⟨rfl, rfl⟩), rfl⟩
  by_cases e2 : x = 2
  · subst e2
    refine xw_tableIn 48 dS_count_1 (by decide) (by decide) rfl (by decide) ?_
    refine xw_aload_n dS_count_48 rfl ?_
    refine xw_get dS_count_49 fS_40 hS rfl ?_
    exact xw_ireturn dS_count_52 rfl rfl (Nat.le_of_ble_eq_true rfl) (Nat.le_of_ble_eq_true rfl) ⟨Or.inr (Or.inr (Or.inl ⟨rfl, rfl⟩)), rfl⟩
  by_cases e3 : x = 3
  · subst e3
    refine xw_tableIn 53 dS_count_1 (by decide) (by decide) rfl (by decide) ?_
    refine xw_aload_n dS_count_53 rfl ?_
    refine xw_get dS_count_54 fS_36 hS rfl ?_
    refine xw_if_eq 70 dS_count_57 (by decide) (fun c57_0 => ?_) (fun c57_0 => ?_)
    · refine xw_iconst (0) dS_count_70 (by decide) ?_
      exact xw_ireturn dS_count_71 rfl rfl (Nat.le_of_ble_eq_true rfl) (Nat.le_of_ble_eq_true rfl) ⟨Or.inr (Or.inr (Or.inr ⟨rfl, by rw [if_pos c57_0]⟩)), rfl⟩
    · refine xw_aload_n dS_count_60 rfl ?_
      refine xw_get dS_count_61 fS_29 hS rfl ?_
      refine xw_callV (cF_references w hF) rfl dS_count_64 (kS_148 _) ⟨Nat.le_of_ble_eq_true rfl, Nat.le_of_ble_eq_true rfl⟩ rfl rfl hF rfl (Nat.le_of_ble_eq_true rfl) (Nat.le_of_ble_eq_true rfl) (Nat.le_of_ble_eq_true rfl) ?_ (fun _ _ q => q.elim)
      rintro _ _ ⟨rfl, rfl⟩
      refine xw_goto 71 dS_count_67 (by decide) ?_
      exact xw_ireturn dS_count_71 rfl rfl (Nat.le_of_ble_eq_true rfl) (Nat.le_of_ble_eq_true rfl) ⟨Or.inr (Or.inr (Or.inr ⟨rfl, by rw [if_neg c57_0]⟩)), rfl⟩
  refine xw_tableOut 72 dS_count_1 ?_ (by decide) ?_
  · have n0 := lv_neT e0 (a := 0) rfl
    have n1 := lv_neT e1 (a := 1) rfl
    have n2 := lv_neT e2 (a := 2) rfl
    have n3 := lv_neT e3 (a := 3) rfl
    omega
  · exact xw_throw rfl tS_55 dS_count_72 dS_count_75 dS_count_76 dS_count_79 (Nat.le_of_ble_eq_true rfl) (Nat.le_of_ble_eq_true rfl) (Nat.le_of_ble_eq_true rfl) (Nat.le_of_ble_eq_true rfl) ⟨rfl, ⟨e0, e1, e2, e3⟩, rfl⟩
