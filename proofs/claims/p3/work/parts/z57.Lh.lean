/-- a new object of the class -/
def xS0 : xSs := ((fun _ => 0, 0), (fun _ => 0, 0), (fun _ => 0, fun _ => 0, 0), (fun _ => 0, 0, 0, 0), (fun _ => 0, 0, 0, 0), false, -1)
theorem xS_new_eq {h h1 : xw_H} (e : xS_new h h1) : h1 = vS xS0 h := by
  obtain ⟨e0, e1, e2, e3, e4, e5, e6, e7, e8, e9, e10, e11, e12⟩ := e
  funext a
  by_cases q : 1000 ≤ a ∧ a ≤ 1011
  · rcases x12 q.1 q.2 with rfl | rfl | rfl | rfl | rfl | rfl | rfl | rfl | rfl | rfl | rfl | rfl
    · rw [e0]; rfl
    · rw [e1]; rfl
    · rw [e2]; rfl
    · rw [e3]; rfl
    · rw [e4]; rfl
    · rw [e5]; rfl
    · rw [e6]; rfl
    · rw [e7]; rfl
    · rw [e8]; rfl
    · rw [e9]; rfl
    · rw [e10]; rfl
    · rw [e11]; rfl
  · rw [e12 a (by omega), vS_out (by omega)]
theorem vS_0 {s : xSs} {c : Option va_E} : vS s (xw_u (fun _ => none) 1000 c) = vS s (fun _ => none) := by
  funext a
  by_cases q : 1000 ≤ a ∧ a ≤ 1011
  · exact (vS_in q.1 q.2).1
  · rw [vS_out (by omega), vS_out (by omega), xw_u_ne (by omega)]
theorem LV_0 {s : xSs} {m : xMs} {f : Nat → Int64} : xw_u (mV m (vS s (fun _ => none))) 1900 (some (.inl (2, 1, .inr (.inl f)))) = LV vS s m f := by
  unfold LV xOb
  rw [← mV_u (by decide), vu_S (by decide)]
set_option maxRecDepth 20000 in
theorem law_start {w : xw_G} {xs : Nat → Int32} {len : Nat} (hX : xw_X9 w xs len) (hlen : len ≤ 3072) {Rel : Nat → xSs → xMs → Prop} (hR : ∀ n s m, Rel n s m → xRb m) (hSkip : ∀ n s m, Rel n s m → 6 * n + 6 ≤ len → Rel (n + 1) s m) (hFeed : ∀ n s m (a0 : Int32) (a1 : Int32) (a2 : Int32) (a3 : Int32) (a4 : Int32), Rel n s m → 6 * n + 6 ≤ len → xSnp ["java/lang/IndexOutOfBoundsException"] (Rel (n + 1)) (FS_feed a0 a1 a2 a3 a4 s) (FM_feed a0 a1 a2 a3 a4 m)) (hEnd : ∀ n s m (a0 : Int32), Rel n s m → 6 * n + 6 ≤ len → xStp ["java/lang/IllegalArgumentException"] xc_end (fun x : Int32 => x.toInt64) (fun x : Int32 => x.toInt64) (Rel (n + 1)) (FS_end a0 s) (FM_end a0 m)) (hRead : ∀ n s m, Rel n s m → 6 * n + 6 ≤ len → xSnp ["java/lang/UnsupportedOperationException", "java/lang/IndexOutOfBoundsException"] (Rel (n + 1)) (FS_read  s) (FM_read  m)) (hCopy : ∀ n s m (a0 : Int32) (a1 : Int32), Rel n s m → 6 * n + 6 ≤ len → xSnq ["java/lang/IllegalArgumentException", "java/lang/IllegalStateException", "java/lang/IndexOutOfBoundsException"] (Rel (n + 1)) (FS_copy a0 a1 s) (FM_copy a0 a1 m)) (hInsert : ∀ n s m (a0 : Bool) (a1 : Int32) (a2 : Int32), Rel n s m → 6 * n + 6 ≤ len → xSnq ["java/lang/IllegalArgumentException", "java/lang/IllegalStateException", "java/lang/IndexOutOfBoundsException"] (Rel (n + 1)) (FS_insert a0 a1 a2 s) (FM_insert a0 a1 a2 m)) (hRemove : ∀ n s m (a0 : Bool) (a1 : Int32) (a2 : Int32), Rel n s m → 6 * n + 6 ≤ len → xSnq ["java/lang/IllegalArgumentException", "java/lang/IllegalStateException", "java/lang/IndexOutOfBoundsException"] (Rel (n + 1)) (FS_remove a0 a1 a2 s) (FM_remove a0 a1 a2 m)) (hShow : ∀ n s m, Rel n s m → 6 * n + 6 ≤ len → xSnp ["java/lang/IllegalStateException"] (Rel (n + 1)) (FS_show  s) (FM_show_I  m)) (hReference : ∀ n s m (a0 : Int32) (a1 : Int32), Rel n s m → 6 * n + 6 ≤ len → xSnq ["java/lang/IllegalArgumentException", "java/lang/IllegalStateException", "java/util/NoSuchElementException"] (Rel (n + 1)) (FS_reference a0 a1 s) (FM_reference a0 a1 m)) (hWord : ∀ n s m (a0 : Int32), Rel n s m → 6 * n + 6 ≤ len → xSnp ["java/lang/IndexOutOfBoundsException"] (Rel (n + 1)) (FS_word a0 s) (FM_word a0 m)) (hCount : ∀ n s m (a0 : Int32), Rel n s m → 6 * n + 6 ≤ len → xSnq ["java/lang/IllegalArgumentException"] (Rel (n + 1)) (FS_count a0 s) (FM_count a0 m)) {m0 : xMs} (hm0 : FM_init = some m0) (hr0 : Rel 0 xS0 m0) : xw_X w (mL_law room_1) xPl (fun _ => none) 0 0 0 [some (.ref 999), none, none, none, none, none, none, none] [] (fun _ => none) := by
  obtain ⟨b1, b2, -⟩ := hR 0 xS0 m0 hr0
  refine xw_new 1000 dL_law_0 nL_8 rfl (by decide) (Nat.le_of_ble_eq_true rfl) (Nat.le_of_ble_eq_true rfl) ?_
  refine xw_dup_r dL_law_3 ?_
  refine xw_callI (cS_init w rfl (fun x h1 h2 => xw_u_ne (by omega))) rfl dL_law_4 (kL_55 _) ⟨Nat.le_of_ble_eq_true rfl, Nat.le_of_ble_eq_true rfl⟩ rfl rfl (Nat.le_of_ble_eq_true rfl) (fun _ _ q => q) (Nat.le_of_ble_eq_true rfl) (Nat.le_of_ble_eq_true rfl) (fun v h' hp => ?_)
  obtain ⟨rfl, hp⟩ := hp
  have e := xS_new_eq hp
  rw [vS_0] at e
  subst e
  refine xw_astore_n dL_law_7 (Nat.le_of_ble_eq_true rfl) ?_
  have hb0 : xMb (vS xS0 (fun _ => none)) := fun a ha => vS_out (by omega)
  refine xw_new 2000 dL_law_8 nL_56 (hb0 2000 (by decide)) (by decide) (Nat.le_of_ble_eq_true rfl) (Nat.le_of_ble_eq_true rfl) ?_
  refine xw_dup_r dL_law_11 ?_
  have hM := (CM_init (w := w) hb0 hm0)
  have c1 := hM.1.1
  have c2 := hM.1.2
  refine xw_callI hM.2 rfl dL_law_12 (kL_58 _) ⟨Nat.le_of_ble_eq_true rfl, Nat.le_of_ble_eq_true rfl⟩ rfl rfl (Nat.le_of_ble_eq_true rfl) (fun _ _ q => q) (by show 13 + m0.2.2.1.2.2.2.2.2.2.1 ≤ 601024; omega) (by show 10053 + m0.2.2.1.2.2.2.2.2.2.2 ≤ 7293034; omega) (fun v h' hp => ?_)
  obtain ⟨rfl, rfl⟩ := hp
  refine xw_astore_n dL_law_15 (Nat.le_of_ble_eq_true rfl) ?_
  refine xw_iconst (1) dL_law_16 (by decide) ?_
  refine xw_newa_l 1900 1 dL_law_17 ?_ (by decide) rfl (by decide) (by show 13 + m0.2.2.1.2.2.2.2.2.2.1 + 1 ≤ 601024; omega) (by show 10053 + m0.2.2.1.2.2.2.2.2.2.2 + 1 ≤ 7293034; omega) ?_
  · unfold mV
    rw [xw_u_ne (by decide)]
    unfold mW
    rw [if_pos (by decide), vS_out (by decide)]
  refine xw_astore_n dL_law_19 (Nat.le_of_ble_eq_true rfl) ?_
  refine xw_iconst (0) dL_law_20 (by decide) ?_
  refine xw_istore dL_law_21 (Nat.le_of_ble_eq_true rfl) ?_
  rw [LV_0]
  refine xw_widen (k1 := 20 + 3 * 0 + m0.2.2.1.2.2.2.2.2.2.1) (n1 := 10100 + 15 * 0 + m0.2.2.1.2.2.2.2.2.2.2) (by show 13 + m0.2.2.1.2.2.2.2.2.2.1 + 1 ≤ _; omega) (by show 10053 + m0.2.2.1.2.2.2.2.2.2.2 + 1 ≤ _; omega) ?_
  exact law_loop hX hlen hR hSkip hFeed hEnd hRead hCopy hInsert hRemove hShow hReference hWord hCount (fun _ => rfl) (len + 1) 0 (by omega) (by omega) hr0
