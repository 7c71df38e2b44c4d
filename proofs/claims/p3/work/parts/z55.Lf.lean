set_option maxRecDepth 20000 in
theorem law_loop {w : xw_G} {xs : Nat → Int32} {len : Nat} (hX : xw_X9 w xs len) (hlen : len ≤ 3072) {Rel : Nat → xSs → xMs → Prop} (hR : ∀ n s m, Rel n s m → xRb m) (hSkip : ∀ n s m, Rel n s m → 6 * n + 6 ≤ len → Rel (n + 1) s m) (hFeed : ∀ n s m (a0 : Int32) (a1 : Int32) (a2 : Int32) (a3 : Int32) (a4 : Int32), Rel n s m → 6 * n + 6 ≤ len → xSnp ["java/lang/IndexOutOfBoundsException"] (Rel (n + 1)) (FS_feed a0 a1 a2 a3 a4 s) (FM_feed a0 a1 a2 a3 a4 m)) (hEnd : ∀ n s m (a0 : Int32), Rel n s m → 6 * n + 6 ≤ len → xStp ["java/lang/IllegalArgumentException"] xc_end (fun x : Int32 => x.toInt64) (fun x : Int32 => x.toInt64) (Rel (n + 1)) (FS_end a0 s) (FM_end a0 m)) (hRead : ∀ n s m, Rel n s m → 6 * n + 6 ≤ len → xSnp ["java/lang/UnsupportedOperationException", "java/lang/IndexOutOfBoundsException"] (Rel (n + 1)) (FS_read  s) (FM_read  m)) (hCopy : ∀ n s m (a0 : Int32) (a1 : Int32), Rel n s m → 6 * n + 6 ≤ len → xSnq ["java/lang/IllegalArgumentException", "java/lang/IllegalStateException", "java/lang/IndexOutOfBoundsException"] (Rel (n + 1)) (FS_copy a0 a1 s) (FM_copy a0 a1 m)) (hInsert : ∀ n s m (a0 : Bool) (a1 : Int32) (a2 : Int32), Rel n s m → 6 * n + 6 ≤ len → xSnq ["java/lang/IllegalArgumentException", "java/lang/IllegalStateException", "java/lang/IndexOutOfBoundsException"] (Rel (n + 1)) (FS_insert a0 a1 a2 s) (FM_insert a0 a1 a2 m)) (hRemove : ∀ n s m (a0 : Bool) (a1 : Int32) (a2 : Int32), Rel n s m → 6 * n + 6 ≤ len → xSnq ["java/lang/IllegalArgumentException", "java/lang/IllegalStateException", "java/lang/IndexOutOfBoundsException"] (Rel (n + 1)) (FS_remove a0 a1 a2 s) (FM_remove a0 a1 a2 m)) (hShow : ∀ n s m, Rel n s m → 6 * n + 6 ≤ len → xSnp ["java/lang/IllegalStateException"] (Rel (n + 1)) (FS_show  s) (FM_show_I  m)) (hReference : ∀ n s m (a0 : Int32) (a1 : Int32), Rel n s m → 6 * n + 6 ≤ len → xSnq ["java/lang/IllegalArgumentException", "java/lang/IllegalStateException", "java/util/NoSuchElementException"] (Rel (n + 1)) (FS_reference a0 a1 s) (FM_reference a0 a1 m)) (hWord : ∀ n s m (a0 : Int32), Rel n s m → 6 * n + 6 ≤ len → xSnp ["java/lang/IndexOutOfBoundsException"] (Rel (n + 1)) (FS_word a0 s) (FM_word a0 m)) (hCount : ∀ n s m (a0 : Int32), Rel n s m → 6 * n + 6 ≤ len → xSnq ["java/lang/IllegalArgumentException"] (Rel (n + 1)) (FS_count a0 s) (FM_count a0 m)) {h0 : xw_H} (h0n : ∀ a, h0 a = none) : ∀ (d n : Nat), len < 6 * n + 6 + 6 * d → 6 * n ≤ len → ∀ {s : xSs} {m : xMs} {f : Nat → Int64}, Rel n s m → xw_X w (mL_law room_1) xPl h0 (20 + 3 * n + m.2.2.1.2.2.2.2.2.2.1) (10100 + 15 * n + m.2.2.1.2.2.2.2.2.2.2) 23 [some (.ref 999), some (.ref 1000), some (.ref 2000), some (.ref 1900), some (.int (nI (6 * n))), none, none, none] [] (LV vS s m f) := by
  intro d
  induction d with
  | zero =>
    intro n hd hn s m f hr
    have hb := hR n s m hr
    obtain ⟨b1, b2, -⟩ := hb
    refine xw_iload dL_law_23 rfl ?_
    refine xw_aload_n dL_law_25 rfl ?_
    refine xw_slen hX dL_law_26 ?_
    refine xw_bipush (6) dL_law_27 (by decide) ?_
    refine xw_isub dL_law_29 ?_
    refine xw_icmp_gt 538 dL_law_30 (by decide) (fun _ => ?_) (fun q => absurd ((l_cmp (by omega) (by omega)).mpr (by omega)) q)
    refine xw_iconst (1) dL_law_538 (by decide) ?_
    exact xw_ireturn dL_law_539 rfl rfl (by show (20 + 3 * n + m.2.2.1.2.2.2.2.2.2.1) ≤ 601024; omega) (by show (10100 + 15 * n + m.2.2.1.2.2.2.2.2.2.2) ≤ 7293034; omega) rfl
  | succ d ih =>
    intro n hd hn s m f hr
    have hb := hR n s m hr
    obtain ⟨b1, b2, -⟩ := hb
    refine xw_iload dL_law_23 rfl ?_
    refine xw_aload_n dL_law_25 rfl ?_
    refine xw_slen hX dL_law_26 ?_
    refine xw_bipush (6) dL_law_27 (by decide) ?_
    refine xw_isub dL_law_29 ?_
    refine xw_icmp_gt 538 dL_law_30 (by decide) (fun _ => ?_) (fun q => ?_)
    · refine xw_iconst (1) dL_law_538 (by decide) ?_
      exact xw_ireturn dL_law_539 rfl rfl (by show (20 + 3 * n + m.2.2.1.2.2.2.2.2.2.1) ≤ 601024; omega) (by show (10100 + 15 * n + m.2.2.1.2.2.2.2.2.2.2) ≤ 7293034; omega) rfl
    · have h1 : 6 * n + 6 ≤ len := Nat.not_lt.mp fun q2 => q ((l_cmp (by omega) (by omega)).mpr q2)
      have hx0 : 0 ≤ nI (6 * n) ∧ nI (6 * n) < nI len := l_ix (n := 6 * n) (j := 0) (by omega) (by omega)
      have next : ∀ s' m' f', Rel (n + 1) s' m' → xw_X w (mL_law room_1) xPl h0 (20 + 3 * (n + 1) + m'.2.2.1.2.2.2.2.2.2.1) (10100 + 15 * (n + 1) + m'.2.2.1.2.2.2.2.2.2.2) 532 [some (.ref 999), some (.ref 1000), some (.ref 2000), some (.ref 1900), some (.int (nI (6 * n))), none, none, none] [] (LV vS s' m' f') := by
        intro s' m' f' hr'
        refine xw_iinc (nI (6 * n) + 6) dL_law_532 rfl rfl (Nat.le_of_ble_eq_true rfl) ?_
        refine xw_Ln (L' := [some (.ref 999), some (.ref 1000), some (.ref 2000), some (.ref 1900), some (.int (nI (6 * (n + 1)))), none, none, none]) ?_ ?_
        · rw [show nI (6 * (n + 1)) = nI (6 * n) + 6 from (l_add (n := 6 * n) (j := 6)).symm]
          rfl
        refine xw_goto 23 dL_law_535 (by decide) ?_
        exact ih (n + 1) (by omega) (by omega) hr'
      refine xw_aload_n dL_law_33 rfl ?_
      refine xw_iload dL_law_34 rfl ?_
      refine xw_sld hX hx0 (by omega) dL_law_36 ?_
      refine xw_bipush (15) dL_law_37 (by decide) ?_
      refine xw_iand dL_law_39 ?_
      generalize (xs (nI (6 * n)).toNatClampNeg &&& 15) = op
      by_cases c0 : op = 0
      · refine xw_tableIn (off := 56) 96 dL_law_40 (by rw [c0]; decide) (by rw [c0]; decide) (by rw [c0]; rfl) (by decide) ?_
        exact lc_feed hX hlen hR h0n h1 hr (hFeed n s m _ _ _ _ _ hr h1) next
      by_cases c1 : op = 1
      · refine xw_tableIn (off := 132) 172 dL_law_40 (by rw [c1]; decide) (by rw [c1]; decide) (by rw [c1]; rfl) (by decide) ?_
        exact lc_end hX hlen hR h0n h1 hr (hEnd n s m _ hr h1) next
      by_cases c2 : op = 2
      · refine xw_tableIn (off := 188) 228 dL_law_40 (by rw [c2]; decide) (by rw [c2]; decide) (by rw [c2]; rfl) (by decide) ?_
        exact lc_read hX hlen hR h0n h1 hr (hRead n s m hr h1) next
      by_cases c3 : op = 3
      · refine xw_tableIn (off := 204) 244 dL_law_40 (by rw [c3]; decide) (by rw [c3]; decide) (by rw [c3]; rfl) (by decide) ?_
        exact lc_copy hX hlen hR h0n h1 hr (hCopy n s m _ _ hr h1) next
      by_cases c4 : op = 4
      · refine xw_tableIn (off := 244) 284 dL_law_40 (by rw [c4]; decide) (by rw [c4]; decide) (by rw [c4]; rfl) (by decide) ?_
        by_cases hc : xs (nI (6 * n) + 1).toNatClampNeg = 0
        · exact lc_insertF hX hlen hR h0n h1 hr hc (hInsert n s m _ _ _ hr h1) next
        · exact lc_insertT hX hlen hR h0n h1 hr hc (hInsert n s m _ _ _ hr h1) next
      by_cases c5 : op = 5
      · refine xw_tableIn (off := 312) 352 dL_law_40 (by rw [c5]; decide) (by rw [c5]; decide) (by rw [c5]; rfl) (by decide) ?_
        by_cases hc : xs (nI (6 * n) + 1).toNatClampNeg = 0
        · exact lc_removeF hX hlen hR h0n h1 hr hc (hRemove n s m _ _ _ hr h1) next
        · exact lc_removeT hX hlen hR h0n h1 hr hc (hRemove n s m _ _ _ hr h1) next
      by_cases c6 : op = 6
      · refine xw_tableIn (off := 380) 420 dL_law_40 (by rw [c6]; decide) (by rw [c6]; decide) (by rw [c6]; rfl) (by decide) ?_
        exact lc_show hX hlen hR h0n h1 hr (hShow n s m hr h1) next
      by_cases c7 : op = 7
      · refine xw_tableIn (off := 396) 436 dL_law_40 (by rw [c7]; decide) (by rw [c7]; decide) (by rw [c7]; rfl) (by decide) ?_
        exact lc_reference hX hlen hR h0n h1 hr (hReference n s m _ _ hr h1) next
      by_cases c8 : op = 8
      · refine xw_tableIn (off := 436) 476 dL_law_40 (by rw [c8]; decide) (by rw [c8]; decide) (by rw [c8]; rfl) (by decide) ?_
        exact lc_word hX hlen hR h0n h1 hr (hWord n s m _ hr h1) next
      by_cases c9 : op = 9
      · refine xw_tableIn (off := 464) 504 dL_law_40 (by rw [c9]; decide) (by rw [c9]; decide) (by rw [c9]; rfl) (by decide) ?_
        exact lc_count hX hlen hR h0n h1 hr (hCount n s m _ hr h1) next
      refine xw_tableOut 532 dL_law_40 (xg_swo (N := 10) (by decide) (by intro j hj; match j, hj with | 0, _ => exact c0 | 1, _ => exact c1 | 2, _ => exact c2 | 3, _ => exact c3 | 4, _ => exact c4 | 5, _ => exact c5 | 6, _ => exact c6 | 7, _ => exact c7 | 8, _ => exact c8 | 9, _ => exact c9 | k + 10, hk => exact absurd hk (by omega))) (by decide) ?_
      exact xw_widen (by omega) (by omega) (next s m f (hSkip n s m hr h1))
