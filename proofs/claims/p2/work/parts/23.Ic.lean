theorem xk_lt9 {k : Nat} (h : k < xk_N) : k < 1000 := by have := xk_lt h; omega
theorem xk_mAll : (110, FieldType.object "FormulaShaper$Arity", 10, fun j => Value.ref (100 + j)) ∈ xk_T := List.mem_append_right _ List.mem_cons_self
theorem xk_cv_s {k : Nat} (h : k < xk_N) : xk_cv (.ref k) = true := decide_eq_true (xk_lt9 h)
abbrev xg_c (x : Int32) : Int32 := (x.toUInt32 % 65536).toInt32
theorem xm_max : Cond.static Lib.Math.max.name ∈ lw_tbl ∧ Cond.initialized "java/lang/Math" ∈ lw_tbl ∧ Cond.code Lib.Math.max.name Lib.Math.max.code 2 (some .int) ∈ lw_tbl := ⟨tw_488, tw_20, by rw [show Lib.Math.max.code = prog_22_method_65_code from by decide +kernel]; exact tw_489⟩
theorem xm_min : Cond.static Lib.Math.min.name ∈ lw_tbl ∧ Cond.initialized "java/lang/Math" ∈ lw_tbl ∧ Cond.code Lib.Math.min.name Lib.Math.min.code 2 (some .int) ∈ lw_tbl := ⟨tw_491, tw_20, by rw [show Lib.Math.min.code = prog_22_method_69_code from by decide +kernel]; exact tw_492⟩
section XM
variable {w : xw_G} {μ : xw_M} {P : xw_P} {h0 h : xw_H} {kc n pc nx : Nat} {L : List (Option Value)} {st : List Value}
theorem xw_mmax {x y : Int32} {idx : Nat} (hd : xw_D μ.2.1 pc (.invokestatic idx) 3 nx) (hk : Cond.methodLink μ.1.cls idx Lib.Math.max.name ∈ lw_tbl) (hf : 1 ≤ μ.2.2.2.2.1.frames) (hlo : (st.map fun v => v.category).sum + 13 ≤ μ.2.2.2.2.1.locals) (hc : kc ≤ μ.2.2.2.2.1.cells) (hs : n ≤ μ.2.2.2.2.1.slots) (kk : xw_X w μ P h0 kc n nx L (.int (if x < y then y else x) :: st) h) : xw_X w μ P h0 kc n pc L (.int y :: .int x :: st) h := by
  obtain ⟨hd, rfl⟩ := hd
  intro p e s m args below meth c ad0 ad H locs ls S hA hV hL hz hl hokL hok
  exact va_mmax S.1 S.2.1 (S.2.2.2.1.trans hl.1.symm) S.2.2.2.2.1 (xw_wd S hk rfl args) (xw_wd S xm_max.1 rfl args) (xw_wd S xm_max.2.1 rfl args) (xw_wd S xm_max.2.2 rfl args) hf (by rw [xw_cats]; exact hlo) hc hs hd (kk p e s m args below meth c ad0 ad H locs ls S hA hV hL hz hl hokL ⟨trivial, hok.2.2⟩)
theorem xw_mmin {x y : Int32} {idx : Nat} (hd : xw_D μ.2.1 pc (.invokestatic idx) 3 nx) (hk : Cond.methodLink μ.1.cls idx Lib.Math.min.name ∈ lw_tbl) (hf : 1 ≤ μ.2.2.2.2.1.frames) (hlo : (st.map fun v => v.category).sum + 13 ≤ μ.2.2.2.2.1.locals) (hc : kc ≤ μ.2.2.2.2.1.cells) (hs : n ≤ μ.2.2.2.2.1.slots) (kk : xw_X w μ P h0 kc n nx L (.int (if y < x then y else x) :: st) h) : xw_X w μ P h0 kc n pc L (.int y :: .int x :: st) h := by
  obtain ⟨hd, rfl⟩ := hd
  intro p e s m args below meth c ad0 ad H locs ls S hA hV hL hz hl hokL hok
  exact va_mmin S.1 S.2.1 (S.2.2.2.1.trans hl.1.symm) S.2.2.2.2.1 (xw_wd S hk rfl args) (xw_wd S xm_min.1 rfl args) (xw_wd S xm_min.2.1 rfl args) (xw_wd S xm_min.2.2 rfl args) hf (by rw [xw_cats]; exact hlo) hc hs hd (kk p e s m args below meth c ad0 ad H locs ls S hA hV hL hz hl hokL ⟨trivial, hok.2.2⟩)
end XM
theorem CQ_charAt {w : xw_G} {h : xw_H} {k : Nat} {x : Int32} (hk : k < xk_N) (hx : 0 ≤ x ∧ x < nI (xk_by k).length) : xw_C w (mQ_charAt { frames := 3, cells := 0, slots := 0, locals := 64 }) (xw_R (some (.int ((xk_by k).getD x.toNatClampNeg 0))) h) [.ref k, .int x] h := by
  have q := xg_ix (by have := xk_len k hk; omega) hx
  have c := cQ_charAt w (h := h) hk q.2
  rw [← q.1] at c
  exact c
/-- the first place at which b stands in l, j before it, or -1 -/
def xk_find (b : Int32) : List Int32 → Nat → Int32
  | [], _ => -1
  | x :: l, j => if x = b then nI j else xk_find b l (j + 1)
/-- indexOf -/
def xk_ix (k : Nat) (c : Int32) : Int32 := if sZ_canEncode c = 0 then -1 else xk_find c.toInt8.toInt32 (xk_by k) 0
set_option maxRecDepth 20000 in
theorem CZ_loop {w : xw_G} {h : xw_H} {k : Nat} (hk : k < xk_N) {c b f t : Int32} (ht : t = nI (xk_by k).length) : ∀ (l : List Int32) (j : Nat), l = (xk_by k).drop j → j ≤ (xk_by k).length → ∀ {h0 : xw_H}, xw_X w (mZ_indexOfChar { frames := 0, cells := 0, slots := 0, locals := 0 }) (xw_R (some (.int (xk_find b l j))) h) h0 0 0 7 [some (.ref (500 + k)), some (.int c), some (.int f), some (.int t), some (.int b), some (.int (nI j))] [] h := by
  have h1 := xk_lt hk
  have h2 := xk_len k hk
  intro l
  induction l with
  | nil =>
    intro j hl hj h0
    have hj2 : j = (xk_by k).length := by
      have := congrArg List.length hl
      rw [List.length_drop, List.length_nil] at this
      omega
    refine xw_iload dZ_indexOfChar_7 rfl ?_
    refine xw_iload_n dZ_indexOfChar_9 rfl ?_
    refine xw_icmp_ge 31 dZ_indexOfChar_10 (by decide) (fun _ => ?_) (fun q => absurd (show t ≤ nI j by rw [ht, hj2]; exact Int32.le_refl _) q)
    refine xw_iconst (-1) dZ_indexOfChar_31 (by decide) ?_
    exact xw_ireturn dZ_indexOfChar_32 rfl rfl (Nat.le_of_ble_eq_true rfl) (Nat.le_of_ble_eq_true rfl) ⟨rfl, rfl⟩
  | cons x l ih =>
    intro j hl hj h0
    have hlt : j < (xk_by k).length := by
      have := congrArg List.length hl
      rw [List.length_drop, List.length_cons] at this
      omega
    have hx : (xk_by k).getD j 0 = x := by
      have : ((xk_by k).drop j)[0]? = some x := by rw [← hl]; rfl
      rw [List.getElem?_drop, Nat.add_zero] at this
      rw [List.getD_eq_getElem?_getD, this]; rfl
    have hd : l = (xk_by k).drop (j + 1) := by
      have : ((xk_by k).drop j).tail = l := by rw [← hl]; rfl
      rw [← this, List.tail_drop]
    refine xw_iload dZ_indexOfChar_7 rfl ?_
    refine xw_iload_n dZ_indexOfChar_9 rfl ?_
    refine xw_icmp_ge 31 dZ_indexOfChar_10 (by decide) (fun q => absurd (show t ≤ nI j from q) (by rw [ht]; exact Int32.not_le.mpr (nI_lt hlt (by omega)))) (fun _ => ?_)
    refine xw_aload_n dZ_indexOfChar_13 rfl ?_
    refine xw_iload dZ_indexOfChar_14 rfl ?_
    refine xw_baloadK j dZ_indexOfChar_16 (xk_mT hk) (by omega) rfl hlt (by omega) rfl ?_
    refine xw_iload dZ_indexOfChar_17 rfl ?_
    rw [hx]
    refine xw_icmp_ne 25 dZ_indexOfChar_19 (by decide) (fun q => ?_) (fun q => ?_)
    · refine xw_iinc (nI j + 1) dZ_indexOfChar_25 rfl rfl (by decide) ?_
      refine xw_goto 7 dZ_indexOfChar_28 (by decide) ?_
      have := ih (j + 1) hd (by omega) (h0 := h0)
      rw [show xk_find b (x :: l) j = xk_find b l (j + 1) from if_neg q, nI_1]
      exact this
    · refine xw_iload dZ_indexOfChar_22 rfl ?_
      exact xw_ireturn dZ_indexOfChar_24 rfl rfl (Nat.le_of_ble_eq_true rfl) (Nat.le_of_ble_eq_true rfl) ⟨by rw [show xk_find b (x :: l) j = nI j from if_pos q], rfl⟩
set_option maxRecDepth 20000 in
theorem CZ_indexOfChar {w : xw_G} {h : xw_H} {k : Nat} (hk : k < xk_N) {c t : Int32} (ht : t = nI (xk_by k).length) : xw_C w (mZ_indexOfChar { frames := 0, cells := 0, slots := 0, locals := 0 }) (xw_R (some (.int (xk_find c.toInt8.toInt32 (xk_by k) 0))) h) [.ref (500 + k), .int c, .int 0, .int t] h := by
  refine xw_enter rfl (by decide +kernel) (Nat.le_of_ble_eq_true rfl) ?_
  refine xw_iload_n dZ_indexOfChar_0 rfl ?_
  refine xw_i2b dZ_indexOfChar_1 ?_
  refine xw_istore dZ_indexOfChar_2 (by decide) ?_
  refine xw_iload_n dZ_indexOfChar_4 rfl ?_
  refine xw_istore dZ_indexOfChar_5 (by decide) ?_
  exact CZ_loop hk ht (xk_by k) 0 rfl (Nat.zero_le _)
set_option maxRecDepth 20000 in
theorem CZ_indexOf {w : xw_G} {h : xw_H} {k : Nat} (hk : k < xk_N) {c t : Int32} (ht : t = nI (xk_by k).length) : xw_C w (mZ_indexOf { frames := 1, cells := 0, slots := 0, locals := 25 }) (xw_R (some (.int (xk_ix k c))) h) [.ref (500 + k), .int c, .int 0, .int t] h := by
  have h1 := xk_lt hk
  have h2 := xk_len k hk
  refine xw_enter rfl (by decide +kernel) (Nat.le_of_ble_eq_true rfl) ?_
  refine xw_iload_n dZ_indexOf_0 rfl ?_
  refine xg_S1 (k1 := 0) (n1 := 0) (cZ_canEncode w) rfl rfl rfl dZ_indexOf_1 (kZ_88 _) ⟨Nat.le_of_ble_eq_true rfl, Nat.le_of_ble_eq_true rfl⟩ rfl rfl (Nat.le_of_ble_eq_true rfl) (Nat.le_of_ble_eq_true rfl) (Nat.le_of_ble_eq_true rfl) (Nat.le_of_ble_eq_true rfl) (Nat.le_of_ble_eq_true rfl) ?_
  refine xw_if_ne 9 dZ_indexOf_4 (by decide) (fun q => ?_) (fun q => ?_)
  · refine xw_iload_n dZ_indexOf_9 rfl ?_
    refine xw_iconst 0 dZ_indexOf_10 (by decide) ?_
    refine xw_mmax dZ_indexOf_11 tw_487 (Nat.le_of_ble_eq_true rfl) (Nat.le_of_ble_eq_true rfl) (Nat.le_of_ble_eq_true rfl) (Nat.le_of_ble_eq_true rfl) ?_
    refine xw_istore_n dZ_indexOf_14 (by decide) ?_
    refine xw_iload_n dZ_indexOf_15 rfl ?_
    refine xw_aload_n dZ_indexOf_16 rfl ?_
    refine xw_alenK (nI (xk_by k).length) dZ_indexOf_17 (xk_mT hk) (by omega) rfl ?_
    refine xw_mmin dZ_indexOf_18 tw_490 (Nat.le_of_ble_eq_true rfl) (Nat.le_of_ble_eq_true rfl) (Nat.le_of_ble_eq_true rfl) (Nat.le_of_ble_eq_true rfl) ?_
    refine xw_istore_n dZ_indexOf_21 (by decide) ?_
    refine xw_iload_n dZ_indexOf_22 rfl ?_
    refine xw_iload_n dZ_indexOf_23 rfl ?_
    rw [show (if (0 : Int32) < 0 then (0 : Int32) else 0) = 0 from rfl, ← ht, show (if t < t then t else t) = t from by split <;> rfl]
    refine xw_icmp_lt 29 dZ_indexOf_24 (by decide) (fun q2 => ?_) (fun q2 => ?_)
    · refine xw_aload_n dZ_indexOf_29 rfl ?_
      refine xw_iload_n dZ_indexOf_30 rfl ?_
      refine xw_iload_n dZ_indexOf_31 rfl ?_
      refine xw_iload_n dZ_indexOf_32 rfl ?_
      refine xg_S1 (k1 := 0) (n1 := 0) (CZ_indexOfChar hk ht) rfl rfl rfl dZ_indexOf_33 (kZ_95 _) ⟨Nat.le_of_ble_eq_true rfl, Nat.le_of_ble_eq_true rfl⟩ rfl rfl (Nat.le_of_ble_eq_true rfl) (Nat.le_of_ble_eq_true rfl) (Nat.le_of_ble_eq_true rfl) (Nat.le_of_ble_eq_true rfl) (Nat.le_of_ble_eq_true rfl) ?_
      exact xw_ireturn dZ_indexOf_36 rfl rfl (Nat.le_of_ble_eq_true rfl) (Nat.le_of_ble_eq_true rfl) ⟨by unfold xk_ix; rw [if_neg q], rfl⟩
    · have hz : (xk_by k).length = 0 := by
        rcases Nat.eq_zero_or_pos (xk_by k).length with e | e
        · exact e
        · exact absurd (show (0 : Int32) < t from by rw [ht]; exact nI_lt (a := 0) e (by omega)) q2
      refine xw_iconst (-1) dZ_indexOf_27 (by decide) ?_
      exact xw_ireturn dZ_indexOf_28 rfl rfl (Nat.le_of_ble_eq_true rfl) (Nat.le_of_ble_eq_true rfl) ⟨by unfold xk_ix; rw [if_neg q, List.length_eq_zero_iff.mp hz]; rfl, rfl⟩
  · refine xw_iconst (-1) dZ_indexOf_7 (by decide) ?_
    exact xw_ireturn dZ_indexOf_8 rfl rfl (Nat.le_of_ble_eq_true rfl) (Nat.le_of_ble_eq_true rfl) ⟨by unfold xk_ix; rw [if_pos q], rfl⟩
set_option maxRecDepth 20000 in
theorem CQ_indexOf2 {w : xw_G} {h : xw_H} {k : Nat} (hk : k < xk_N) {c : Int32} : xw_C w (mQ_indexOf_III { frames := 2, cells := 0, slots := 0, locals := 48 }) (xw_R (some (.int (xk_ix k c))) h) [.ref k, .int c, .int 0] h := by
  have h1 := xk_lt hk
  refine xw_enter rfl (by decide +kernel) (Nat.le_of_ble_eq_true rfl) ?_
  refine xw_aload_n dQ_indexOf_III_0 rfl ?_
  refine xg_K1 (k1 := 0) (n1 := 0) (cQ_isLatin1 w hk) rfl rfl rfl dQ_indexOf_III_1 (kQ_492 _) ⟨Nat.le_of_ble_eq_true rfl, Nat.le_of_ble_eq_true rfl⟩ rfl rfl (xk_mO hk) (by omega) (Nat.le_of_ble_eq_true rfl) (Nat.le_of_ble_eq_true rfl) (Nat.le_of_ble_eq_true rfl) (Nat.le_of_ble_eq_true rfl) (Nat.le_of_ble_eq_true rfl) ?_
  refine xw_if_eq 23 dQ_indexOf_III_4 (by decide) (fun q => absurd q (by decide)) (fun _ => ?_)
  refine xw_aload_n dQ_indexOf_III_7 rfl ?_
  refine xw_getK dQ_indexOf_III_8 tw_1409 (xk_mFv hk) (by omega) (xk_cv5 hk) ?_
  refine xw_iload_n dQ_indexOf_III_11 rfl ?_
  refine xw_iload_n dQ_indexOf_III_12 rfl ?_
  refine xw_aload_n dQ_indexOf_III_13 rfl ?_
  refine xg_K1 (k1 := 0) (n1 := 0) (cQ_length w hk) rfl rfl rfl dQ_indexOf_III_14 (kQ_505 _) ⟨Nat.le_of_ble_eq_true rfl, Nat.le_of_ble_eq_true rfl⟩ rfl rfl (xk_mO hk) (by omega) (Nat.le_of_ble_eq_true rfl) (Nat.le_of_ble_eq_true rfl) (Nat.le_of_ble_eq_true rfl) (Nat.le_of_ble_eq_true rfl) (Nat.le_of_ble_eq_true rfl) ?_
  refine xg_S1 (k1 := 0) (n1 := 0) (CZ_indexOf hk rfl) rfl rfl rfl dQ_indexOf_III_17 (kQ_637 _) ⟨Nat.le_of_ble_eq_true rfl, Nat.le_of_ble_eq_true rfl⟩ rfl rfl (Nat.le_of_ble_eq_true rfl) (Nat.le_of_ble_eq_true rfl) (Nat.le_of_ble_eq_true rfl) (Nat.le_of_ble_eq_true rfl) (Nat.le_of_ble_eq_true rfl) ?_
  refine xw_goto 36 dQ_indexOf_III_20 (by decide) ?_
  exact xw_ireturn dQ_indexOf_III_36 rfl rfl (Nat.le_of_ble_eq_true rfl) (Nat.le_of_ble_eq_true rfl) ⟨rfl, rfl⟩
set_option maxRecDepth 20000 in
theorem CQ_indexOf {w : xw_G} {h : xw_H} {k : Nat} (hk : k < xk_N) {c : Int32} : xw_C w (mQ_indexOf_II { frames := 3, cells := 0, slots := 0, locals := 70 }) (xw_R (some (.int (xk_ix k c))) h) [.ref k, .int c] h := by
  have h1 := xk_lt hk
  refine xw_enter rfl (by decide +kernel) (Nat.le_of_ble_eq_true rfl) ?_
  refine xw_aload_n dQ_indexOf_II_0 rfl ?_
  refine xw_iload_n dQ_indexOf_II_1 rfl ?_
  refine xw_iconst 0 dQ_indexOf_II_2 (by decide) ?_
  refine xg_K1 (k1 := 0) (n1 := 0) (CQ_indexOf2 hk) rfl rfl rfl dQ_indexOf_II_3 (kQ_633 _) ⟨Nat.le_of_ble_eq_true rfl, Nat.le_of_ble_eq_true rfl⟩ rfl rfl (xk_mO hk) (by omega) (Nat.le_of_ble_eq_true rfl) (Nat.le_of_ble_eq_true rfl) (Nat.le_of_ble_eq_true rfl) (Nat.le_of_ble_eq_true rfl) (Nat.le_of_ble_eq_true rfl) ?_
  exact xw_ireturn dQ_indexOf_II_6 rfl rfl (Nat.le_of_ble_eq_true rfl) (Nat.le_of_ble_eq_true rfl) ⟨rfl, rfl⟩
