def nL (n : Nat) : Int64 := Int64.ofNat n
theorem nL_toInt {n : Nat} (h : n < 2 ^ 63) : (nL n).toInt = n := by
  show (Int64.ofNat n).toInt = n
  rw [Int64.toInt_ofNat_of_lt h]
theorem nL_add {a b : Nat} : nL a + nL b = nL (a + b) := (Int64.ofNat_add a b).symm
theorem nL_mul {a b : Nat} : nL a * nL b = nL (a * b) := (Int64.ofNat_mul a b).symm
theorem nI_nL {n : Nat} (h : n < 100000) : (nI n).toInt64 = nL n := by
  apply Int64.toInt_inj.mp
  rw [Int32.toInt_toInt64, l_toInt h, nL_toInt (by omega)]
theorem nL_sub {a b : Nat} (h : b ≤ a) : nL a - nL b = nL (a - b) := by
  rw [show a = a - b + b by omega, ← nL_add, Int64.add_sub_cancel, Nat.add_sub_cancel]
theorem lgc_lt {a b : Nat} (ha : a < 2 ^ 63) (hb : b < 2 ^ 63) : lg_cmp (nL a) (nL b) < 0 ↔ a < b := by
  unfold lg_cmp
  have e1 : nL a > nL b ↔ b < a := by
    show nL b < nL a ↔ _
    rw [Int64.lt_iff_toInt_lt, nL_toInt ha, nL_toInt hb]; omega
  have e2 : nL a = nL b ↔ a = b := ⟨fun q => by
    have := congrArg Int64.toInt q
    rw [nL_toInt ha, nL_toInt hb] at this; omega, fun q => by rw [q]⟩
  by_cases h1 : b < a
  · rw [if_pos (e1.mpr h1)]; exact ⟨fun q => absurd q (by decide), fun q => by omega⟩
  · rw [if_neg (fun q => h1 (e1.mp q))]
    by_cases h2 : a = b
    · rw [if_pos (e2.mpr h2)]; exact ⟨fun q => absurd q (by decide), fun q => by omega⟩
    · rw [if_neg (fun q => h2 (e2.mp q))]; exact ⟨fun _ => by omega, fun _ => by decide⟩
theorem lgc_gt {a b : Nat} (ha : a < 2 ^ 63) (hb : b < 2 ^ 63) : 0 < lg_cmp (nL a) (nL b) ↔ b < a := by
  unfold lg_cmp
  have e1 : nL a > nL b ↔ b < a := by
    show nL b < nL a ↔ _
    rw [Int64.lt_iff_toInt_lt, nL_toInt ha, nL_toInt hb]; omega
  by_cases h1 : b < a
  · rw [if_pos (e1.mpr h1)]; exact ⟨fun _ => h1, fun _ => by decide⟩
  · rw [if_neg (fun q => h1 (e1.mp q))]
    refine ⟨fun q => ?_, fun q => absurd q h1⟩
    split at q <;> exact absurd q (by decide)
theorem lgc_eq {a b : Nat} (ha : a < 2 ^ 63) (hb : b < 2 ^ 63) : lg_cmp (nL a) (nL b) = 0 ↔ a = b := by
  unfold lg_cmp
  have e1 : nL a > nL b ↔ b < a := by
    show nL b < nL a ↔ _
    rw [Int64.lt_iff_toInt_lt, nL_toInt ha, nL_toInt hb]; omega
  have e2 : nL a = nL b ↔ a = b := ⟨fun q => by
    have := congrArg Int64.toInt q
    rw [nL_toInt ha, nL_toInt hb] at this; omega, fun q => by rw [q]⟩
  by_cases h1 : b < a
  · rw [if_pos (e1.mpr h1)]; exact ⟨fun q => absurd q (by decide), fun q => by omega⟩
  · rw [if_neg (fun q => h1 (e1.mp q))]
    by_cases h2 : a = b
    · rw [if_pos (e2.mpr h2)]; exact ⟨fun _ => h2, fun _ => rfl⟩
    · rw [if_neg (fun q => h2 (e2.mp q))]; exact ⟨fun q => absurd q (by decide), fun q => absurd q h2⟩
/-- a digit's value -/
def dv (c : Int32) : Nat := c.toNatClampNeg - 48
theorem i32_nI {c : Int32} {n : Nat} (h : c.toInt = n) (hn : n < 100000) : c = nI n := Int32.toInt_inj.mp (by rw [h, l_toInt hn])
theorem dg_v {c : Int32} (h : ¬ sM_digit c = 0) : dv c < 10 ∧ c = nI (48 + dv c) := by
  unfold sM_digit at h
  have t48 : (48 : Int32).toInt = 48 := rfl
  have t57 : (57 : Int32).toInt = 57 := rfl
  have h1 : ¬ c < 48 := fun q => h (by rw [if_pos q])
  have h2 : ¬ 57 < c := fun q => h (by rw [if_neg h1, if_pos q])
  rw [Int32.lt_iff_toInt_lt] at h1 h2
  obtain ⟨d, hd⟩ : ∃ d : Nat, c.toInt = 48 + d := ⟨(c.toInt - 48).toNat, by omega⟩
  have e : c = nI (48 + d) := i32_nI (by omega) (by omega)
  have e2 : dv c = d := by unfold dv; rw [e, mI_cl (by omega)]; omega
  rw [e2]
  exact ⟨by omega, e⟩
/-- the value of k digits from p on, behind a -/
def vn (b : Nat → Int32) (N : Nat) : Nat → Nat → Nat → Nat
  | 0, _, a => a
  | k + 1, p, a => vn b N k (p + 1) (10 * a + dv (xc b N p))
/-- digits stand in p .. p + k -/
def alld (b : Nat → Int32) (N p k : Nat) : Prop := ∀ i, i < k → ¬ sM_digit (xc b N (p + i)) = 0
theorem alld_s {b : Nat → Int32} {N p k : Nat} (h : alld b N p (k + 1)) : ¬ sM_digit (xc b N p) = 0 ∧ alld b N (p + 1) k := ⟨h 0 (by omega), fun i hi => by rw [show p + 1 + i = p + (i + 1) by omega]; exact h (i + 1) (by omega)⟩
theorem dst_all {b : Nat → Int32} {N : Nat} : ∀ k p, alld b N p (dst b N k p - p)
  | 0, p => fun i hi => by
    have : dst b N 0 p = p := rfl
    omega
  | k + 1, p => by
    unfold dst
    by_cases q : sM_digit (xc b N p) = 0
    · rw [if_pos q]; intro i hi; omega
    · rw [if_neg q]
      have ih := dst_all (b := b) (N := N) k (p + 1)
      have hg := dst_ge (b := b) (N := N) k (p + 1)
      intro i hi
      cases i with
      | zero => exact q
      | succ i =>
        rw [show p + (i + 1) = p + 1 + i by omega]
        exact ih i (by omega)
theorem vn_lt {b : Nat → Int32} {N : Nat} : ∀ k p a j, alld b N p k → a < 10 ^ j → vn b N k p a < 10 ^ (j + k)
  | 0, p, a, j, _, h => h
  | k + 1, p, a, j, hd, h => by
    have := (dg_v (alld_s hd).1).1
    have e := vn_lt k (p + 1) (10 * a + dv (xc b N p)) (j + 1) (alld_s hd).2 (by rw [Nat.pow_succ]; omega)
    rw [show j + (k + 1) = j + 1 + k by omega]
    exact e
theorem FP_val_5 {b : Nat → Int32} {N q : Nat} (hN2 : N ≤ 2000) (hq : q ≤ N) {s : xPs} : ∀ (fu k p a : Nat), p + k = q → k < fu → alld b N p k → FP_valueOf_5 (b, nI N) fu (nI q) (nL a) (nI p) s = some (nL (vn b N k p a)) := by
  intro fu
  induction fu with
  | zero => intro k p a _ h; omega
  | succ fu ih =>
    intro k p a hk hf hd
    rw [FP_valueOf_5]
    cases k with
    | zero => rw [if_pos ((mI_le (by omega) (by omega)).mpr (by omega))]; rfl
    | succ k =>
      rw [if_neg (fun q => absurd ((mI_le (by omega) (by omega)).mp q) (by omega)), FB_at_n hN2 (by omega), Option.bind_some, mI_s]
      obtain ⟨d1, d2⟩ := dg_v (alld_s hd).1
      have e : nL a * 10 + (xc b N p).toInt64 - 48 = nL (10 * a + dv (xc b N p)) := by
        conv => lhs; rw [d2]
        rw [nI_nL (by omega), show (10 : Int64) = nL 10 from rfl, show (48 : Int64) = nL 48 from rfl, nL_mul, nL_add, nL_sub (by omega)]
        exact congrArg nL (by omega)
      rw [e]
      exact ih k (p + 1) _ (by omega) (by omega) (alld_s hd).2
theorem FP_val {b : Nat → Int32} {N p q : Nat} (hN2 : N ≤ 2000) (hpq : p ≤ q) (hq : q ≤ N) (hd : alld b N p (q - p)) {s : xPs} : FP_valueOf (b, nI N) (nI p) (nI q) s = some (nL (vn b N (q - p) p 0)) := FP_val_5 hN2 hq xFuel (q - p) p 0 (by omega) (by show _ < 5000; omega) hd
/-- behind a $ -/
def bm (b : Nat → Int32) (N p : Nat) : Nat := if xc b N p = 36 then p + 1 else p
theorem bm_le {b : Nat → Int32} {N p : Nat} : p ≤ bm b N p ∧ bm b N p ≤ p + 1 := by unfold bm; split <;> omega
theorem bm_N {b : Nat → Int32} {N p : Nat} (h : p ≤ N) : bm b N p ≤ N := by
  unfold bm
  split
  · next q => exact xc_in q (by decide)
  · exact h
theorem FP_bm {b : Nat → Int32} {N p : Nat} (hN2 : N ≤ 2000) (hp : p < 90000) {s : xPs} : FP_behindMark (b, nI N) (nI p) s = some (nI (bm b N p)) := by
  unfold FP_behindMark bm
  rw [FB_at_n hN2 hp, Option.bind_some]
  by_cases q : xc b N p = 36
  · rw [if_pos q, if_pos q, mI_s]
  · rw [if_neg q, if_neg q]
/-- a CELL at p: the letter, the digits, behind it, the row's number -/
def cl1 (b : Nat → Int32) (N p : Nat) : Nat := bm b N p
def cd1 (b : Nat → Int32) (N p : Nat) : Nat := bm b N (cl1 b N p + 1)
def ce1 (b : Nat → Int32) (N p : Nat) : Nat := dst b N 2 (cd1 b N p)
def cv1 (b : Nat → Int32) (N p : Nat) : Nat := vn b N (ce1 b N p - cd1 b N p) (cd1 b N p) 0
abbrev isCell (b : Nat → Int32) (N p : Nat) : Prop := ¬ sM_letter (xc b N (cl1 b N p)) = 0 ∧ ¬ xc b N (cd1 b N p) = 48 ∧ 1 ≤ cv1 b N p ∧ cv1 b N p ≤ 80 ∧ sP_isBarredBehindCell (xc b N (ce1 b N p)) = 0
theorem lt_in {b : Nat → Int32} {N p : Nat} (h : ¬ sM_letter (xc b N p) = 0) : p < N := by
  refine Nat.not_le.mp fun q => h ?_
  rw [xc_out q]; rfl
theorem FP_cell_y {b : Nat → Int32} {N p : Nat} (hN2 : N ≤ 2000) (hp : p ≤ N) (h : isCell b N p) {s : xPs} : FP_cellStop (b, nI N) (nI p) s = some (nI (ce1 b N p)) := by
  obtain ⟨h1, h2, h3, h4, h5⟩ := h
  have l1 := lt_in h1
  have b1 := bm_le (b := b) (N := N) (p := cl1 b N p + 1)
  have b2 := bm_N (b := b) (N := N) (p := cl1 b N p + 1) (by omega)
  have b3 := dst_le (b := b) (N := N) 2 (cd1 b N p) b2
  have b4 := dst_ge (b := b) (N := N) 2 (cd1 b N p)
  have hv : cv1 b N p < 10 ^ (0 + (ce1 b N p - cd1 b N p)) := vn_lt _ _ _ _ (dst_all _ _) (by decide)
  unfold FP_cellStop
  rw [FP_bm hN2 (by omega), Option.bind_some, show nI (bm b N p) = nI (cl1 b N p) from rfl, FB_at_n hN2 (by omega), Option.bind_some, if_neg (show ¬ sP_isCapital (xc b N (cl1 b N p)) = 0 from h1), mI_s, FP_bm hN2 (by omega), Option.bind_some, show nI (bm b N (cl1 b N p + 1)) = nI (cd1 b N p) from rfl, show (2 : Int32) = nI 2 from rfl, FP_dst hN2 (by show bm b N (cl1 b N p + 1) < _; omega) (by decide), Option.bind_some, show nI (dst b N 2 (cd1 b N p)) = nI (ce1 b N p) from rfl, FP_val (p := cd1 b N p) (q := ce1 b N p) hN2 b4.1 b3 (dst_all _ _), Option.bind_some, show vn b N (ce1 b N p - cd1 b N p) (cd1 b N p) 0 = cv1 b N p from rfl, FB_at_n hN2 (by show bm b N (cl1 b N p + 1) < _; omega), Option.bind_some, if_neg h2, show (1 : Int64) = nL 1 from rfl, if_neg (fun q => absurd ((lgc_lt (by omega) (by decide)).mp q) (by omega)), show (80 : Int64) = nL 80 from rfl, if_neg (fun q => absurd ((lgc_gt (by omega) (by decide)).mp q) (by omega)), FB_at_n hN2 (by show dst b N 2 (cd1 b N p) < _; omega), Option.bind_some, if_pos h5]
theorem FP_cell_n {b : Nat → Int32} {N p : Nat} (hN2 : N ≤ 2000) (hp : p ≤ N) (h : ¬ isCell b N p) {s : xPs} : FP_cellStop (b, nI N) (nI p) s = some (-1) := by
  have b0 := bm_N (b := b) (N := N) (p := p) hp
  unfold FP_cellStop
  rw [FP_bm hN2 (by omega), Option.bind_some, show nI (bm b N p) = nI (cl1 b N p) from rfl, FB_at_n hN2 (by show bm b N p < _; omega), Option.bind_some]
  by_cases h1 : sM_letter (xc b N (cl1 b N p)) = 0
  · rw [if_pos (show sP_isCapital (xc b N (cl1 b N p)) = 0 from h1)]
  · have l1 := lt_in h1
    have b1 := bm_le (b := b) (N := N) (p := cl1 b N p + 1)
    have b2 := bm_N (b := b) (N := N) (p := cl1 b N p + 1) (by omega)
    have b3 := dst_le (b := b) (N := N) 2 (cd1 b N p) b2
    have b4 := dst_ge (b := b) (N := N) 2 (cd1 b N p)
    have hv : cv1 b N p < 10 ^ (0 + (ce1 b N p - cd1 b N p)) := vn_lt _ _ _ _ (dst_all _ _) (by decide)
    have hv2 : cv1 b N p < 100 := Nat.lt_of_lt_of_le hv (by
      have : ce1 b N p - cd1 b N p ≤ 2 := by show dst b N 2 (cd1 b N p) - cd1 b N p ≤ 2; omega
      show 10 ^ (0 + (ce1 b N p - cd1 b N p)) ≤ 10 ^ 2
      exact Nat.pow_le_pow_right (by decide) (by omega))
    rw [if_neg (show ¬ sP_isCapital (xc b N (cl1 b N p)) = 0 from h1), mI_s, FP_bm hN2 (by omega), Option.bind_some, show nI (bm b N (cl1 b N p + 1)) = nI (cd1 b N p) from rfl, show (2 : Int32) = nI 2 from rfl, FP_dst hN2 (by show bm b N (cl1 b N p + 1) < _; omega) (by decide), Option.bind_some, show nI (dst b N 2 (cd1 b N p)) = nI (ce1 b N p) from rfl, FP_val (p := cd1 b N p) (q := ce1 b N p) hN2 b4.1 b3 (dst_all _ _), Option.bind_some, show vn b N (ce1 b N p - cd1 b N p) (cd1 b N p) 0 = cv1 b N p from rfl, FB_at_n hN2 (by show bm b N (cl1 b N p + 1) < _; omega), Option.bind_some]
    by_cases h2 : xc b N (cd1 b N p) = 48
    · rw [if_pos h2]
    · rw [if_neg h2, show (1 : Int64) = nL 1 from rfl]
      by_cases h3 : cv1 b N p < 1
      · rw [if_pos ((lgc_lt (by omega) (by decide)).mpr h3)]
      · rw [if_neg (fun q => h3 ((lgc_lt (by omega) (by decide)).mp q)), show (80 : Int64) = nL 80 from rfl]
        by_cases h4 : 80 < cv1 b N p
        · rw [if_pos ((lgc_gt (by omega) (by decide)).mpr h4)]
        · rw [if_neg (fun q => h4 ((lgc_gt (by omega) (by decide)).mp q)), FB_at_n hN2 (by show dst b N 2 (cd1 b N p) < _; omega), Option.bind_some, if_neg (fun q => h ⟨h1, h2, by omega, by omega, q⟩)]
/-- the two edges of a CELL as the class has them -/
def crw (b : Nat → Int32) (N p : Nat) : Int32 := sA_edge (nI (cv1 b N p - 1)) (if cd1 b N p ≤ cl1 b N p + 1 then 0 else 1)
def ccl (b : Nat → Int32) (N p : Nat) : Int32 := sA_edge (xc b N (cl1 b N p) - 65) (if cl1 b N p ≤ p then 0 else 1)
theorem FP_row {b : Nat → Int32} {N p : Nat} (hN2 : N ≤ 2000) (hp : p ≤ N) (h : isCell b N p) {s : xPs} : FP_rowOf (b, nI N) (nI p) (nI (ce1 b N p)) s = some (crw b N p) := by
  obtain ⟨h1, h2, h3, h4, h5⟩ := h
  have l1 := lt_in h1
  have b1 := bm_le (b := b) (N := N) (p := cl1 b N p + 1)
  have b2 := bm_N (b := b) (N := N) (p := cl1 b N p + 1) (by omega)
  have b3 := dst_le (b := b) (N := N) 2 (cd1 b N p) b2
  have b4 := dst_ge (b := b) (N := N) 2 (cd1 b N p)
  have e : (nL (cv1 b N p)).toInt32 - 1 = nI (cv1 b N p - 1) := by
    have : (nL (cv1 b N p)).toInt32 = nI (cv1 b N p) := by
      rw [← nI_nL (by omega)]
      exact Int32.toInt32_toInt64 _
    rw [this, show cv1 b N p = cv1 b N p - 1 + 1 by omega, ← mI_s, Int32.add_sub_cancel, Nat.add_sub_cancel]
  unfold FP_rowOf crw
  rw [FP_bm hN2 (by omega), Option.bind_some, show nI (bm b N p) = nI (cl1 b N p) from rfl, mI_s, FP_bm hN2 (by omega), Option.bind_some, show nI (bm b N (cl1 b N p + 1)) = nI (cd1 b N p) from rfl, FP_val (p := cd1 b N p) (q := ce1 b N p) hN2 b4.1 b3 (dst_all _ _), Option.bind_some, show vn b N (ce1 b N p - cd1 b N p) (cd1 b N p) 0 = cv1 b N p from rfl, e]
  by_cases q : cd1 b N p ≤ cl1 b N p + 1
  · rw [if_pos ((mI_le (by show bm b N (cl1 b N p + 1) < _; omega) (by omega)).mpr q), if_pos q]
  · rw [if_neg (fun q2 => q ((mI_le (by show bm b N (cl1 b N p + 1) < _; omega) (by omega)).mp q2)), if_neg q]
theorem FP_col {b : Nat → Int32} {N p : Nat} (hN2 : N ≤ 2000) (hp : p ≤ N) {s : xPs} : FP_columnOf (b, nI N) (nI p) s = some (ccl b N p) := by
  have b0 := bm_N (b := b) (N := N) (p := p) hp
  unfold FP_columnOf ccl
  rw [FP_bm hN2 (by omega), Option.bind_some, show nI (bm b N p) = nI (cl1 b N p) from rfl, FB_at_n hN2 (by show bm b N p < _; omega), Option.bind_some]
  by_cases q : cl1 b N p ≤ p
  · rw [if_pos ((mI_le (by show bm b N p < _; omega) (by omega)).mpr q), if_pos q]
  · rw [if_neg (fun q2 => q ((mI_le (by show bm b N p < _; omega) (by omega)).mp q2)), if_neg q]
