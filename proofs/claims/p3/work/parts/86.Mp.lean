/-- the digits from p on -/
def dgl (b : Nat → Int32) (N : Nat) : Nat → Nat → List Nat
  | _, 0 => []
  | p, k + 1 => dv (xc b N p) :: dgl b N (p + 1) k
theorem dgl_snoc {b : Nat → Int32} {N : Nat} : ∀ k p, dgl b N p (k + 1) = dgl b N p k ++ [dv (xc b N (p + k))]
  | 0, p => rfl
  | k + 1, p => by
    show dv (xc b N p) :: dgl b N (p + 1) (k + 1) = dv (xc b N p) :: (dgl b N (p + 1) k ++ _)
    rw [dgl_snoc k (p + 1), show p + 1 + k = p + (k + 1) by omega]
theorem dgl_byt {b : Nat → Int32} {N : Nat} : ∀ k p, alld b N p k → (dgl b N p k).map chD = byt b N p k
  | 0, p, _ => rfl
  | k + 1, p, h => by
    have a := alld_s h
    show chD (dv (xc b N p)) :: (dgl b N (p + 1) k).map chD = .inl (xc b N p) :: byt b N (p + 1) k
    rw [dgl_byt k (p + 1) a.2]
    unfold chD
    rw [← (dg_v a.1).2]
theorem byt_app {b : Nat → Int32} {N : Nat} : ∀ j k p, byt b N p (j + k) = byt b N p j ++ byt b N (p + j) k
  | 0, k, p => by rw [Nat.zero_add]; rfl
  | j + 1, k, p => by
    rw [show j + 1 + k = j + k + 1 by omega]
    show .inl (xc b N p) :: byt b N (p + 1) (j + k) = .inl (xc b N p) :: (byt b N (p + 1) j ++ _)
    rw [byt_app j k (p + 1), show p + 1 + j = p + (j + 1) by omega]
theorem vn_snoc {b : Nat → Int32} {N : Nat} : ∀ k p a, vn b N (k + 1) p a = 10 * vn b N k p a + dv (xc b N (p + k))
  | 0, p, a => rfl
  | k + 1, p, a => by
    show vn b N (k + 1) (p + 1) (10 * a + dv (xc b N p)) = 10 * vn b N k (p + 1) (10 * a + dv (xc b N p)) + _
    rw [vn_snoc k (p + 1), show p + 1 + k = p + (k + 1) by omega]
theorem vn_ge {b : Nat → Int32} {N : Nat} : ∀ k p a, a ≤ vn b N k p a
  | 0, _, _ => Nat.le_refl _
  | k + 1, p, a => by
    have := vn_ge (b := b) (N := N) k (p + 1) (10 * a + dv (xc b N p))
    show a ≤ vn b N k (p + 1) (10 * a + dv (xc b N p))
    omega
theorem dig_1 {d : Nat} (h : d < 10) : ∀ f, dig f d = [d]
  | 0 => rfl
  | f + 1 => by
    unfold dig
    rw [if_pos h]
theorem dig_vn {b : Nat → Int32} {N p : Nat} : ∀ k f, k ≤ f → alld b N p (k + 1) → (k = 0 ∨ ¬ dv (xc b N p) = 0) → dig f (vn b N (k + 1) p 0) = dgl b N p (k + 1)
  | 0, f, _, h, _ => by
    have d := (dg_v (alld_s h).1).1
    show dig f (10 * 0 + dv (xc b N p)) = _
    rw [show 10 * 0 + dv (xc b N p) = dv (xc b N p) by omega, dig_1 d]
    rfl
  | k + 1, f, hf, h, hz => by
    have hz : ¬ dv (xc b N p) = 0 := by rcases hz with z | z; (exact absurd z (by omega)); (exact z)
    obtain ⟨f, rfl⟩ : ∃ g, f = g + 1 := ⟨f - 1, by omega⟩
    have h1 : alld b N p (k + 1) := fun i hi => h i (by omega)
    have d := (dg_v (h (k + 1) (by omega))).1
    have ge := vn_ge (b := b) (N := N) k (p + 1) (10 * 0 + dv (xc b N p))
    have pos : 1 ≤ vn b N (k + 1) p 0 := by
      show 1 ≤ vn b N k (p + 1) (10 * 0 + dv (xc b N p))
      omega
    rw [vn_snoc (k + 1) p 0, dgl_snoc (k + 1) p, ← dig_vn k f (by omega) h1 (Or.inr hz)]
    generalize vn b N (k + 1) p 0 = u at *
    generalize dv (xc b N (p + (k + 1))) = d0 at *
    conv => lhs; unfold dig
    rw [if_neg (by omega), show (10 * u + d0) / 10 = u by omega, show (10 * u + d0) % 10 = d0 by omega]
/-- leading zeros -/
theorem lz_vn {b : Nat → Int32} {N w : Nat} : ∀ k p, p + k < w → vn b N (w - lzf b N k p) (lzf b N k p) 0 = vn b N (w - p) p 0
  | 0, p, _ => rfl
  | k + 1, p, h => by
    unfold lzf
    by_cases q : xc b N p = 48
    · rw [if_pos q, lz_vn k (p + 1) (by omega)]
      obtain ⟨j, hj⟩ : ∃ j, w - p = j + 1 := ⟨w - p - 1, by omega⟩
      rw [hj, show w - (p + 1) = j by omega]
      show vn b N j (p + 1) 0 = vn b N j (p + 1) (10 * 0 + dv (xc b N p))
      rw [q]; rfl
    · rw [if_neg q]
theorem lz_end {b : Nat → Int32} {N : Nat} : ∀ k p, lzf b N k p = p + k ∨ ¬ xc b N (lzf b N k p) = 48
  | 0, p => Or.inl rfl
  | k + 1, p => by
    unfold lzf
    by_cases q : xc b N p = 48
    · rw [if_pos q]
      rcases lz_end (b := b) (N := N) k (p + 1) with z | z
      · exact Or.inl (by omega)
      · exact Or.inr z
    · rw [if_neg q]; exact Or.inr q
-- the fraction
/-- t digits from p on, k places -/
def fv (b : Nat → Int32) (N : Nat) : Nat → Nat → Nat → Nat
  | 0, _, _ => 0
  | _ + 1, 0, _ => 0
  | t + 1, k + 1, p => dv (xc b N p) * 10 ^ k + fv b N t k (p + 1)
theorem fv_lt {b : Nat → Int32} {N : Nat} : ∀ t k p, alld b N p t → fv b N t k p < 10 ^ k
  | 0, k, _, _ => Nat.pow_pos (by decide)
  | _ + 1, 0, _, _ => by show 0 < 10 ^ 0; decide
  | t + 1, k + 1, p, h => by
    have a := alld_s h
    have d := (dg_v a.1).1
    have r := fv_lt t k (p + 1) a.2
    show dv (xc b N p) * 10 ^ k + fv b N t k (p + 1) < 10 ^ (k + 1)
    have : dv (xc b N p) * 10 ^ k ≤ 9 * 10 ^ k := Nat.mul_le_mul_right _ (by omega)
    rw [Nat.pow_succ]
    omega
/-- how many of t digits are left without the zeros behind -/
def tzl (b : Nat → Int32) (N : Nat) : Nat → Nat → Nat
  | 0, _ => 0
  | t + 1, p => if tzl b N t (p + 1) = 0 ∧ dv (xc b N p) = 0 then 0 else tzl b N t (p + 1) + 1
theorem tzl_le {b : Nat → Int32} {N : Nat} : ∀ t p, tzl b N t p ≤ t
  | 0, _ => Nat.le_refl _
  | t + 1, p => by
    have := tzl_le (b := b) (N := N) t (p + 1)
    unfold tzl
    by_cases q : tzl b N t (p + 1) = 0 ∧ dv (xc b N p) = 0
    · rw [if_pos q]; omega
    · rw [if_neg q]; omega
theorem tzl_snoc {b : Nat → Int32} {N : Nat} : ∀ t p, tzl b N (t + 1) p = if dv (xc b N (p + t)) = 0 then tzl b N t p else t + 1
  | 0, p => by
    have e : tzl b N (0 + 1) p = if tzl b N 0 (p + 1) = 0 ∧ dv (xc b N p) = 0 then 0 else tzl b N 0 (p + 1) + 1 := rfl
    have t0 : tzl b N 0 (p + 1) = 0 := rfl
    rw [e]
    show _ = if dv (xc b N p) = 0 then tzl b N 0 p else 0 + 1
    by_cases q : dv (xc b N p) = 0
    · rw [if_pos ⟨t0, q⟩, if_pos q]
      rfl
    · rw [if_neg (fun z => q z.2), if_neg q]
      rfl
  | t + 1, p => by
    have ih := tzl_snoc (b := b) (N := N) t (p + 1)
    rw [show p + 1 + t = p + (t + 1) by omega] at ih
    conv => lhs; unfold tzl
    rw [ih]
    by_cases q : dv (xc b N (p + (t + 1))) = 0
    · rw [if_pos q, if_pos q]
      conv => rhs; unfold tzl
    · rw [if_neg q, if_neg q, if_neg (fun z => absurd z.1 (by omega))]
theorem frc_fv {b : Nat → Int32} {N : Nat} : ∀ t k p, t ≤ k → alld b N p t → frc k (fv b N t k p) = dgl b N p (tzl b N t p)
  | 0, 0, p, _, _ => rfl
  | 0, k + 1, p, _, _ => by
    show frc (k + 1) 0 = []
    unfold frc
    rw [if_pos rfl]
  | t + 1, 0, p, h, _ => absurd h (by omega)
  | t + 1, k + 1, p, h, hd => by
    have a := alld_s hd
    have r := fv_lt (N := N) t k (p + 1) a.2
    have ih := frc_fv t k (p + 1) (by omega) a.2
    show frc (k + 1) (dv (xc b N p) * 10 ^ k + fv b N t k (p + 1)) = _
    generalize hF : fv b N t k (p + 1) = F at *
    generalize hD : dv (xc b N p) = D at *
    have hpos : 0 < 10 ^ k := Nat.pow_pos (by decide)
    have z0 : F = 0 → tzl b N t (p + 1) = 0 := fun z => by
      rw [z] at ih
      have e0 : frc k 0 = [] := by
        cases k with
        | zero => rfl
        | succ k => unfold frc; rw [if_pos rfl]
      rw [e0] at ih
      cases e : tzl b N t (p + 1) with
      | zero => rfl
      | succ n => rw [e] at ih; cases ih
    have z1 : tzl b N t (p + 1) = 0 → F = 0 := fun z => by
      rw [z] at ih
      have ih : frc k F = [] := ih
      cases k with
      | zero =>
        have : F < 1 := r
        omega
      | succ k =>
        unfold frc at ih
        by_cases q : F = 0
        · exact q
        · rw [if_neg q] at ih; cases ih
    have e1 : (D * 10 ^ k + F) / 10 ^ k = D := by rw [Nat.mul_comm, Nat.mul_add_div hpos, Nat.div_eq_of_lt r]; rfl
    have e2 : (D * 10 ^ k + F) % 10 ^ k = F := by rw [Nat.mul_comm, Nat.mul_add_mod, Nat.mod_eq_of_lt r]
    unfold frc tzl
    rw [hD]
    by_cases q : D * 10 ^ k + F = 0
    · have q1 : F = 0 := by omega
      have q2 : D = 0 := by
        have : D * 10 ^ k = 0 := by omega
        rcases Nat.mul_eq_zero.mp this with z | z
        · exact z
        · omega
      rw [if_pos q, if_pos ⟨z0 q1, q2⟩]
      rfl
    · rw [if_neg q, if_neg (fun z => q (by rw [z1 z.1, z.2]; simp)), e1, e2, ih]
      show _ = dv (xc b N p) :: dgl b N (p + 1) (tzl b N t (p + 1))
      rw [hD]
theorem tz_tzl {b : Nat → Int32} {N w : Nat} (hw : xc b N w = 46) : ∀ t, alld b N (w + 1) t → tzf b N w (t + 1) = if tzl b N t (w + 1) = 0 then w else w + 1 + tzl b N t (w + 1)
  | 0, _ => by
    unfold tzf
    rw [if_pos (Or.inr (show xc b N (w + 0) = 46 from hw)), if_pos (show tzl b N 0 (w + 1) = 0 from rfl)]
    rfl
  | t + 1, h => by
    have ih := tz_tzl hw t (fun i hi => h i (by omega))
    have d := dg_v (h t (by omega))
    rw [show w + 1 + t = w + (t + 1) by omega] at d
    conv => lhs; unfold tzf
    rw [tzl_snoc, show w + 1 + t = w + (t + 1) by omega]
    by_cases q : dv (xc b N (w + (t + 1))) = 0
    · have q2 : xc b N (w + (t + 1)) = 48 := by rw [d.2, q]; rfl
      rw [if_pos (Or.inl q2), if_pos q, ih]
    · have q2 : ¬ (xc b N (w + (t + 1)) = 48 ∨ xc b N (w + (t + 1)) = 46) := fun z => by
        rcases z with z | z
        · rw [z] at q; exact q rfl
        · have := d.2
          rw [z] at this
          have := mI_inj (a := 46) (b := 48 + dv 46) (by decide) (by decide) this
          omega
      rw [if_neg q2, if_neg q, if_neg (by omega)]
      omega
/-- the value of the number at q, in ten-thousandths -/
def nV (b : Nat → Int32) (N q : Nat) : Nat := vn b N (nws b N q - q) q 0 * 10000 + (if xc b N (nws b N q) = 46 ∧ ¬ sM_digit (xc b N (nws b N q + 1)) = 0 then fv b N (nstp b N q - (nws b N q + 1)) 4 (nws b N q + 1) else 0)
theorem num_all {b : Nat → Int32} {N q : Nat} (hd : ¬ sM_digit (xc b N q) = 0) : q < nws b N q ∧ q ≤ nfr b N q ∧ nfr b N q < nws b N q ∧ nws b N q ≤ q + 11 ∧ nvl b N q = vn b N (nws b N q - q) q 0 ∧ dig 20 (vn b N (nws b N q - q) q 0) = dgl b N (nfr b N q) (nws b N q - nfr b N q) ∧ alld b N (nfr b N q) (nws b N q - nfr b N q) := by
  have al := dst_all (b := b) (N := N) 11 q
  have h1 : q < nws b N q := by
    have e : dst b N 11 q = if sM_digit (xc b N q) = 0 then q else dst b N 10 (q + 1) := rfl
    show q < dst b N 11 q
    rw [e, if_neg hd]
    have := dst_ge (b := b) (N := N) 10 (q + 1)
    omega
  have h2 := dst_ge (b := b) (N := N) 11 q
  have h3 := lzf_ge (b := b) (N := N) (nws b N q - 1 - q) q
  have h4 : q ≤ nfr b N q ∧ nfr b N q < nws b N q := by unfold nfr; omega
  have h5 : nvl b N q = vn b N (nws b N q - q) q 0 := lz_vn (w := nws b N q) (nws b N q - 1 - q) q (by omega)
  have al2 : alld b N (nfr b N q) (nws b N q - nfr b N q) := fun i hi => by
    rw [show nfr b N q + i = q + (nfr b N q - q + i) by omega]
    exact al (nfr b N q - q + i) (by show _ < nws b N q - q; omega)
  refine ⟨h1, h4.1, h4.2, h2.2, h5, ?_, al2⟩
  rw [← h5]
  unfold nvl
  obtain ⟨k, hk⟩ : ∃ k, nws b N q - nfr b N q = k + 1 := ⟨nws b N q - nfr b N q - 1, by omega⟩
  have hn : nws b N q ≤ q + 11 := h2.2
  rw [hk] at al2 ⊢
  refine dig_vn k 20 (by omega) al2 ?_
  rcases lz_end (b := b) (N := N) (nws b N q - 1 - q) q with z | z
  · have z : nfr b N q = q + (nws b N q - 1 - q) := z
    exact Or.inl (by omega)
  · refine Or.inr fun y => z ?_
    have z2 := (dg_v (alld_s al2).1).2
    rw [y] at z2
    exact z2
/-- what the number shows, and when it is too large -/
theorem num_pr {b : Nat → Int32} {N q : Nat} (hd : ¬ sM_digit (xc b N q) = 0) : prN (nV b N q) = byt b N (nfr b N q) (nto b N q - nfr b N q) ∧ (900000000000000 < nV b N q ↔ (90000000000 < nvl b N q ∨ (nvl b N q = 90000000000 ∧ nws b N q < nto b N q))) ∧ nV b N q < 2 ^ 60 := by
  obtain ⟨h1, h2, h3, h4, h5, h6, h7⟩ := num_all hd
  have hb : vn b N (nws b N q - q) q 0 < 10 ^ 11 := by
    have al := dst_all (b := b) (N := N) 11 q
    have := vn_lt (b := b) (N := N) (nws b N q - q) q 0 0 al (by decide)
    have p2 : 10 ^ (0 + (nws b N q - q)) ≤ 10 ^ 11 := Nat.pow_le_pow_right (by decide) (by omega)
    omega
  have p11 : 10 ^ 11 = 100000000000 := by decide
  have e8 : (dig 20 (vn b N (nws b N q - q) q 0)).map chD = byt b N (nfr b N q) (nws b N q - nfr b N q) := by rw [h6, dgl_byt _ _ h7]
  rw [h5]
  unfold prN nV
  generalize hW : vn b N (nws b N q - q) q 0 = W at *
  by_cases z : xc b N (nws b N q) = 46 ∧ ¬ sM_digit (xc b N (nws b N q + 1)) = 0
  · have ns : nstp b N q = dst b N 4 (nws b N q + 1) := by unfold nstp; rw [if_pos z]
    have dg := dst_ge (b := b) (N := N) 4 (nws b N q + 1)
    have al4 := dst_all (b := b) (N := N) 4 (nws b N q + 1)
    rw [← ns] at dg al4
    have lt := fv_lt (nstp b N q - (nws b N q + 1)) 4 (nws b N q + 1) al4
    have fr := frc_fv (nstp b N q - (nws b N q + 1)) 4 (nws b N q + 1) (by omega) al4
    have tz := tz_tzl z.1 (nstp b N q - (nws b N q + 1)) al4
    rw [show nstp b N q - (nws b N q + 1) + 1 = nstp b N q - nws b N q by omega] at tz
    have tz : nto b N q = _ := tz
    have tl := tzl_le (b := b) (N := N) (nstp b N q - (nws b N q + 1)) (nws b N q + 1)
    rw [if_pos z]
    generalize hF : fv b N (nstp b N q - (nws b N q + 1)) 4 (nws b N q + 1) = F at *
    generalize hT : tzl b N (nstp b N q - (nws b N q + 1)) (nws b N q + 1) = T at *
    have p4 : 10 ^ 4 = 10000 := by decide
    rw [p4] at lt
    have d1 : (W * 10000 + F) / 10000 = W := by omega
    have d2 : (W * 10000 + F) % 10000 = F := by omega
    have f0 : F = 0 ↔ T = 0 := by
      constructor
      · intro y
        rw [y] at fr
        have e0 : frc 4 0 = [] := rfl
        rw [e0] at fr
        cases T with
        | zero => rfl
        | succ n => cases fr
      · intro y
        rw [y] at fr
        have fr : frc 4 F = [] := fr
        unfold frc at fr
        by_cases y2 : F = 0
        · exact y2
        · rw [if_neg y2] at fr; cases fr
    rw [d1, d2, e8]
    refine ⟨?_, ?_, by omega⟩
    · by_cases y : F = 0
      · rw [if_pos y, List.append_nil]
        rw [if_pos (f0.mp y)] at tz
        rw [tz]
      · have y2 : ¬ T = 0 := fun w => y (f0.mpr w)
        rw [if_neg y2] at tz
        rw [if_neg y, fr, dgl_byt T _ (fun i hi => al4 i (by omega)), show nto b N q - nfr b N q = (nws b N q - nfr b N q) + (T + 1) by omega, byt_app, show nfr b N q + (nws b N q - nfr b N q) = nws b N q by omega]
        show _ = _ ++ .inl (xc b N (nws b N q)) :: byt b N (nws b N q + 1) T
        rw [z.1]
    · by_cases y : F = 0
      · rw [if_pos (f0.mp y)] at tz
        omega
      · have y2 : ¬ T = 0 := fun w => y (f0.mpr w)
        rw [if_neg y2] at tz
        omega
  · have ns : nstp b N q = nws b N q := by unfold nstp; rw [if_neg z]
    have tz : nto b N q = nws b N q := by unfold nto; rw [ns, Nat.sub_self]; rfl
    rw [if_neg z, Nat.add_zero, show W * 10000 / 10000 = W by omega, if_pos (by omega), List.append_nil, e8, tz]
    exact ⟨rfl, by omega, by omega⟩
-- the reference's digits()
def pw5 : Nat → Int64
  | 0 => 0
  | 1 => 1
  | 2 => 10
  | 3 => 100
  | _ => 1000
theorem pw5_s : ∀ k, k < 4 → pw5 (k + 1) = nL (10 ^ k) ∧ pw5 (k + 1) / 10 = pw5 k ∧ ¬ lg_cmp (pw5 (k + 1)) 0 ≤ 0 := by decide
def fin (m : xMs) (q v e : Nat) : Option (xo Int64 xMs) := if 900000000000000 < v then some (.inr (uoe, bd (setAt m (nI e)) (nI q))) else some (.inl (nL v, setAt m (nI e)))
theorem most_c {v : Nat} (h : v < 2 ^ 63) : lg_cmp (nL v) 900000000000000 ≤ 0 ↔ ¬ 900000000000000 < v := by
  have := lgc_gt (a := v) (b := 900000000000000) h (by decide)
  rw [← this]
  exact ⟨fun z => Int32.not_lt.mpr z, fun z => Int32.not_lt.mp z⟩
theorem fin_n {m : xMs} {q v : Nat} {x : Int32} (h : v < 2 ^ 63) (hx : m.2.1.2.1 = x) {e : Nat} (he : x = nI e) : (if lg_cmp (nL v) 900000000000000 ≤ 0 then (some (Sum.inl (nL v, m)) : Option (xo Int64 xMs)) else (xo_b (FM_bad (nI q) m) fun r137 => some (.inl (nL v, r137.2)))) = fin m q v e := by
  have em : setAt m (nI e) = m := setAt_id (by rw [hx, he])
  unfold fin
  rw [em]
  by_cases z : 900000000000000 < v
  · rw [if_pos z, if_neg (fun y => (most_c h).mp y z)]; rfl
  · rw [if_neg z, if_pos ((most_c h).mpr z)]
theorem dg100 {b : Nat → Int32} {N q : Nat} : ∀ (k fu p a : Nat) {m : xMs}, Sr m b N → m.2.1.2.1 = nI p → p ≤ N → k < fu → k ≤ 4 → a + 10 ^ k < 2 ^ 60 → FM_digits_100 fu (nI q) (nL a) (pw5 k) m = fin m q (a + fv b N (dst b N k p - p) k p) (dst b N k p) := by
  intro k
  induction k with
  | zero =>
    intro fu p a m h hp hN hf _ ha
    obtain ⟨fu, rfl⟩ : ∃ g, fu = g + 1 := ⟨fu - 1, by omega⟩
    have hN2 := Sr_N h
    rw [FM_digits_100, FM_peek_n h hp (by omega), Option.bind_some]
    have e0 : a + fv b N (dst b N 0 p - p) 0 p = a := by
      have : dst b N 0 p - p = 0 := by show p - p = 0; omega
      rw [this]; rfl
    rw [e0]
    have f := fin_n (m := m) (q := q) (v := a) (by omega) hp rfl
    by_cases z : sM_digit (xc b N p) = 0
    · rw [if_pos z]; exact f
    · rw [if_neg z, if_pos (by decide)]; exact f
  | succ k ih =>
    intro fu p a m h hp hN hf hk4 ha
    obtain ⟨fu, rfl⟩ : ∃ g, fu = g + 1 := ⟨fu - 1, by omega⟩
    have hN2 := Sr_N h
    obtain ⟨c1, c2, c3⟩ := pw5_s k (by omega)
    have pkk : 0 < 10 ^ k := Nat.pow_pos (by decide)
    have ha0 : a < 2 ^ 60 := by omega
    rw [FM_digits_100, FM_peek_n h hp (by omega), Option.bind_some]
    unfold dst
    by_cases z : sM_digit (xc b N p) = 0
    · rw [if_pos z, if_pos z, Nat.sub_self]
      exact fin_n (m := m) (q := q) (v := a) (by omega) hp rfl
    · have d := dg_v z
      have hpN := dg_in z
      have ge := dst_ge (b := b) (N := N) k (p + 1)
      rw [if_neg z, if_neg z, if_neg c3, Option.bind_some, c2, c1]
      have e1 : Int32.toInt64 (xc b N p - 48) = nL (dv (xc b N p)) := by
        conv => lhs; rw [d.2]
        rw [show (48 : Int32) = nI 48 from rfl, mI_sub (by omega), show 48 + dv (xc b N p) - 48 = dv (xc b N p) by omega]
        exact nI_nL (by omega)
      rw [e1, nL_mul, nL_add]
      have hlt : 10 ^ k * dv (xc b N p) ≤ 10 ^ k * 9 := Nat.mul_le_mul_left _ (by omega)
      rw [Nat.pow_succ] at ha
      have es : (m.1, (m.2.1.1, (m.2.1.2.1 + 1), m.2.1.2.2), m.2.2) = setAt m (nI (p + 1)) := by
        show setAt m (m.2.1.2.1 + 1) = _
        rw [hp, mI_s]
      rw [es, ih fu (p + 1) (a + 10 ^ k * dv (xc b N p)) (m := setAt m (nI (p + 1))) (Sr_at h) rfl (by omega) (by omega) (by omega) (by omega)]
      have ed : dst b N k (p + 1) - p = (dst b N k (p + 1) - (p + 1)) + 1 := by omega
      rw [ed]
      show fin (setAt m (nI (p + 1))) q (a + 10 ^ k * dv (xc b N p) + _) _ = fin m q (a + (dv (xc b N p) * 10 ^ k + fv b N (dst b N k (p + 1) - (p + 1)) k (p + 1))) _
      rw [Nat.mul_comm (10 ^ k), Nat.add_assoc]
      rfl
theorem dg10 {b : Nat → Int32} {N q : Nat} : ∀ (k fu p a n : Nat) {m : xMs}, Sr m b N → m.2.1.2.1 = nI p → p ≤ N → n + k = 11 → k < fu → FM_digits_10 fu (nI q) (nL a) (nI n) m = FM_digits_59 (nI q) (nL (vn b N (dst b N k p - p) p a)) (setAt m (nI (dst b N k p))) := by
  intro k
  induction k with
  | zero =>
    intro fu p a n m h hp hN hn hf
    obtain ⟨fu, rfl⟩ : ∃ g, fu = g + 1 := ⟨fu - 1, by omega⟩
    have hN2 := Sr_N h
    have es : setAt m (nI (dst b N 0 p)) = m := setAt_id hp
    have e0 : dst b N 0 p - p = 0 := by show p - p = 0; omega
    rw [FM_digits_10, FM_peek_n h hp (by omega), Option.bind_some, es, e0]
    by_cases z : sM_digit (xc b N p) = 0
    · rw [if_pos z]; rfl
    · rw [if_neg z, if_pos (by exact (mI_le (a := 11) (by decide) (by omega)).mpr (by omega))]; rfl
  | succ k ih =>
    intro fu p a n m h hp hN hn hf
    obtain ⟨fu, rfl⟩ : ∃ g, fu = g + 1 := ⟨fu - 1, by omega⟩
    have hN2 := Sr_N h
    rw [FM_digits_10, FM_peek_n h hp (by omega), Option.bind_some]
    unfold dst
    by_cases z : sM_digit (xc b N p) = 0
    · rw [if_pos z, if_pos z, Nat.sub_self, setAt_id hp]; rfl
    · have d := dg_v z
      have hpN := dg_in z
      have ge := dst_ge (b := b) (N := N) k (p + 1)
      have n11 : ¬ (11 : Int32) ≤ nI n := fun y => absurd ((mI_le (a := 11) (by decide) (by omega)).mp y) (by omega)
      rw [if_neg z, if_neg z, if_neg n11, Option.bind_some, mI_s]
      have e1 : 10 * nL a + Int32.toInt64 (xc b N p) - 48 = nL (10 * a + dv (xc b N p)) := by
        have e2 : Int32.toInt64 (xc b N p) = nL (48 + dv (xc b N p)) := by
          conv => lhs; rw [d.2]
          exact nI_nL (by omega)
        rw [e2, show (10 : Int64) = nL 10 from rfl, show (48 : Int64) = nL 48 from rfl, nL_mul, nL_add, nL_sub (by omega)]
        congr 1
        omega
      have es : (m.1, (m.2.1.1, (m.2.1.2.1 + 1), m.2.1.2.2), m.2.2) = setAt m (nI (p + 1)) := by
        show setAt m (m.2.1.2.1 + 1) = _
        rw [hp, mI_s]
      rw [e1, es, ih fu (p + 1) (10 * a + dv (xc b N p)) (n + 1) (m := setAt m (nI (p + 1))) (Sr_at h) rfl (by omega) (by omega) (by omega)]
      have ed : dst b N k (p + 1) - p = (dst b N k (p + 1) - (p + 1)) + 1 := by omega
      rw [ed]
      rfl
/-- DIGITS -/
theorem digits_n {b : Nat → Int32} {N q : Nat} {m : xMs} (h : Sr m b N) (hq : m.2.1.2.1 = nI q) (hd : ¬ sM_digit (xc b N q) = 0) : FM_digits m = fin m q (nV b N q) (nstp b N q) := by
  have hN2 := Sr_N h
  have hqN := dg_in hd
  obtain ⟨h1, h2, h3, h4, -, -, -⟩ := num_all hd
  have hl := dst_le (b := b) (N := N) 11 q (by omega)
  have hl : nws b N q ≤ N := hl
  have hb : vn b N (nws b N q - q) q 0 < 10 ^ 11 := by
    have al := dst_all (b := b) (N := N) 11 q
    have := vn_lt (b := b) (N := N) (nws b N q - q) q 0 0 al (by decide)
    have p2 : 10 ^ (0 + (nws b N q - q)) ≤ 10 ^ 11 := Nat.pow_le_pow_right (by decide) (by omega)
    omega
  have p11 : 10 ^ 11 = 100000000000 := by decide
  unfold FM_digits
  rw [hq, show (0 : Int64) = nL 0 from rfl, show (0 : Int32) = nI 0 from rfl, dg10 11 xFuel q 0 0 h hq (by omega) (by omega) (by decide)]
  show FM_digits_59 (nI q) (nL (vn b N (nws b N q - q) q 0)) (setAt m (nI (nws b N q))) = _
  unfold FM_digits_59 nV
  generalize hW : vn b N (nws b N q - q) q 0 = W at *
  rw [FM_peek_n (m := setAt m (nI (nws b N q))) (Sr_at h) (p := nws b N q) rfl (by omega), Option.bind_some, show (10000 : Int64) = nL 10000 from rfl, nL_mul]
  have f := fin_n (m := setAt m (nI (nws b N q))) (q := q) (v := W * 10000) (by omega) (x := nI (nws b N q)) rfl rfl
  by_cases z : xc b N (nws b N q) = 46
  · rw [if_pos z, show FM_look 1 (setAt m (nI (nws b N q))) = _ from FM_look_n (m := setAt m (nI (nws b N q))) (k := 1) (Sr_at h) (p := nws b N q) rfl (by omega), Option.bind_some]
    by_cases y : sM_digit (xc b N (nws b N q + 1)) = 0
    · have ns : nstp b N q = nws b N q := by unfold nstp; rw [if_neg (fun w => w.2 y)]
      have nn : ¬ (xc b N (nws b N q) = 46 ∧ ¬ sM_digit (xc b N (nws b N q + 1)) = 0) := fun w => w.2 y
      rw [if_pos y, if_neg nn, ns, Nat.add_zero]
      exact f
    · have ns : nstp b N q = dst b N 4 (nws b N q + 1) := by unfold nstp; rw [if_pos ⟨z, y⟩]
      have yN := dg_in y
      rw [if_neg y, if_pos ⟨z, y⟩, ns, step1]
      exact dg100 4 xFuel (nws b N q + 1) (W * 10000) (m := setAt m (nI (nws b N q + 1))) (Sr_at h) rfl (by omega) (by decide) (by decide) (by omega)
  · have ns : nstp b N q = nws b N q := by unfold nstp; rw [if_neg (fun w => z w.1)]
    have nn : ¬ (xc b N (nws b N q) = 46 ∧ ¬ sM_digit (xc b N (nws b N q + 1)) = 0) := fun w => z w.1
    rw [if_neg z, if_neg nn, ns, Nat.add_zero]
    exact f
