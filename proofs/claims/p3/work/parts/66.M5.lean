/-- the fields of the CELL that was read last -/
def setC (m : xMs) (e : Int32) (rs cs : Bool) (r c : Int32) : xMs := (m.1, (m.2.1.1, m.2.1.2.1, m.2.1.2.2.1, m.2.1.2.2.2.1, e, rs, cs, r, c), m.2.2)
theorem Sr_C {m : xMs} {b : Nat → Int32} {N : Nat} {e r c : Int32} {rs cs : Bool} (h : Sr m b N) : Sr (setC m e rs cs r c) b N := h
theorem lt80 {v : Nat} (h : v < 100000) : (80 : Int32) < nI v ↔ 80 < v := mI_lt (a := 80) (by decide) h
theorem FM_ws {c : Int32} {m : xMs} : FM_wordSign c m = some (decide (¬ sP_isNamePart c = 0)) := by
  unfold FM_wordSign sP_isNamePart
  by_cases h1 : sM_letter c = 0
  · rw [if_pos h1, if_pos (show sP_isCapital c = 0 from h1)]
    by_cases h2 : sM_digit c = 0
    · rw [if_pos h2, if_pos (show sP_isDigit c = 0 from h2)]
      by_cases h3 : c = 95
      · rw [if_pos h3, if_pos h3]; rfl
      · rw [if_neg h3, if_neg h3]; rfl
    · rw [if_neg h2, if_neg (show ¬ sP_isDigit c = 0 from h2)]; rfl
  · rw [if_neg h1, if_neg (show ¬ sP_isCapital c = 0 from h1)]; rfl
theorem bar_0 {c : Int32} : sP_isBarredBehindCell c = 0 ↔ sP_isNamePart c = 0 ∧ (c < 97 ∨ 122 < c) := by
  unfold sP_isBarredBehindCell sP_isSmallLetter
  by_cases h1 : sP_isNamePart c = 0
  · rw [if_pos h1]
    by_cases h2 : c < 97
    · rw [if_pos h2, if_pos rfl]; exact ⟨fun _ => ⟨h1, Or.inl h2⟩, fun _ => rfl⟩
    · rw [if_neg h2]
      by_cases h3 : 122 < c
      · rw [if_pos h3, if_pos rfl]; exact ⟨fun _ => ⟨h1, Or.inr h3⟩, fun _ => rfl⟩
      · rw [if_neg h3, if_neg (by decide)]; exact ⟨fun q => absurd q (by decide), fun q => by rcases q.2 with q | q; exact absurd q h2; exact absurd q h3⟩
  · rw [if_neg h1]; exact ⟨fun q => absurd q (by decide), fun q => absurd q.1 h1⟩
theorem FM_c150_y {m : xMs} {b : Nat → Int32} {N p k v q0 : Nat} (h : Sr m b N) (hp : m.2.1.2.1 = nI p) (hq0 : p + k = q0) (hk : p + k < 90000) (hv : 1 ≤ v) (hv2 : v ≤ 80) (hb : sP_isBarredBehindCell (xc b N q0) = 0) : FM_cell_Z_150 (nI k) (nI v) m = some (true, setC m (nI q0) m.2.1.2.2.2.2.2.1 m.2.1.2.2.2.2.2.2.1 (nI (v - 1)) m.2.1.2.2.2.2.2.2.2.2) := by
  subst hq0
  obtain ⟨b1, b2⟩ := bar_0.mp hb
  have ea : m.2.1.2.1 + nI k = nI (p + k) := by rw [hp, l_add]
  have e : nI v - 1 = nI (v - 1) := by rw [show v = v - 1 + 1 by omega, ← mI_s, Int32.add_sub_cancel, Nat.add_sub_cancel]
  unfold FM_cell_Z_150
  rw [if_neg (fun q => absurd ((lt80 (by omega)).mp q) (by omega)), FM_look_n h hp hk, Option.bind_some, FM_ws, Option.bind_some, if_neg (by rw [decide_eq_false (fun q => q b1)]; decide), Option.bind_some, ea, e]
  by_cases h2 : xc b N (p + k) < 97
  · rw [if_pos h2]; rfl
  · rw [if_neg h2, Option.bind_some, if_pos (by rcases b2 with q | q; exact absurd q h2; exact q)]; rfl
theorem FM_c150_n {m : xMs} {b : Nat → Int32} {N p k v q0 : Nat} (h : Sr m b N) (hp : m.2.1.2.1 = nI p) (hq0 : p + k = q0) (hk : p + k < 90000) (hv : v < 5000) (hb : 80 < v ∨ ¬ sP_isBarredBehindCell (xc b N q0) = 0) : FM_cell_Z_150 (nI k) (nI v) m = some (false, m) := by
  subst hq0
  unfold FM_cell_Z_150
  by_cases q : 80 < v
  · rw [if_pos ((lt80 (by omega)).mpr q)]
  · have hb : ¬ sP_isBarredBehindCell (xc b N (p + k)) = 0 := by rcases hb with hb | hb; exact absurd hb q; exact hb
    rw [if_neg (fun q2 => q ((lt80 (by omega)).mp q2)), FM_look_n h hp hk, Option.bind_some, FM_ws, Option.bind_some]
    by_cases h1 : sP_isNamePart (xc b N (p + k)) = 0
    · rw [if_neg (by rw [decide_eq_false (fun q => q h1)]; decide), Option.bind_some]
      have h2 : ¬ xc b N (p + k) < 97 := fun q => hb (bar_0.mpr ⟨h1, Or.inl q⟩)
      have h3 : ¬ 122 < xc b N (p + k) := fun q => hb (bar_0.mpr ⟨h1, Or.inr q⟩)
      rw [if_neg h2, Option.bind_some, if_neg h3]
    · rw [if_pos (by rw [decide_eq_true h1])]
theorem FM_c113_s {m : xMs} {b : Nat → Int32} {N p k v fu q0 : Nat} (h : Sr m b N) (hp : m.2.1.2.1 = nI p) (hq0 : p + k = q0) (hk : p + k < 90000) (hv : v ≤ 80) (hd : ¬ sM_digit (xc b N q0) = 0) : FM_cell_Z_113 (fu + 1) (nI k) (nI v) m = FM_cell_Z_113 fu (nI (k + 1)) (nI (10 * v + dv (xc b N q0))) m := by
  subst hq0
  obtain ⟨d1, d2⟩ := dg_v hd
  rw [FM_cell_Z_113, FM_look_n h hp hk, Option.bind_some, if_neg hd, if_neg (fun q => absurd ((lt80 (by omega)).mp q) (by omega)), Option.bind_some, mI_s]
  have e : 10 * nI v + xc b N (p + k) - 48 = nI (10 * v + dv (xc b N (p + k))) := by
    conv => lhs; rw [d2]
    rw [show (10 : Int32) * nI v = nI (10 * v) from (Int32.ofNat_mul 10 v).symm, l_add, show 10 * v + (48 + dv (xc b N (p + k))) = 10 * v + dv (xc b N (p + k)) + 48 by omega, ← l_add, show nI 48 = (48 : Int32) from rfl, Int32.add_sub_cancel]
  rw [e]
theorem FM_c113_e {m : xMs} {b : Nat → Int32} {N p k v fu q0 : Nat} (h : Sr m b N) (hp : m.2.1.2.1 = nI p) (hq0 : p + k = q0) (hk : p + k < 90000) (hv : v < 5000) (hd : sM_digit (xc b N q0) = 0 ∨ 80 < v) : FM_cell_Z_113 (fu + 1) (nI k) (nI v) m = FM_cell_Z_150 (nI k) (nI v) m := by
  subst hq0
  rw [FM_cell_Z_113, FM_look_n h hp hk, Option.bind_some]
  by_cases q : sM_digit (xc b N (p + k)) = 0
  · rw [if_pos q]
  · rw [if_neg q, if_pos ((lt80 (by omega)).mpr (by rcases hd with hd | hd; exact absurd hd q; exact hd))]
theorem dg_bar {c : Int32} (h : ¬ sM_digit c = 0) : ¬ sP_isBarredBehindCell c = 0 := fun q => by
  have := (bar_0.mp q).1
  unfold sP_isNamePart at this
  by_cases h1 : sP_isCapital c = 0
  · rw [if_pos h1, if_neg (show ¬ sP_isDigit c = 0 from h)] at this; exact absurd this (by decide)
  · rw [if_neg h1] at this; exact absurd this (by decide)
/-- from the digits on: cd is their place, which holds a digit that isn't 0 -/
theorem FM_c113 {m : xMs} {b : Nat → Int32} {N p k d : Nat} (h : Sr m b N) (hp : m.2.1.2.1 = nI p) (hd0 : p + k = d) (hk : d < 80000) (hd : ¬ sM_digit (xc b N d) = 0) (h0 : ¬ xc b N d = 48) : FM_cell_Z_113 xFuel (nI k) (nI 0) m = if vn b N (dst b N 2 d - d) d 0 ≤ 80 ∧ sP_isBarredBehindCell (xc b N (dst b N 2 d)) = 0 then some (true, setC m (nI (dst b N 2 d)) m.2.1.2.2.2.2.2.1 m.2.1.2.2.2.2.2.2.1 (nI (vn b N (dst b N 2 d - d) d 0 - 1)) m.2.1.2.2.2.2.2.2.2.2) else some (false, m) := by
  obtain ⟨d1, d2⟩ := dg_v hd
  have dn : 1 ≤ dv (xc b N d) := by
    refine Nat.pos_of_ne_zero fun q => h0 ?_
    rw [d2, q]; rfl
  have eF : FM_cell_Z_113 xFuel (nI k) (nI 0) m = FM_cell_Z_113 4999 (nI (k + 1)) (nI (10 * 0 + dv (xc b N d))) m := FM_c113_s (fu := 4999) h hp hd0 (by omega) (by decide) hd
  rw [eF, Nat.mul_zero, Nat.zero_add]
  have e1 : dst b N 2 d = dst b N 1 (d + 1) := by show (if _ then _ else _) = _; rw [if_neg hd]
  by_cases h2 : sM_digit (xc b N (d + 1)) = 0
  · have e2 : dst b N 2 d = d + 1 := by rw [e1]; show (if _ then _ else _) = _; rw [if_pos h2]
    have eG : FM_cell_Z_113 4999 (nI (k + 1)) (nI (dv (xc b N d))) m = FM_cell_Z_150 (nI (k + 1)) (nI (dv (xc b N d))) m := FM_c113_e (fu := 4998) (q0 := d + 1) h hp (by omega) (by omega) (by omega) (Or.inl h2)
    have e3 : vn b N 1 d 0 = dv (xc b N d) := by show 10 * 0 + _ = _; omega
    rw [e2, Nat.add_sub_cancel_left, eG, e3]
    by_cases q : sP_isBarredBehindCell (xc b N (d + 1)) = 0
    · rw [if_pos ⟨by omega, q⟩, FM_c150_y (q0 := d + 1) h hp (by omega) (by omega) dn (by omega) q]
    · rw [if_neg (fun z => q z.2), FM_c150_n (q0 := d + 1) h hp (by omega) (by omega) (by omega) (Or.inr q)]
  · have e2 : dst b N 2 d = d + 2 := by rw [e1]; show (if _ then _ else _) = _; rw [if_neg h2]; rfl
    obtain ⟨g1, g2⟩ := dg_v h2
    have eG : FM_cell_Z_113 4999 (nI (k + 1)) (nI (dv (xc b N d))) m = FM_cell_Z_113 4998 (nI (k + 1 + 1)) (nI (10 * dv (xc b N d) + dv (xc b N (d + 1)))) m := FM_c113_s (fu := 4998) (q0 := d + 1) h hp (by omega) (by omega) (by omega) h2
    have e3 : vn b N 2 d 0 = 10 * dv (xc b N d) + dv (xc b N (d + 1)) := by show 10 * (10 * 0 + _) + _ = _; omega
    rw [e2, Nat.add_sub_cancel_left, e3, eG]
    generalize hv : 10 * dv (xc b N d) + dv (xc b N (d + 1)) = v
    by_cases q1 : v ≤ 80
    · by_cases h3 : sM_digit (xc b N (d + 2)) = 0
      · have eH : FM_cell_Z_113 4998 (nI (k + 1 + 1)) (nI v) m = FM_cell_Z_150 (nI (k + 1 + 1)) (nI v) m := FM_c113_e (fu := 4997) (q0 := d + 2) h hp (by omega) (by omega) (by omega) (Or.inl h3)
        rw [eH]
        by_cases q : sP_isBarredBehindCell (xc b N (d + 2)) = 0
        · rw [if_pos ⟨q1, q⟩, FM_c150_y (q0 := d + 2) h hp (by omega) (by omega) (by omega) (by omega) q]
        · rw [if_neg (fun z => q z.2), FM_c150_n (q0 := d + 2) h hp (by omega) (by omega) (by omega) (Or.inr q)]
      · obtain ⟨j1, j2⟩ := dg_v h3
        have eH : FM_cell_Z_113 4998 (nI (k + 1 + 1)) (nI v) m = FM_cell_Z_113 4997 (nI (k + 1 + 1 + 1)) (nI (10 * v + dv (xc b N (d + 2)))) m := FM_c113_s (fu := 4997) (q0 := d + 2) h hp (by omega) (by omega) q1 h3
        have eI : FM_cell_Z_113 4997 (nI (k + 1 + 1 + 1)) (nI (10 * v + dv (xc b N (d + 2)))) m = FM_cell_Z_150 (nI (k + 1 + 1 + 1)) (nI (10 * v + dv (xc b N (d + 2)))) m := FM_c113_e (fu := 4996) (q0 := d + 3) h hp (by omega) (by omega) (by omega) (Or.inr (by omega))
        rw [if_neg (fun z => dg_bar h3 z.2), eH, eI, FM_c150_n (q0 := d + 3) h hp (by omega) (by omega) (by omega) (Or.inl (by omega))]
    · have eH : FM_cell_Z_113 4998 (nI (k + 1 + 1)) (nI v) m = FM_cell_Z_150 (nI (k + 1 + 1)) (nI v) m := FM_c113_e (fu := 4997) (q0 := d + 2) h hp (by omega) (by omega) (by omega) (Or.inr (by omega))
      rw [if_neg (fun z => q1 z.1), eH, FM_c150_n (q0 := d + 2) h hp (by omega) (by omega) (by omega) (Or.inl (by omega))]
theorem FM_look_C {m : xMs} {b : Nat → Int32} {N p k q0 : Nat} {e r c : Int32} {rs cs : Bool} (h : Sr m b N) (hp : m.2.1.2.1 = nI p) (hq0 : p + k = q0) (hk : p + k < 90000) : FM_look (nI k) (m.1, (m.2.1.1, m.2.1.2.1, m.2.1.2.2.1, m.2.1.2.2.2.1, e, rs, cs, r, c), m.2.2) = some (xc b N q0) := by
  subst hq0
  exact FM_look_n (m := setC m e rs cs r c) h hp hk
theorem cv_pos {b : Nat → Int32} {N d : Nat} (hd : ¬ sM_digit (xc b N d) = 0) (h0 : ¬ xc b N d = 48) : 1 ≤ vn b N (dst b N 2 d - d) d 0 := by
  obtain ⟨d1, d2⟩ := dg_v hd
  have dn : 1 ≤ dv (xc b N d) := by
    refine Nat.pos_of_ne_zero fun q => h0 ?_
    rw [d2, q]; rfl
  have e1 : dst b N 2 d = dst b N 1 (d + 1) := by show (if _ then _ else _) = _; rw [if_neg hd]
  by_cases h2 : sM_digit (xc b N (d + 1)) = 0
  · have e2 : dst b N 2 d = d + 1 := by rw [e1]; show (if _ then _ else _) = _; rw [if_pos h2]
    rw [e2, Nat.add_sub_cancel_left]
    show 1 ≤ 10 * 0 + _
    omega
  · have e2 : dst b N 2 d = d + 1 + 1 := by rw [e1]; show (if _ then _ else _) = _; rw [if_neg h2]; rfl
    rw [e2, show d + 1 + 1 - d = 2 by omega]
    show 1 ≤ 10 * (10 * 0 + _) + _
    omega
theorem FM_c31 {m : xMs} {b : Nat → Int32} {N p k : Nat} (h : Sr m b N) (hp : m.2.1.2.1 = nI p) (hk : p + k < 80000) : FM_cell_Z_31 (nI k) m = if sM_letter (xc b N (p + k)) = 0 then some (false, m) else if sM_digit (xc b N (bm b N (p + k + 1))) = 0 ∨ xc b N (bm b N (p + k + 1)) = 48 then some (false, setC m m.2.1.2.2.2.2.1 (decide (xc b N (p + k + 1) = 36)) m.2.1.2.2.2.2.2.2.1 m.2.1.2.2.2.2.2.2.2.1 (xc b N (p + k) - 65)) else FM_cell_Z_113 xFuel (nI (bm b N (p + k + 1) - p)) (nI 0) (setC m m.2.1.2.2.2.2.1 (decide (xc b N (p + k + 1) = 36)) m.2.1.2.2.2.2.2.2.1 m.2.1.2.2.2.2.2.2.2.1 (xc b N (p + k) - 65)) := by
  unfold FM_cell_Z_31
  rw [FM_look_n h hp (by omega), Option.bind_some]
  by_cases h1 : sM_letter (xc b N (p + k)) = 0
  · rw [if_pos h1, if_pos h1]
  · rw [if_neg h1, if_neg h1, Option.bind_some, mI_s, mI_s]
    rw [FM_look_C (q0 := p + k + 1) h hp (by omega) (by omega), Option.bind_some]
    unfold bm
    by_cases h2 : xc b N (p + k + 1) = 36
    · rw [if_pos h2, if_pos h2, decide_eq_true h2, FM_look_C (q0 := p + k + 1 + 1) h hp (by omega) (by omega), Option.bind_some]
      by_cases h3 : sM_digit (xc b N (p + k + 1 + 1)) = 0
      · rw [if_pos h3, if_pos (Or.inl h3)]; rfl
      · rw [if_neg h3, Option.bind_some]
        by_cases h4 : xc b N (p + k + 1 + 1) = 48
        · rw [if_pos h4, if_pos (Or.inr h4)]; rfl
        · rw [if_neg h4, if_neg (fun q => by rcases q with q | q; exact h3 q; exact h4 q), show p + k + 1 + 1 - p = k + 1 + 1 by omega]; rfl
    · rw [if_neg h2, if_neg h2, decide_eq_false h2, FM_look_C (q0 := p + k + 1) h hp (by omega) (by omega), Option.bind_some]
      by_cases h3 : sM_digit (xc b N (p + k + 1)) = 0
      · rw [if_pos h3, if_pos (Or.inl h3)]; rfl
      · rw [if_neg h3, Option.bind_some]
        by_cases h4 : xc b N (p + k + 1) = 48
        · rw [if_pos h4, if_pos (Or.inr h4)]; rfl
        · rw [if_neg h4, if_neg (fun q => by rcases q with q | q; exact h3 q; exact h4 q), show p + k + 1 - p = k + 1 by omega]; rfl
theorem FM_c31C {m : xMs} {b : Nat → Int32} {N p k q0 : Nat} {e r c : Int32} {rs cs : Bool} (h : Sr m b N) (hp : m.2.1.2.1 = nI p) (hq0 : p + k = q0) (hk : p + k < 80000) : FM_cell_Z_31 (nI k) (setC m e rs cs r c) = if sM_letter (xc b N q0) = 0 then some (false, setC m e rs cs r c) else if sM_digit (xc b N (bm b N (q0 + 1))) = 0 ∨ xc b N (bm b N (q0 + 1)) = 48 then some (false, setC m e (decide (xc b N (q0 + 1) = 36)) cs r (xc b N q0 - 65)) else FM_cell_Z_113 xFuel (nI (bm b N (q0 + 1) - p)) (nI 0) (setC m e (decide (xc b N (q0 + 1) = 36)) cs r (xc b N q0 - 65)) := by
  subst hq0
  exact FM_c31 (m := setC m e rs cs r c) h hp hk
theorem FM_cZ {m : xMs} {b : Nat → Int32} {N p : Nat} (h : Sr m b N) (hp : m.2.1.2.1 = nI p) (hpN : p ≤ N) : FM_cell_Z m = FM_cell_Z_31 (nI (cl1 b N p - p)) (setC m m.2.1.2.2.2.2.1 m.2.1.2.2.2.2.2.1 (decide (xc b N p = 36)) m.2.1.2.2.2.2.2.2.2.1 m.2.1.2.2.2.2.2.2.2.2) := by
  have hN := Sr_N h
  unfold FM_cell_Z
  rw [show FM_look 0 m = some (xc b N (p + 0)) from FM_look_n (k := 0) h hp (by omega), Option.bind_some, Nat.add_zero]
  unfold cl1 bm FM_cell_Z_18
  by_cases q : xc b N p = 36
  · rw [if_pos q, if_pos q, if_pos rfl, decide_eq_true q, Nat.add_sub_cancel_left]; rfl
  · rw [if_neg q, if_neg q, if_neg (by decide), decide_eq_false q, Nat.sub_self]; rfl
theorem FM_cell_y {m : xMs} {b : Nat → Int32} {N p : Nat} (h : Sr m b N) (hp : m.2.1.2.1 = nI p) (hpN : p ≤ N) (hc : isCell b N p) : FM_cell_Z m = some (true, setC m (nI (ce1 b N p)) (decide (xc b N (cl1 b N p + 1) = 36)) (decide (xc b N p = 36)) (nI (cv1 b N p - 1)) (xc b N (cl1 b N p) - 65)) := by
  have hN := Sr_N h
  obtain ⟨h1, h2, h3, h4, h5⟩ := hc
  have g := bm_le (b := b) (N := N) (p := p)
  have l1 := lt_in h1
  have g2 := bm_le (b := b) (N := N) (p := cl1 b N p + 1)
  have e1 : p + (cl1 b N p - p) = cl1 b N p := by show p + (bm b N p - p) = bm b N p; omega
  rw [FM_cZ h hp hpN, FM_c31C h hp e1 (by rw [e1]; omega), if_neg h1, show bm b N (cl1 b N p + 1) = cd1 b N p from rfl]
  have hd : ¬ sM_digit (xc b N (cd1 b N p)) = 0 := fun q => by
    have : ce1 b N p = cd1 b N p := by show (if _ then _ else _) = _; rw [if_pos q]
    unfold cv1 at h3
    rw [this, Nat.sub_self] at h3
    exact absurd (show 1 ≤ 0 from h3) (by decide)
  rw [if_neg (fun q => by rcases q with q | q; exact hd q; exact h2 q)]
  have e2 : p + (cd1 b N p - p) = cd1 b N p := by show p + (bm b N (cl1 b N p + 1) - p) = bm b N (cl1 b N p + 1); omega
  have K := FM_c113 (m := setC m m.2.1.2.2.2.2.1 (decide (xc b N (cl1 b N p + 1) = 36)) (decide (xc b N p = 36)) m.2.1.2.2.2.2.2.2.2.1 (xc b N (cl1 b N p) - 65)) (k := cd1 b N p - p) (d := cd1 b N p) (Sr_C h) hp e2 (by show bm b N (cl1 b N p + 1) < _; omega) hd h2
  rw [if_pos ⟨h4, h5⟩] at K
  exact K
theorem FM_cell_n {m : xMs} {b : Nat → Int32} {N p : Nat} (h : Sr m b N) (hp : m.2.1.2.1 = nI p) (hpN : p ≤ N) (hc : ¬ isCell b N p) : ∃ e rs cs r c, FM_cell_Z m = some (false, setC m e rs cs r c) := by
  have hN := Sr_N h
  have g := bm_le (b := b) (N := N) (p := p)
  have g0 := bm_N (b := b) (N := N) (p := p) hpN
  have g2 := bm_le (b := b) (N := N) (p := cl1 b N p + 1)
  have e1 : p + (cl1 b N p - p) = cl1 b N p := by show p + (bm b N p - p) = bm b N p; omega
  have hl : cl1 b N p < 80000 := by show bm b N p < _; omega
  rw [FM_cZ h hp hpN, FM_c31C h hp e1 (by rw [e1]; exact hl), show bm b N (cl1 b N p + 1) = cd1 b N p from rfl]
  by_cases h1 : sM_letter (xc b N (cl1 b N p)) = 0
  · rw [if_pos h1]; exact ⟨_, _, _, _, _, rfl⟩
  · rw [if_neg h1]
    by_cases h2 : sM_digit (xc b N (cd1 b N p)) = 0 ∨ xc b N (cd1 b N p) = 48
    · rw [if_pos h2]; exact ⟨_, _, _, _, _, rfl⟩
    · rw [if_neg h2]
      have hd : ¬ sM_digit (xc b N (cd1 b N p)) = 0 := fun q => h2 (Or.inl q)
      have h0 : ¬ xc b N (cd1 b N p) = 48 := fun q => h2 (Or.inr q)
      have l1 := lt_in h1
      have e2 : p + (cd1 b N p - p) = cd1 b N p := by show p + (bm b N (cl1 b N p + 1) - p) = bm b N (cl1 b N p + 1); omega
      have K := FM_c113 (m := setC m m.2.1.2.2.2.2.1 (decide (xc b N (cl1 b N p + 1) = 36)) (decide (xc b N p = 36)) m.2.1.2.2.2.2.2.2.2.1 (xc b N (cl1 b N p) - 65)) (k := cd1 b N p - p) (d := cd1 b N p) (Sr_C h) hp e2 (by show bm b N (cl1 b N p + 1) < _; omega) hd h0
      rw [if_neg (fun z => hc ⟨h1, h0, cv_pos hd h0, z.1, z.2⟩)] at K
      exact ⟨_, _, _, _, _, K⟩
