/-- digits stand there and no more -/
theorem dst_run {b : Nat → Int32} {N : Nat} : ∀ (n k p : Nat), alld b N p n → n ≤ k → (n = k ∨ sM_digit (xc b N (p + n)) = 0) → dst b N k p = p + n
  | 0, 0, p, _, _, _ => rfl
  | 0, k + 1, p, _, _, h => by
    have h : sM_digit (xc b N p) = 0 := h.resolve_left (by omega)
    show (if sM_digit (xc b N p) = 0 then p else _) = _
    rw [if_pos h]; rfl
  | n + 1, 0, p, _, h, _ => by omega
  | n + 1, k + 1, p, ha, h, h2 => by
    obtain ⟨a1, a2⟩ := alld_s ha
    show (if sM_digit (xc b N p) = 0 then p else dst b N k (p + 1)) = _
    rw [if_neg a1, dst_run n k (p + 1) a2 (by omega) (by rcases h2 with z | z; exact Or.inl (by omega); exact Or.inr (by rw [show p + 1 + n = p + (n + 1) by omega]; exact z))]
    omega
theorem dgt : ∀ d, d < 10 → ¬ sM_digit (chd d) = 0 ∧ dv (chd d) = d ∧ (chd d = 48 ↔ d = 0) ∧ ¬ chd d = 46 ∧ ¬ chd d = 36 ∧ ¬ chd d = 61 ∧ ¬ chd d = 62 ∧ ¬ chd d = 32 := by decide +kernel
def dvl (D : List Nat) (a : Nat) : Nat := D.foldl (fun a d => 10 * a + d) a
/-- the bytes of digits -/
theorem dig_at {b : Nat → Int32} {N : Nat} : ∀ (D : List Nat) (p : Nat), (∀ d ∈ D, d < 10) → eqL b N p (D.map chd) = true → alld b N p D.length ∧ ∀ a, vn b N D.length p a = dvl D a
  | [], p, _, _ => ⟨fun i hi => (by cases hi), fun a => rfl⟩
  | d :: D, p, h1, h2 => by
    have h2 := (Bool.and_eq_true _ _).mp h2
    have x0 : xc b N p = chd d := of_decide_eq_true h2.1
    obtain ⟨t1, t2, -⟩ := dgt d (h1 d List.mem_cons_self)
    obtain ⟨i1, i2⟩ := dig_at D (p + 1) (fun x hx => h1 x (List.mem_cons_of_mem _ hx)) h2.2
    refine ⟨fun i hi => ?_, fun a => ?_⟩
    · cases i with
      | zero => rw [Nat.add_zero, x0]; exact t1
      | succ i =>
        have := i1 i (Nat.lt_of_succ_lt_succ hi)
        rw [show p + 1 + i = p + (i + 1) by omega] at this
        exact this
    · show vn b N D.length (p + 1) (10 * a + dv (xc b N p)) = dvl D (10 * a + d)
      rw [x0, t2]
      exact i2 _
theorem dig_lt : ∀ (f w : Nat), w < 10 ^ (f + 1) → ∀ d ∈ dig f w, d < 10
  | 0, w, h, d, hd => by
    have : d = w := List.mem_singleton.mp hd
    have h : w < 10 := h
    omega
  | f + 1, w, h, d, hd => by
    have hd : d ∈ (if w < 10 then [w] else dig f (w / 10) ++ [w % 10]) := hd
    have p2 : 10 ^ (f + 1 + 1) = 10 * 10 ^ (f + 1) := by rw [Nat.pow_succ, Nat.mul_comm]
    by_cases z : w < 10
    · rw [if_pos z] at hd
      have : d = w := List.mem_singleton.mp hd
      omega
    · rw [if_neg z] at hd
      rcases List.mem_append.mp hd with h1 | h1
      · exact dig_lt f (w / 10) (by omega) d h1
      · have : d = w % 10 := List.mem_singleton.mp h1
        omega
theorem dig_val : ∀ (f w : Nat), w < 10 ^ (f + 1) → dvl (dig f w) 0 = w
  | 0, w, _ => by
    show 10 * 0 + w = w
    omega
  | f + 1, w, h => by
    have p2 : 10 ^ (f + 1 + 1) = 10 * 10 ^ (f + 1) := by rw [Nat.pow_succ, Nat.mul_comm]
    show dvl (if w < 10 then [w] else dig f (w / 10) ++ [w % 10]) 0 = w
    by_cases z : w < 10
    · rw [if_pos z]
      show 10 * 0 + w = w
      omega
    · rw [if_neg z]
      unfold dvl
      rw [List.foldl_append]
      show 10 * dvl (dig f (w / 10)) 0 + w % 10 = w
      rw [dig_val f (w / 10) (by omega)]
      omega
theorem dig_len : ∀ (n f w : Nat), n ≤ f → w < 10 ^ (n + 1) → 1 ≤ (dig f w).length ∧ (dig f w).length ≤ n + 1
  | 0, f, w, _, h => by rw [dig_1 (show w < 10 from h)]; exact ⟨Nat.le_refl _, Nat.le_refl _⟩
  | n + 1, f, w, hf, h => by
    obtain ⟨f, rfl⟩ : ∃ g, f = g + 1 := ⟨f - 1, by omega⟩
    have p2 : 10 ^ (n + 1 + 1) = 10 * 10 ^ (n + 1) := by rw [Nat.pow_succ, Nat.mul_comm]
    show 1 ≤ (if w < 10 then [w] else dig f (w / 10) ++ [w % 10]).length ∧ (if w < 10 then [w] else dig f (w / 10) ++ [w % 10]).length ≤ _
    by_cases z : w < 10
    · rw [if_pos z]; exact ⟨Nat.le_refl _, by show 1 ≤ _; omega⟩
    · rw [if_neg z, List.length_append]
      have := dig_len n f (w / 10) (by omega) (by omega)
      show 1 ≤ _ + 1 ∧ _ + 1 ≤ _
      omega
/-- its first digit isn't 0, if it has more -/
theorem dig_hd : ∀ (f w : Nat), 1 ≤ w → w < 10 ^ (f + 1) → ∃ d r, dig f w = d :: r ∧ 1 ≤ d ∧ d < 10
  | 0, w, h1, h => ⟨w, [], rfl, h1, h⟩
  | f + 1, w, h1, h => by
    have p2 : 10 ^ (f + 1 + 1) = 10 * 10 ^ (f + 1) := by rw [Nat.pow_succ, Nat.mul_comm]
    show ∃ d r, (if w < 10 then [w] else dig f (w / 10) ++ [w % 10]) = d :: r ∧ _
    by_cases z : w < 10
    · rw [if_pos z]; exact ⟨w, [], rfl, h1, z⟩
    · rw [if_neg z]
      obtain ⟨d, r, e, e1, e2⟩ := dig_hd f (w / 10) (by omega) (by omega)
      rw [e]
      exact ⟨d, r ++ [w % 10], rfl, e1, e2⟩
/-- the fraction -/
theorem frc_at {b : Nat → Int32} {N : Nat} : ∀ (k f p : Nat), f < 10 ^ k → eqL b N p ((frc k f).map chd) = true → alld b N p (frc k f).length ∧ fv b N (frc k f).length k p = f ∧ (frc k f).length ≤ k
  | 0, f, p, h, _ => by
    have h : f < 1 := h
    exact ⟨fun i hi => (by cases hi), by show 0 = f; omega, Nat.le_refl _⟩
  | k + 1, f, p, h, h2 => by
    have p2 : 10 ^ (k + 1) = 10 * 10 ^ k := by rw [Nat.pow_succ, Nat.mul_comm]
    have p1 : 1 ≤ 10 ^ k := Nat.one_le_pow _ _ (by decide)
    by_cases z : f = 0
    · have e : frc (k + 1) f = [] := by show (if f = 0 then [] else _) = _; rw [if_pos z]
      rw [e]
      exact ⟨fun i hi => (by cases hi), by show 0 = f; omega, Nat.zero_le _⟩
    · have e : frc (k + 1) f = f / 10 ^ k :: frc k (f % 10 ^ k) := by show (if f = 0 then [] else _) = _; rw [if_neg z]
      rw [e] at h2 ⊢
      have h2 := (Bool.and_eq_true _ _).mp h2
      have lt : f / 10 ^ k < 10 := (Nat.div_lt_iff_lt_mul p1).mpr (by omega)
      obtain ⟨t1, t2, -⟩ := dgt (f / 10 ^ k) lt
      have x0 : xc b N p = chd (f / 10 ^ k) := of_decide_eq_true h2.1
      obtain ⟨i1, i2, i3⟩ := frc_at k (f % 10 ^ k) (p + 1) (Nat.mod_lt _ p1) h2.2
      refine ⟨fun i hi => ?_, ?_, by show (frc k (f % 10 ^ k)).length + 1 ≤ _; omega⟩
      · cases i with
        | zero => rw [Nat.add_zero, x0]; exact t1
        | succ i =>
          have := i1 i (Nat.lt_of_succ_lt_succ hi)
          rw [show p + 1 + i = p + (i + 1) by omega] at this
          exact this
      · show dv (xc b N p) * 10 ^ k + fv b N (frc k (f % 10 ^ k)).length k (p + 1) = f
        rw [x0, t2, i2]
        have := Nat.div_add_mod f (10 ^ k)
        rw [Nat.mul_comm] at this
        exact this
/-- A NUMBER IS READ AGAIN -/
theorem num_re {b : Nat → Int32} {N q v : Nat} (hv : v ≤ 900000000000000) (ht : eqL b N q (txL (prN v)) = true) (h1 : sM_digit (xc b N (q + (txL (prN v)).length)) = 0) (h2 : ¬ xc b N (q + (txL (prN v)).length) = 46) : thing b N q = ([(258, q)], prN v, true, q + (txL (prN v)).length) ∧ ¬ sM_digit (xc b N q) = 0 := by
  have w11 : v / 10000 < 10 ^ (10 + 1) := by omega
  obtain ⟨l1, l2⟩ := dig_len 10 20 (v / 10000) (by decide) w11
  have et : txL (prN v) = (dig 20 (v / 10000)).map chd ++ txL (if v % 10000 = 0 then [] else .inl 46 :: (frc 4 (v % 10000)).map chD) := by
    unfold prN
    rw [txL_app, txL_D]
  rw [et, eqL_app, List.length_map] at ht
  obtain ⟨t1, t2⟩ := (Bool.and_eq_true _ _).mp ht
  obtain ⟨d1, d2⟩ := dig_at (b := b) (N := N) (dig 20 (v / 10000)) q (dig_lt 20 _ (by omega)) t1
  have dg : ¬ sM_digit (xc b N q) = 0 := by have := d1 0 (by omega); rw [Nat.add_zero] at this; exact this
  rw [et, List.length_append, List.length_map] at h1 h2 ⊢
  generalize hn : (dig 20 (v / 10000)).length = n at *
  have hval : vn b N n q 0 = v / 10000 := by rw [d2 0, dig_val 20 _ (by omega)]
  have key : nV b N q = v ∧ nstp b N q = q + (n + (txL (if v % 10000 = 0 then [] else .inl 46 :: (frc 4 (v % 10000)).map chD)).length) := by
    by_cases z : v % 10000 = 0
    · rw [if_pos z] at h1 h2 ⊢
      have h1 : sM_digit (xc b N (q + n)) = 0 := h1
      have h2 : ¬ xc b N (q + n) = 46 := h2
      have ew : nws b N q = q + n := dst_run n 11 q d1 (by omega) (Or.inr h1)
      have c46 : ¬ (xc b N (nws b N q) = 46 ∧ ¬ sM_digit (xc b N (nws b N q + 1)) = 0) := by rw [ew]; exact fun w => h2 w.1
      constructor
      · unfold nV
        rw [if_neg c46, ew, show q + n - q = n by omega, hval]
        omega
      · unfold nstp
        rw [if_neg c46, ew]; rfl
    · rw [if_neg z] at t2 h1 h2 ⊢
      rw [txL_1, txL_D] at t2 h1 h2 ⊢
      rw [List.length_cons, List.length_map] at h1 h2 ⊢
      obtain ⟨t3, t4⟩ := (Bool.and_eq_true _ _).mp t2
      have t3 : xc b N (q + n) = 46 := of_decide_eq_true t3
      obtain ⟨f1, f2, f3⟩ := frc_at (b := b) (N := N) 4 (v % 10000) (q + n + 1) (Nat.mod_lt _ (by decide)) t4
      have fl : 1 ≤ (frc 4 (v % 10000)).length := by
        show 1 ≤ (if v % 10000 = 0 then [] else v % 10000 / 10 ^ 3 :: frc 3 (v % 10000 % 10 ^ 3)).length
        rw [if_neg z]; show 1 ≤ _ + 1; omega
      generalize hk : (frc 4 (v % 10000)).length = k at *
      have ew : nws b N q = q + n := dst_run n 11 q d1 (by omega) (Or.inr (by rw [t3]; decide))
      have c46 : xc b N (nws b N q) = 46 ∧ ¬ sM_digit (xc b N (nws b N q + 1)) = 0 := by
        rw [ew]
        have := f1 0 (by omega)
        rw [Nat.add_zero] at this
        exact ⟨t3, this⟩
      have es : nstp b N q = q + n + 1 + k := by
        unfold nstp
        rw [if_pos c46, ew]
        refine dst_run k 4 (q + n + 1) f1 (by omega) ?_
        refine Or.inr ?_
        rw [show q + n + 1 + k = q + (n + (k + 1)) by omega]
        exact h1
      constructor
      · unfold nV
        rw [if_pos c46, es, ew, show q + n - q = n by omega, hval, show q + n + 1 + k - (q + n + 1) = k by omega, f2]
        omega
      · rw [es]; omega
  obtain ⟨k1, k2⟩ := key
  obtain ⟨n1, n2, n3⟩ := num_pr (b := b) (N := N) dg
  refine ⟨?_, dg⟩
  unfold thing
  rw [if_neg dg]
  unfold numT
  rw [if_neg (fun w => by have := n2.mpr w; rw [k1] at this; omega), ← n1, k1, k2]
/-- A TEXT IS READ AGAIN -/
theorem tq_re {b b' : Nat → Int32} {N N' : Nat} : ∀ (f i i' e : Nat), tqf b N f i = some e → (∀ j, i + j < e → xc b' N' (i' + j) = xc b N (i + j)) → ¬ xc b' N' (i' + (e - i)) = 34 → tqs b' N' i' = some (i' + (e - i))
  | 0, i, i', e, h, _, _ => by cases h
  | f + 1, i, i', e, h, h2, h3 => by
    have lt := tqs_le (f + 1) i e h
    have h : (if xc b N i < 32 ∨ 126 < xc b N i then none else if xc b N i = 34 then (if xc b N (i + 1) = 34 then tqf b N f (i + 2) else some (i + 1)) else tqf b N f (i + 1)) = some e := h
    have x0 := h2 0 (by omega)
    rw [Nat.add_zero, Nat.add_zero] at x0
    rw [tqs_eq, x0]
    by_cases a : xc b N i < 32 ∨ 126 < xc b N i
    · rw [if_pos a] at h; cases h
    · rw [if_neg a] at h ⊢
      by_cases c : xc b N i = 34
      · rw [if_pos c] at h ⊢
        by_cases d : xc b N (i + 1) = 34
        · rw [if_pos d] at h
          have lt2 := tqs_le f (i + 2) e h
          rw [h2 1 (by omega), if_pos d, tq_re f (i + 2) (i' + 2) e h (fun j hj => by
            have := h2 (j + 2) (by omega)
            rw [show i' + (j + 2) = i' + 2 + j by omega, show i + (j + 2) = i + 2 + j by omega] at this
            exact this) (by rw [show i' + 2 + (e - (i + 2)) = i' + (e - i) by omega]; exact h3)]
          congr 1
          omega
        · rw [if_neg d] at h
          have : i + 1 = e := Option.some.inj h
          rw [show e - i = 1 by omega] at h3 ⊢
          rw [if_neg h3]
      · rw [if_neg c] at h ⊢
        have lt2 := tqs_le f (i + 1) e h
        rw [tq_re f (i + 1) (i' + 1) e h (fun j hj => by
            have := h2 (j + 1) (by omega)
            rw [show i' + (j + 1) = i' + 1 + j by omega, show i + (j + 1) = i + 1 + j by omega] at this
            exact this) (by rw [show i' + 1 + (e - (i + 1)) = i' + (e - i) by omega]; exact h3)]
        congr 1
        omega
theorem eqL_b {b b' : Nat → Int32} {N N' : Nat} : ∀ (k p p' : Nat), eqL b' N' p' (txL (byt b N p k)) = true → (∀ j, j < k → xc b' N' (p' + j) = xc b N (p + j)) ∧ byt b' N' p' k = byt b N p k
  | 0, p, p', _ => ⟨fun j hj => (by omega), rfl⟩
  | k + 1, p, p', h => by
    obtain ⟨h1, h2⟩ := (Bool.and_eq_true _ _).mp h
    have h1 : xc b' N' p' = xc b N p := of_decide_eq_true h1
    obtain ⟨i1, i2⟩ := eqL_b k (p + 1) (p' + 1) h2
    refine ⟨fun j hj => ?_, ?_⟩
    · cases j with
      | zero => exact h1
      | succ j =>
        have := i1 j (by omega)
        rw [show p' + 1 + j = p' + (j + 1) by omega, show p + 1 + j = p + (j + 1) by omega] at this
        exact this
    · show Sum.inl (xc b' N' p') :: byt b' N' (p' + 1) k = Sum.inl (xc b N p) :: byt b N (p + 1) k
      rw [h1, i2]
theorem byt_tx {b : Nat → Int32} {N : Nat} : ∀ (k p : Nat), (txL (byt b N p k)).length = k
  | 0, p => rfl
  | k + 1, p => by
    show (xc b N p :: txL (byt b N (p + 1) k)).length = k + 1
    rw [List.length_cons, byt_tx k (p + 1)]
theorem txt_re {b b' : Nat → Int32} {N N' q q' e : Nat} (hq : xc b N q = 34) (h : tqs b N (q + 1) = some e) (ht : eqL b' N' q' (txL (byt b N q (e - q))) = true) (hf : ¬ xc b' N' (q' + (e - q)) = 34) : thing b' N' q' = ([(259, q')], byt b N q (e - q), true, q' + (e - q)) := by
  have lt := tqs_le _ (q + 1) e h
  obtain ⟨x1, x2⟩ := eqL_b (e - q) q q' ht
  have x0 := x1 0 (by omega)
  rw [Nat.add_zero, Nat.add_zero, hq] at x0
  have t := tq_re (N := N) (N' := N') _ (q + 1) (q' + 1) e h (fun j hj => by
    have := x1 (j + 1) (by omega)
    rw [show q' + (j + 1) = q' + 1 + j by omega, show q + (j + 1) = q + 1 + j by omega] at this
    exact this) (by rw [show q' + 1 + (e - (q + 1)) = q' + (e - q) by omega]; exact hf)
  unfold thing
  rw [x0, if_pos (by decide), if_pos rfl]
  unfold txtT
  rw [t]
  show ([(259, q')], byt b' N' q' (q' + 1 + (e - (q + 1)) - q'), true, q' + 1 + (e - (q + 1))) = _
  rw [show q' + 1 + (e - (q + 1)) - q' = e - q by omega, show q' + 1 + (e - (q + 1)) = q' + (e - q) by omega, x2]
/-- AN ERROR IS READ AGAIN -/
theorem er_h : ∀ r, r < 8 → (erw r).head? = some 35 := by decide +kernel
theorem err_re {b : Nat → Int32} {N q r : Nat} (hr : r < 8) (ht : eqL b N q (erw r) = true) : thing b N q = ([(260, q)], txP (erw r), true, q + (erw r).length) ∧ xc b N q = 35 := by
  have x0 : xc b N q = 35 := by
    have h := er_h r hr
    cases e : erw r with
    | nil => rw [e] at h; cases h
    | cons c l =>
      rw [e] at h ht
      have : c = 35 := Option.some.inj h
      rw [← this]
      exact of_decide_eq_true ((Bool.and_eq_true _ _).mp ht).1
  have en : erN b N q 8 0 = r + 1 := by
    cases e : erN b N q 8 0 with
    | zero => exact absurd ht (erN_z 8 0 e r (Nat.zero_le _) (by omega))
    | succ s =>
      obtain ⟨-, s2, s3⟩ := erN_s 8 0 s e
      rw [er_one (by omega) hr s3 ht]
  refine ⟨?_, x0⟩
  unfold thing
  rw [x0, if_pos (by decide), if_neg (by decide), if_pos rfl]
  exact (err_s en).2
