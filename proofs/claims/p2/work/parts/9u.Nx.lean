theorem nst_run {b : Nat → Int32} {N : Nat} : ∀ (n p : Nat), (∀ i, i < n → ¬ sP_isNamePart (xc b N (p + i)) = 0) → sP_isNamePart (xc b N (p + n)) = 0 → nst b N p = p + n
  | 0, p, _, h => nst_n h
  | n + 1, p, h, h2 => by
    have h0 := h 0 (by omega)
    rw [Nat.add_zero] at h0
    rw [nst_y h0, nst_run n (p + 1) (fun i hi => by
      have := h (i + 1) (by omega)
      rw [show p + (i + 1) = p + 1 + i by omega] at this
      exact this) (by rw [show p + 1 + n = p + (n + 1) by omega]; exact h2)]
    omega
theorem eqL_cg {b b' : Nat → Int32} {N N' : Nat} : ∀ (l : List Int32) (p p' : Nat), (∀ i, i < l.length → xc b' N' (p' + i) = xc b N (p + i)) → eqL b' N' p' l = eqL b N p l
  | [], p, p', _ => rfl
  | c :: l, p, p', h => by
    have h0 := h 0 (Nat.succ_pos _)
    rw [Nat.add_zero, Nat.add_zero] at h0
    show (decide (xc b' N' p' = c) && eqL b' N' (p' + 1) l) = (decide (xc b N p = c) && eqL b N (p + 1) l)
    rw [h0, eqL_cg l (p + 1) (p' + 1) (fun i hi => by
      have := h (i + 1) (Nat.succ_lt_succ hi)
      rw [show p' + (i + 1) = p' + 1 + i by omega, show p + (i + 1) = p + 1 + i by omega] at this
      exact this)]
section CG
variable {b b' : Nat → Int32} {N N' q q' n : Nat} (h : ∀ i, i < n → xc b' N' (q' + i) = xc b N (q + i))
theorem hof_1 (h : ∀ i, i < n → xc b' N' (q' + i) = xc b N (q + i)) (cur : List Int32) : (decide (cur.length = n) && eqL b' N' q' cur) = (decide (cur.length = n) && eqL b N q cur) := by
  by_cases z : cur.length = n
  · rw [eqL_cg cur q q' (fun i hi => h i (by omega))]
  · rw [decide_eq_false z, Bool.false_and, Bool.false_and]
theorem hof_cg (h : ∀ i, i < n → xc b' N' (q' + i) = xc b N (q + i)) : ∀ (l cur : List Int32), hof b' N' q' n l cur = hof b N q n l cur
  | [], cur => hof_1 h cur
  | c :: l, cur => by
    show (if c = 32 then ((decide (cur.length = n) && eqL b' N' q' cur) || hof b' N' q' n l []) else hof b' N' q' n l (cur ++ [c])) = (if c = 32 then ((decide (cur.length = n) && eqL b N q cur) || hof b N q n l []) else hof b N q n l (cur ++ [c]))
    rw [hof_1 h cur, hof_cg h l [], hof_cg h l (cur ++ [c])]
theorem arf_cg (h : ∀ i, i < n → xc b' N' (q' + i) = xc b N (q + i)) : ∀ k i, arf b' N' q' n k i = arf b N q n k i
  | 0, i => rfl
  | k + 1, i => by
    show (if hof b' N' q' n (xk_by (xk_ar.getD i (0, 0, 0)).2.2) [] = true then i else arf b' N' q' n k (i + 1)) = (if hof b N q n (xk_by (xk_ar.getD i (0, 0, 0)).2.2) [] = true then i else arf b N q n k (i + 1))
    rw [hof_cg h, arf_cg h k (i + 1)]
theorem nmk_cg (h : ∀ i, i < n → xc b' N' (q' + i) = xc b N (q + i)) : nmk b' N' q' n = nmk b N q n := by
  unfold nmk ari
  rw [hof_cg h, arf_cg h]
end CG
theorem vn_cg {b b' : Nat → Int32} {N N' : Nat} : ∀ (k p p' a : Nat), (∀ i, i < k → xc b' N' (p' + i) = xc b N (p + i)) → vn b' N' k p' a = vn b N k p a
  | 0, p, p', a, _ => rfl
  | k + 1, p, p', a, h => by
    have h0 := h 0 (Nat.succ_pos _)
    rw [Nat.add_zero, Nat.add_zero] at h0
    show vn b' N' k (p' + 1) (10 * a + dv (xc b' N' p')) = vn b N k (p + 1) (10 * a + dv (xc b N p))
    rw [h0, vn_cg k (p + 1) (p' + 1) _ (fun i hi => by
      have := h (i + 1) (Nat.succ_lt_succ hi)
      rw [show p' + (i + 1) = p' + 1 + i by omega, show p + (i + 1) = p + 1 + i by omega] at this
      exact this)]
theorem dg_t : ∀ d, d < 10 → ¬ sP_isNamePart (nI (48 + d)) = 0 := by decide +kernel
theorem np_dg {c : Int32} (h : sP_isNamePart c = 0) : sM_digit c = 0 := by
  by_cases z : sM_digit c = 0
  · exact z
  · exact absurd h (by rw [(dg_v z).2]; exact dg_t _ (dg_v z).1)
theorem np_36 {c : Int32} (h : ¬ sP_isNamePart c = 0) : ¬ c = 36 := fun z => h (by rw [z]; decide)
theorem dg_np {c : Int32} (h : ¬ sM_digit c = 0) : ¬ sP_isNamePart c = 0 := fun z => h (np_dg z)
theorem bm_no {b : Nat → Int32} {N p : Nat} (h : ¬ xc b N p = 36) : bm b N p = p := by unfold bm; rw [if_neg h]
theorem bm_y {b : Nat → Int32} {N p : Nat} (h : xc b N p = 36) : bm b N p = p + 1 := by unfold bm; rw [if_pos h]
/-- A NAME IS READ AGAIN -/
theorem name_re {b b' : Nat → Int32} {N N' q q' n : Nat} (hl : ¬ sM_letter (xc b N q) = 0) (hc : ¬ isCell b N q) (hn : nst b N q = q + n) (h12 : n ≤ 12) (hf : sP_isBarredBehindCell (xc b N (q + n)) = 0) (ht : eqL b' N' q' (txL (byt b N q n)) = true) (hf' : sP_isBarredBehindCell (xc b' N' (q' + n)) = 0) (h36 : ¬ xc b' N' (q' + n) = 36) : thing b' N' q' = ([(nmk b N q n, q')], byt b N q n, true, q' + n) := by
  obtain ⟨x1, x2⟩ := eqL_b n q q' ht
  obtain ⟨l1, l2, l3, l4, l5⟩ := lt_not hl
  have n1 : 1 ≤ n := by
    have := nst_y l5
    have := nst_ge (b := b) (N := N) (q + 1)
    omega
  have x0 := x1 0 (by omega)
  rw [Nat.add_zero, Nat.add_zero] at x0
  have np : ∀ i, i < n → ¬ sP_isNamePart (xc b' N' (q' + i)) = 0 := fun i hi => by
    rw [x1 i hi]
    exact nst_all q (q + i) (by omega) (by omega)
  have hn' : nst b' N' q' = q' + n := nst_run n q' np (bar_0.mp hf').1
  have hc' : ¬ isCell b' N' q' := fun hc' => by
    obtain ⟨c1, c2, c3, c4, c5⟩ := hc'
    have y0 : ¬ xc b' N' q' = 36 := np_36 (by have := np 0 (by omega); rw [Nat.add_zero] at this; exact this)
    have cl : cl1 b' N' q' = q' := bm_no y0
    have y1 : ¬ xc b' N' (q' + 1) = 36 := by
      by_cases z : n = 1
      · rw [← z]; exact h36
      · exact np_36 (np 1 (by omega))
    have cd : cd1 b' N' q' = q' + 1 := by unfold cd1; rw [cl]; exact bm_no y1
    have ce : ce1 b' N' q' = dst b' N' 2 (q' + 1) := by unfold ce1; rw [cd]
    unfold cv1 at c3 c4
    rw [ce, cd] at c3 c4
    rw [ce] at c5
    rw [cd] at c2
    have g := dst_ge (b := b') (N := N') 2 (q' + 1)
    obtain ⟨d, hd⟩ : ∃ d, dst b' N' 2 (q' + 1) = q' + 1 + d := ⟨dst b' N' 2 (q' + 1) - (q' + 1), by omega⟩
    have al := dst_all (b := b') (N := N') 2 (q' + 1)
    rw [hd, show q' + 1 + d - (q' + 1) = d by omega] at al c3 c4
    rw [hd] at c5
    have d1 : 1 ≤ d := by
      refine Nat.pos_of_ne_zero fun z => ?_
      rw [z] at c3
      have c3 : 1 ≤ 0 := c3
      omega
    have en : nst b' N' q' = q' + (1 + d) := nst_run (1 + d) q' (fun i hi => by
      cases i with
      | zero => exact np 0 (by omega)
      | succ i =>
        have := al i (by omega)
        rw [show q' + 1 + i = q' + (i + 1) by omega] at this
        exact dg_np this) (by rw [show q' + (1 + d) = q' + 1 + d by omega]; exact (bar_0.mp c5).1)
    have e1 : n = 1 + d := by omega
    -- the same in the first text
    have cl0 : cl1 b N q = q := bm_no (by rw [← x0]; exact y0)
    have cd0 : cd1 b N q = q + 1 := by
      unfold cd1
      rw [cl0]
      refine bm_no ?_
      have := x1 1 (by omega)
      rw [← this]; exact y1
    have xs : ∀ i, i < d → xc b' N' (q' + 1 + i) = xc b N (q + 1 + i) := fun i hi => by
      have := x1 (i + 1) (by omega)
      rw [show q' + (i + 1) = q' + 1 + i by omega, show q + (i + 1) = q + 1 + i by omega] at this
      exact this
    have fo : sP_isBarredBehindCell (xc b N (q + 1 + d)) = 0 := by rw [show q + 1 + d = q + n by omega]; exact hf
    have ce0 : ce1 b N q = q + 1 + d := by
      unfold ce1
      rw [cd0]
      exact dst_run d 2 (q + 1) (fun i hi => by rw [← xs i hi]; exact al i hi) (by omega) (Or.inr (np_dg (bar_0.mp fo).1))
    have cv0 : cv1 b N q = vn b' N' d (q' + 1) 0 := by
      unfold cv1
      rw [ce0, cd0, show q + 1 + d - (q + 1) = d by omega]
      exact (vn_cg d (q + 1) (q' + 1) 0 xs).symm
    refine hc ⟨by rw [cl0]; exact hl, ?_, by rw [cv0]; exact c3, by rw [cv0]; exact c4, by rw [ce0]; exact fo⟩
    rw [cd0]
    have := xs 0 (by omega)
    rw [Nat.add_zero, Nat.add_zero] at this
    rw [← this]; exact c2
  unfold thing
  rw [x0, if_pos l1, if_neg l2, if_neg l3, if_neg hc', if_neg hl]
  unfold namT
  rw [hn', show q' + n - q' = n by omega, if_pos h12, nmk_cg x1, x2]
-- references
theorem lett : ∀ c, c < 26 → ¬ sM_letter (nI (65 + c)) = 0 ∧ ¬ nI (65 + c) = 36 ∧ nI (65 + c) - 65 = nI c ∧ sM_digit (nI (65 + c)) = 0 ∧ ¬ nI (65 + c) = 34 ∧ ¬ nI (65 + c) = 35 ∧ ¬ nI (65 + c) = 32 ∧ ¬ nI (65 + c) = 61 ∧ ¬ nI (65 + c) = 62 := by decide +kernel
theorem row_re {b : Nat → Int32} {N d v : Nat} (h1 : 1 ≤ v) (h2 : v ≤ 80) (ht : eqL b N d ((dig 20 v).map chd) = true) (hf : sM_digit (xc b N (d + (dig 20 v).length)) = 0) : dst b N 2 d = d + (dig 20 v).length ∧ vn b N (dig 20 v).length d 0 = v ∧ ¬ xc b N d = 48 ∧ ¬ xc b N d = 36 := by
  obtain ⟨d1, d2⟩ := dig_at (b := b) (N := N) (dig 20 v) d (dig_lt 20 v (by omega)) ht
  obtain ⟨l1, l2⟩ := dig_len 1 20 v (by decide) (by omega)
  obtain ⟨x, r, e, e1, e2⟩ := dig_hd 20 v h1 (by omega)
  have x0 : xc b N d = chd x := by
    rw [e] at ht
    exact of_decide_eq_true ((Bool.and_eq_true _ _).mp ht).1
  obtain ⟨t1, t2, t3, t4, t5, -⟩ := dgt x e2
  refine ⟨dst_run _ 2 d d1 (by omega) (Or.inr hf), ?_, ?_, ?_⟩
  · rw [d2 0, dig_val 20 v (by omega)]
  · rw [x0]; exact fun z => by have := t3.mp z; omega
  · rw [x0]; exact t5
/-- A CELL IS READ AGAIN -/
theorem cell_re {b : Nat → Int32} {N q r c : Nat} {rs cs : Bool} (hr : r < 80) (hc : c < 26) (ht : eqL b N q (ctx r c rs cs) = true) (hf : sP_isBarredBehindCell (xc b N (q + (ctx r c rs cs).length)) = 0) : isCell b N q ∧ ce1 b N q = q + (ctx r c rs cs).length ∧ crw b N q = sA_edge (nI r) (xb rs) ∧ ccl b N q = sA_edge (nI c) (xb cs) ∧ (xc b N q = 36 ∨ xc b N q = nI (65 + c)) := by
  obtain ⟨t1, t2, t3, -⟩ := lett c hc
  -- the letter
  have A : ∃ l, cl1 b N q = l ∧ xc b N l = nI (65 + c) ∧ l = q + (if cs = true then 1 else 0) ∧ eqL b N (l + 1) ((if rs = true then [36] else []) ++ (dig 20 (r + 1)).map chd) = true ∧ (ctx r c rs cs).length = (l - q) + 1 + ((if rs = true then [36] else []) ++ (dig 20 (r + 1)).map chd).length ∧ (xc b N q = 36 ∨ xc b N q = nI (65 + c)) := by
    unfold ctx at ht ⊢
    cases cs with
    | true =>
      rw [if_pos rfl] at ht ⊢
      obtain ⟨u1, u2⟩ := (Bool.and_eq_true _ _).mp ht
      obtain ⟨u3, u4⟩ := (Bool.and_eq_true _ _).mp u2
      have u1 : xc b N q = 36 := of_decide_eq_true u1
      refine ⟨q + 1, bm_y u1, of_decide_eq_true u3, rfl, u4, ?_, Or.inl u1⟩
      rw [List.length_append, List.length_cons]
      show 1 + _ = _
      omega
    | false =>
      rw [if_neg (by exact Bool.false_ne_true)] at ht ⊢
      obtain ⟨u3, u4⟩ := (Bool.and_eq_true _ _).mp ht
      have u3 : xc b N q = nI (65 + c) := of_decide_eq_true u3
      refine ⟨q, bm_no (by rw [u3]; exact t2), u3, rfl, u4, ?_, Or.inr u3⟩
      rw [if_neg (show ¬ false = true from Bool.false_ne_true), List.nil_append, List.length_cons]
      omega
  obtain ⟨l, a1, a2, a3, a4, a5, a6⟩ := A
  -- the digits
  have B : ∃ d, cd1 b N q = d ∧ d = l + 1 + (if rs = true then 1 else 0) ∧ eqL b N d ((dig 20 (r + 1)).map chd) = true ∧ q + (ctx r c rs cs).length = d + (dig 20 (r + 1)).length := by
    have e0 : cd1 b N q = bm b N (l + 1) := by unfold cd1; rw [a1]
    have lq : q ≤ l := by omega
    cases rs with
    | true =>
      rw [if_pos rfl] at a4 a5
      obtain ⟨u1, u2⟩ := (Bool.and_eq_true _ _).mp a4
      have u1 : xc b N (l + 1) = 36 := of_decide_eq_true u1
      refine ⟨l + 1 + 1, by rw [e0, bm_y u1], by rw [if_pos rfl], u2, ?_⟩
      rw [List.length_append, List.length_map] at a5
      have a5 : (ctx r c true cs).length = l - q + 1 + (1 + (dig 20 (r + 1)).length) := a5
      omega
    | false =>
      rw [if_neg (by exact Bool.false_ne_true)] at a4 a5
      rw [List.nil_append] at a4 a5
      rw [List.length_map] at a5
      have a4 : eqL b N (l + 1) ((dig 20 (r + 1)).map chd) = true := a4
      have e36 : ¬ xc b N (l + 1) = 36 := by
        obtain ⟨x, s, e, e1, e2⟩ := dig_hd 20 (r + 1) (by omega) (by omega)
        rw [e] at a4
        have : xc b N (l + 1) = chd x := of_decide_eq_true ((Bool.and_eq_true _ _).mp a4).1
        rw [this]
        exact (dgt x e2).2.2.2.2.1
      exact ⟨l + 1, by rw [e0, bm_no e36], rfl, a4, by omega⟩
  obtain ⟨d, b1, b2, b3, b4⟩ := B
  rw [b4] at hf ⊢
  obtain ⟨r1, r2, r3, r4⟩ := row_re (by omega) (by omega) b3 (np_dg (bar_0.mp hf).1)
  have ce : ce1 b N q = d + (dig 20 (r + 1)).length := by unfold ce1; rw [b1]; exact r1
  have cv : cv1 b N q = r + 1 := by
    unfold cv1
    rw [ce, b1, show d + (dig 20 (r + 1)).length - d = (dig 20 (r + 1)).length by omega]
    exact r2
  refine ⟨⟨by rw [a1, a2]; exact t1, by rw [b1]; exact r3, by omega, by omega, by rw [ce]; exact hf⟩, ce, ?_, ?_, a6⟩
  · unfold crw
    rw [cv, b1, a1, show r + 1 - 1 = r by omega]
    cases rs with
    | true => rw [if_neg (by rw [b2, if_pos rfl]; omega)]
    | false => rw [if_pos (by rw [b2, if_neg (by exact Bool.false_ne_true)]; omega)]
  · unfold ccl
    rw [a1, a2, t3]
    cases cs with
    | true => rw [if_neg (by rw [a3, if_pos rfl]; omega)]
    | false => rw [if_pos (by rw [a3, if_neg (by exact Bool.false_ne_true)]; omega)]
/-- A REFERENCE IS READ AGAIN -/
theorem ref_re {b : Nat → Int32} {N q : Nat} {y : Int64} (hv : vR y) (ht : eqL b N q (txr y) = true) (hf : sP_isBarredBehindCell (xc b N (q + (txr y).length)) = 0) (h58 : ¬ xc b N (q + (txr y).length) = 58) (h32 : ¬ xc b N (q + (txr y).length) = 32) : thing b N q = ([(262, q)], [.inr y], true, q + (txr y).length) ∧ ¬ xc b N q = 32 ∧ ¬ xc b N q = 61 ∧ ¬ xc b N q = 62 := by
  obtain ⟨p, r, c, r2, c2, rs, cs, rs2, cs2, h1, h2, h3, h4, h5, rfl⟩ := hv
  rw [txr_pk h1 h2 h3 h4] at ht hf h58 h32 ⊢
  rw [eqL_app] at ht
  obtain ⟨t1, t2⟩ := (Bool.and_eq_true _ _).mp ht
  have fin : isCell b N q → (xc b N q = 36 ∨ xc b N q = nI (65 + c)) → refT b N q = ([(262, q)], [.inr (pk p r c r2 c2 rs cs rs2 cs2)], true, q + (ctx r c rs cs ++ (if p = true then 58 :: ctx r2 c2 rs2 cs2 else [])).length) → thing b N q = ([(262, q)], [.inr (pk p r c r2 c2 rs cs rs2 cs2)], true, q + (ctx r c rs cs ++ (if p = true then 58 :: ctx r2 c2 rs2 cs2 else [])).length) ∧ ¬ xc b N q = 32 ∧ ¬ xc b N q = 61 ∧ ¬ xc b N q = 62 := fun hc h0 hR => by
    have f0 : sM_digit (xc b N q) = 0 ∧ ¬ xc b N q = 34 ∧ ¬ xc b N q = 35 ∧ ¬ xc b N q = 32 ∧ ¬ xc b N q = 61 ∧ ¬ xc b N q = 62 := by
      rcases h0 with z | z
      · rw [z]; decide
      · rw [z]
        obtain ⟨-, -, -, u4, u5, u6, u7, u8, u9⟩ := lett c (by omega)
        exact ⟨u4, u5, u6, u7, u8, u9⟩
    refine ⟨?_, f0.2.2.2⟩
    unfold thing
    rw [if_pos f0.1, if_neg f0.2.1, if_neg f0.2.2.1, if_pos hc, hR]
  cases p with
  | false =>
    obtain ⟨rfl, rfl, rfl, rfl⟩ := h5 rfl
    rw [if_neg (by exact Bool.false_ne_true), List.append_nil] at hf h58 h32 fin ⊢
    obtain ⟨c1, c3, c4, c5, c6⟩ := cell_re h2 h4 t1 hf
    refine fin c1 c6 ?_
    have e1 : rfe b N q = q + (ctx r c rs cs).length := by unfold rfe; rw [c3]; exact skb_n h32
    unfold refT
    rw [e1, if_neg h58, c4, c5]
    rfl
  | true =>
    rw [if_pos rfl] at hf h58 h32 t2 fin ⊢
    obtain ⟨u1, u2⟩ := (Bool.and_eq_true _ _).mp t2
    have u1 : xc b N (q + (ctx r c rs cs).length) = 58 := of_decide_eq_true u1
    obtain ⟨c1, c3, c4, c5, c6⟩ := cell_re (by omega) (by omega) t1 (by rw [u1]; decide)
    have e1 : rfe b N q = q + (ctx r c rs cs).length := by unfold rfe; rw [c3]; exact skb_n (by rw [u1]; decide)
    rw [List.length_append, List.length_cons] at hf h58 h32
    rw [show q + ((ctx r c rs cs).length + ((ctx r2 c2 rs2 cs2).length + 1)) = q + (ctx r c rs cs).length + 1 + (ctx r2 c2 rs2 cs2).length by omega] at hf h58 h32
    obtain ⟨d1, d3, d4, d5, d6⟩ := cell_re h2 h4 u2 hf
    have e2 : rfs b N q = q + (ctx r c rs cs).length + 1 := by
      unfold rfs
      rw [e1]
      refine skb_n ?_
      rcases d6 with z | z
      · rw [z]; decide
      · rw [z]; exact (lett c2 h4).2.2.2.2.2.2.1
    refine fin c1 c6 ?_
    unfold refT
    rw [e1, if_pos u1, e2, if_pos d1, c4, c5, d4, d5, d3, List.length_append, List.length_cons, show q + ((ctx r c rs cs).length + ((ctx r2 c2 rs2 cs2).length + 1)) = q + (ctx r c rs cs).length + 1 + (ctx r2 c2 rs2 cs2).length by omega]
    rfl
