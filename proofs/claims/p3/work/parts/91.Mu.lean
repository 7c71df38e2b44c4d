set_option maxRecDepth 20000 in
theorem sA_nb : ∀ x, x < 80 → ∀ s : Bool, sA_number (sA_edge (nI x) (xb s)) = nI x := by decide
theorem sA_sw {x y : Nat} {s t : Bool} (hx : x < 80) (h : y < x) : sA_of (sA_edge (nI x) (xb s)) (sA_edge (nI y) (xb t)) = sA_of (sA_edge (nI y) (xb t)) (sA_edge (nI x) (xb s)) := by
  unfold sA_of
  rw [sA_nb x hx, sA_nb y (by omega), if_neg (fun z => absurd ((mI_le (by omega) (by omega)).mp z) (by omega)), if_pos ((mI_le (by omega) (by omega)).mpr (by omega))]
/-- one axis of two corners -/
theorem axis {x y B : Nat} {s t : Bool} (hx : x < B) (hy : y < B) (hB : B ≤ 80) : ∃ lo hi, lo ≤ hi ∧ hi < B ∧ (if nI y < nI x then nI y else nI x) = nI lo ∧ (if nI x < nI y then nI y else nI x) = nI hi ∧ sA_of (sA_edge (nI x) (xb s)) (sA_edge (nI y) (xb t)) = sA_of (sA_edge (nI lo) (xb (if nI x ≤ nI y then s else t))) (sA_edge (nI hi) (xb (if nI x ≤ nI y then t else s))) := by
  by_cases q : x ≤ y
  · refine ⟨x, y, q, hy, ?_, ?_, ?_⟩
    · rw [if_neg (fun z => absurd ((mI_lt (by omega) (by omega)).mp z) (by omega))]
    · by_cases e : x < y
      · rw [if_pos ((mI_lt (by omega) (by omega)).mpr e)]
      · rw [if_neg (fun z => absurd ((mI_lt (by omega) (by omega)).mp z) e), show x = y by omega]
    · have q2 : nI x ≤ nI y := (mI_le (by omega) (by omega)).mpr q
      rw [if_pos q2, if_pos q2]
  · refine ⟨y, x, by omega, hx, ?_, ?_, ?_⟩
    · rw [if_pos ((mI_lt (by omega) (by omega)).mpr (by omega))]
    · rw [if_neg (fun z => absurd ((mI_lt (by omega) (by omega)).mp z) (by omega))]
    · have q2 : ¬ nI x ≤ nI y := fun z => q ((mI_le (by omega) (by omega)).mp z)
      rw [if_neg q2, if_neg q2]
      exact sA_sw (by omega) (by omega)
theorem lt_v {c : Int32} (h : ¬ sM_letter c = 0) : ∃ y : Nat, y < 26 ∧ c = nI (65 + y) := by
  unfold sM_letter at h
  have t65 : (65 : Int32).toInt = 65 := rfl
  have t90 : (90 : Int32).toInt = 90 := rfl
  have h1 : ¬ c < 65 := fun q => h (by rw [if_pos q])
  have h2 : ¬ 90 < c := fun q => h (by rw [if_neg h1, if_pos q])
  rw [Int32.lt_iff_toInt_lt] at h1 h2
  obtain ⟨d, hd⟩ : ∃ d : Nat, c.toInt = 65 + d := ⟨(c.toInt - 65).toNat, by omega⟩
  exact ⟨d, by omega, i32_nI (by omega) (by omega)⟩
/-- the parts of a CELL -/
theorem cell_v {b : Nat → Int32} {N q : Nat} (h : isCell b N q) : ∃ x y, x < 80 ∧ y < 26 ∧ cv1 b N q - 1 = x ∧ xc b N (cl1 b N q) - 65 = nI y ∧ crw b N q = sA_edge (nI x) (xb (decide (xc b N (cl1 b N q + 1) = 36))) ∧ ccl b N q = sA_edge (nI y) (xb (decide (xc b N q = 36))) := by
  obtain ⟨y, y1, y2⟩ := lt_v h.1
  have v1 := h.2.2.1
  have v2 := h.2.2.2.1
  have ey : xc b N (cl1 b N q) - 65 = nI y := by
    rw [y2, show (65 : Int32) = nI 65 from rfl, mI_sub (by omega), show 65 + y - 65 = y by omega]
  refine ⟨cv1 b N q - 1, y, by omega, y1, rfl, ey, ?_, ?_⟩
  · unfold crw
    have e : cd1 b N q = if xc b N (cl1 b N q + 1) = 36 then cl1 b N q + 1 + 1 else cl1 b N q + 1 := rfl
    by_cases z : xc b N (cl1 b N q + 1) = 36
    · rw [if_pos z] at e
      rw [if_neg (by omega), decide_eq_true z]
    · rw [if_neg z] at e
      rw [if_pos (by omega), decide_eq_false z]
  · unfold ccl
    rw [ey]
    have e : cl1 b N q = if xc b N q = 36 then q + 1 else q := rfl
    by_cases z : xc b N q = 36
    · rw [if_pos z] at e
      rw [if_neg (by omega), decide_eq_true z]
    · rw [if_neg z] at e
      rw [if_pos (by omega), decide_eq_false z]
theorem cell_th {b : Nat → Int32} {N q : Nat} (h : isCell b N q) : thing b N q = refT b N q ∧ q < N := by
  have hc : ¬ sM_letter (xc b N (cl1 b N q)) = 0 := h.1
  have key : sM_digit (xc b N q) = 0 ∧ ¬ xc b N q = 34 ∧ ¬ xc b N q = 35 ∧ ¬ xc b N q = -1 := by
    have e : cl1 b N q = if xc b N q = 36 then q + 1 else q := rfl
    by_cases z : xc b N q = 36
    · rw [z]; decide
    · rw [if_neg z] at e
      rw [e] at hc
      obtain ⟨y, y1, y2⟩ := lt_v hc
      have f : ∀ y, y < 26 → sM_digit (nI (65 + y)) = 0 ∧ ¬ nI (65 + y) = 34 ∧ ¬ nI (65 + y) = 35 ∧ ¬ nI (65 + y) = -1 := by decide
      rw [y2]; exact f y y1
  refine ⟨?_, xc_in rfl key.2.2.2⟩
  unfold thing
  rw [if_pos key.1, if_neg key.2.1, if_neg key.2.2.1, if_pos h]
/-- CELLS -/
theorem cells_n {b : Nat → Int32} {N q c op : Nat} {m : xMs} (h : PS b N m q c op) (hq : skb b N q = q) (hc : isCell b N q) : hk (lex b N q).1 = 262 ∧ ∃ out, FM_cells (setC m (nI (ce1 b N q)) (decide (xc b N (cl1 b N q + 1) = 36)) (decide (xc b N q = 36)) (nI (cv1 b N q - 1)) (xc b N (cl1 b N q) - 65)) = some out ∧ Res (∃ i m', out = .inl (i, m') ∧ Ok b N notSign 1 m q c op (lex b N q).1.tail i m') m (true, (lex b N q).1.tail) out := by
  have hN2 := PS_N h
  have hqN := h.2.2.1
  have hcp := h.2.2.2.2.2.2.1
  obtain ⟨th, lt⟩ := cell_th hc
  have ce := ce1_le (Nat.le_of_lt lt) hc
  obtain ⟨x, y, x1, y1, ex, ey, erw1, ecl1⟩ := cell_v hc
  generalize hrs : decide (xc b N (cl1 b N q + 1) = 36) = rs at *
  generalize hcs : decide (xc b N q = 36) = cs at *
  rw [ex, ey]
  have h1 : PS b N (setC m (nI (ce1 b N q)) rs cs (nI x) (nI y)) q c op := PS_C h
  obtain ⟨m1, r, e1, e2, e3, e4, e5, e6, e7⟩ := nodeS h1 4
  unfold FM_cells
  rw [e1, Option.bind_some]
  have ec : FM_corner c m1 = some (setG (setAt m1 (nI (ce1 b N q))) (va_up (gg m1) c ((4, 0, 0, 0), (nI x, nI y, rs, cs, r.2.1.2.2.2.2), (none, none, none, 0)))) := by
    unfold FM_corner
    have f1 : m1.2.1.2.2.2.2.1 = nI (ce1 b N q) := by rw [e3]; rfl
    have f2 : m1.2.1.2.2.2.2.2.1 = rs := by rw [e3]; rfl
    have f3 : m1.2.1.2.2.2.2.2.2.1 = cs := by rw [e3]; rfl
    have f4 : m1.2.1.2.2.2.2.2.2.2.1 = nI x := by rw [e3]; rfl
    have f5 : m1.2.1.2.2.2.2.2.2.2.2 = nI y := by rw [e3]; rfl
    rw [if_pos e5, f1, f2, f3, f4, f5, show m1.2.2.1.2.2.2.2.2.1 c = frs r 4 from e6]
    rfl
  generalize hm2 : setG (setAt m1 (nI (ce1 b N q))) (va_up (gg m1) c ((4, 0, 0, 0), (nI x, nI y, rs, cs, r.2.1.2.2.2.2), (none, none, none, 0))) = m2 at ec
  have g2 : gg m2 c = ((4, 0, 0, 0), (nI x, nI y, rs, cs, r.2.1.2.2.2.2), (none, none, none, 0)) := by rw [← hm2]; exact va_up_self _ _ _
  have g2x : ∀ k, k ≠ c → gg m2 k = gg m k := fun k hk => by
    rw [← hm2]
    show va_up (gg m1) c _ k = _
    rw [va_up_ne _ _ hk, e7 k hk]; rfl
  have ev2 : Ev m m2 := by rw [← hm2]; exact Ev_t (Ev_t (Ev_C _ _ _ _ _ _) e2) (Ev_t (Ev_at _ _) (Ev_G _ _))
  have al2 : c < m2.2.2.1.2.2.2.2.1 := by rw [← hm2]; exact e5
  have at2 : m2.2.1.2.1 = nI (ce1 b N q) := by rw [← hm2]; rfl
  have h2 : PS b N m2 (ce1 b N q) (c + 1) op := PS_mk h ev2 at2 ce.2 (by rw [← hm2]; show m1.2.1.2.2.2.1 = _; rw [e3]; exact h.2.2.2.1) h.2.2.2.2.1 (by rw [← hm2]; exact e4) (by omega)
  show _ ∧ ∃ out, ((FM_corner c m1).bind fun r235 => (FM_next 58 r235).bind fun r238 => if r238.1 = true then ((FM_blanks (r238.2.1, (r238.2.2.1.1, (r238.2.2.1.2.1 + 1), r238.2.2.1.2.2), r238.2.2.2)).bind fun r242 => (FM_cell_Z r242).bind fun r245 => if r245.1 = true then (FM_cells_61 c r245.2) else (xo_b (FM_bad r245.2.2.1.2.1 r245.2) fun r260 => FM_cells_61 c r260.2)) else (some (.inl (c, (r238.2.1, (r238.2.2.1.1, r235.2.1.2.1, r238.2.2.1.2.2), r238.2.2.2))))) = some out ∧ _
  rw [ec, Option.bind_some, nx_at h2, Option.bind_some]
  have sg1 := skb_ge (b := b) (N := N) (ce1 b N q)
  have sl := skb_le (b := b) (ce1 b N q) ce.2
  have rfE : rfe b N q = skb b N (ce1 b N q) := rfl
  rw [← rfE] at sg1 sl ⊢
  by_cases z : xc b N (rfe b N q) = 58
  · have zN := xc_in z (by decide)
    have sg2 := skb_ge (b := b) (N := N) (rfe b N q + 1)
    have sl2 : skb b N (rfe b N q + 1) ≤ N := skb_le (b := b) (rfe b N q + 1) (by omega)
    have rfS : rfs b N q = skb b N (rfe b N q + 1) := rfl
    rw [← rfS] at sg2 sl2
    have h3 : PS b N (setAt m2 (nI (rfe b N q + 1))) (rfe b N q + 1) (c + 1) op := PS_at h2 (by omega) (by omega)
    rw [decide_eq_true z, if_pos rfl]
    show _ ∧ ∃ out, ((FM_blanks ((setAt m2 (nI (rfe b N q))).1, ((setAt m2 (nI (rfe b N q))).2.1.1, ((setAt m2 (nI (rfe b N q))).2.1.2.1 + 1), (setAt m2 (nI (rfe b N q))).2.1.2.2), (setAt m2 (nI (rfe b N q))).2.2)).bind _) = some out ∧ _
    rw [step1, bl_at h3, Option.bind_some, ← rfS, setAt_at]
    have h4 : PS b N (setAt m2 (nI (rfs b N q))) (rfs b N q) (c + 1) op := PS_at h2 (by omega) sl2
    by_cases w : isCell b N (rfs b N q)
    · obtain ⟨x', y', x1', y1', ex', ey', erw1', ecl1'⟩ := cell_v w
      have ce' := ce1_le sl2 w
      have ht : thing b N q = ([(262, q)], [.inr (sR_of (sA_of (crw b N q) (crw b N (rfs b N q))) (sA_of (ccl b N q) (ccl b N (rfs b N q))) 1)], true, ce1 b N (rfs b N q)) := by
        rw [th]; unfold refT; rw [if_pos z, if_pos w]
      obtain ⟨u1, u2, u3, u4⟩ := lex_th hN2 hqN hq lt ht
      rw [FM_cell_y h4.1 rfl sl2 w, Option.bind_some, if_pos rfl, ex', ey']
      generalize hrs' : decide (xc b N (cl1 b N (rfs b N q) + 1) = 36) = rs' at *
      generalize hcs' : decide (xc b N (rfs b N q) = 36) = cs' at *
      have e61 := cells61 (m := setC (setAt m2 (nI (rfs b N q))) (nI (ce1 b N (rfs b N q))) rs' cs' (nI x') (nI y')) (c := c) al2 g2
      obtain ⟨lo, hi, p1, p2, p3, p4, p5⟩ := axis (s := rs) (t := rs') x1 x1' (Nat.le_refl 80)
      obtain ⟨lo2, hi2, o1, o2, o3, o4, o5⟩ := axis (s := cs) (t := cs') y1 y1' (show 26 ≤ 80 by decide)
      refine ⟨by rw [u1]; rfl, _, e61, Or.inl ⟨rfl, c, _, rfl, ce1 b N (rfs b N q), c + 1, _, 1, Ev_t ev2 (Ev_t (Ev_t (Ev_at _ _) (Ev_C _ _ _ _ _ _)) (Ev_t (Ev_at _ _) (Ev_G _ _))), ?_, by omega, by omega, by rw [u1]; rfl, u2, ?_, ?_, ?_, fun k hk => ?_⟩⟩
      · exact PS_G (PS_at (PS_C h4) (by omega) u4)
      · refine leaf_RT ?_ (Nat.le_refl _) ?_
        · show (va_up (gg m2) c _ c).2.2 = _
          rw [va_up_self]
        · show LF b N ((va_up (gg m2) c _ c).1, (va_up (gg m2) c _ c).2.1) _
          rw [va_up_self]
          refine Or.inr (Or.inr (Or.inr (Or.inr (Or.inr (Or.inl ⟨rfl, lo, lo2, hi, hi2, p1, p2, o1, o2, p3, o3, p4, o4, ?_⟩)))))
          show [Sum.inr (sR_of (sA_of (crw b N q) (crw b N (rfs b N q))) (sA_of (ccl b N q) (ccl b N (rfs b N q))) 1)] = [Sum.inr (sR_of (sA_of (sA_edge (nI lo) (xb (if nI x ≤ nI x' then rs else rs'))) (sA_edge (nI hi) (xb (if nI x ≤ nI x' then rs' else rs)))) (sA_of (sA_edge (nI lo2) (xb (if nI y ≤ nI y' then cs else cs'))) (sA_edge (nI hi2) (xb (if nI y ≤ nI y' then cs' else cs)))) (xb true))]
          rw [erw1, erw1', ecl1, ecl1', p5, o5]
      · show (va_up (gg m2) c _ c).2.2.2.2.1 = none
        rw [va_up_self]
      · show notSign (va_up (gg m2) c _ c).1.1
        rw [va_up_self]
        exact (show notSign 5 from ⟨by decide, by decide⟩)
      · show va_up _ c _ k = _
        rw [va_up_ne _ _ (by omega)]
        exact g2x k (by omega)
    · obtain ⟨a1, a2, a3, a4, a5, ea⟩ := FM_cell_n h4.1 rfl sl2 w
      have yn : ¬ (thing b N (skb b N q)).2.2.1 = true := by
        rw [hq, th]; unfold refT; rw [if_pos z, if_neg w]; exact Bool.false_ne_true
      have ln := lex_n hN2 hqN (by rw [hq]; exact lt) yn
      have l1 : (lex b N q).1 = [(262, q), (257, rfs b N q)] := by
        rw [ln, hq, th]
        unfold refT
        rw [if_pos z, if_neg w]
        rfl
      rw [ea, Option.bind_some, if_neg (by exact Bool.false_ne_true), l1]
      refine ⟨rfl, _, rfl, Or.inr ⟨fun _ => rfl, _, rfl, setC (setAt m2 (nI (rfs b N q))) a1 a2 a3 a4 a5, c + 1, Ev_t ev2 (Ev_t (Ev_at _ _) (Ev_C _ _ _ _ _ _)), h4.2.2.2.2.2.1, rfl⟩⟩
  · have ht : thing b N q = ([(262, q)], [.inr (sR_of (sA_of (crw b N q) (crw b N q)) (sA_of (ccl b N q) (ccl b N q)) 0)], true, rfe b N q) := by
      rw [th]; unfold refT; rw [if_neg z]
    obtain ⟨u1, u2, u3, u4⟩ := lex_th hN2 hqN hq lt ht
    have el : lex b N (rfe b N q) = lex b N (ce1 b N q) := lex_skb hN2 ce.2
    rw [el] at u1 u2
    rw [decide_eq_false z, if_neg (by exact Bool.false_ne_true)]
    refine ⟨by rw [u1]; rfl, _, rfl, Or.inl ⟨rfl, c, _, rfl, ce1 b N q, c + 1, _, 1, Ev_t ev2 (Ev_t (Ev_at _ (nI (rfe b N q))) (Ev_at _ m2.2.1.2.1)), ?_, by omega, by omega, by rw [u1]; rfl, u2, ?_, ?_, ?_, fun k hk => ?_⟩⟩
    · refine PS_mk h (Ev_t ev2 (Ev_t (Ev_at _ (nI (rfe b N q))) (Ev_at _ m2.2.1.2.1))) at2 ce.2 h2.2.2.2.1 h.2.2.2.2.1 h2.2.2.2.2.2.1 (by omega)
    · refine leaf_RT (by show (gg m2 c).2.2 = _; rw [g2]) (Nat.le_refl _) ?_
      show LF b N ((gg m2 c).1, (gg m2 c).2.1) _
      rw [g2]
      refine Or.inr (Or.inr (Or.inr (Or.inr (Or.inl ⟨rfl, x, y, x1, y1, rfl, rfl, ?_⟩))))
      rw [erw1, ecl1]
      rfl
    · show (gg m2 c).2.2.2.2.1 = none
      rw [g2]
    · show notSign (gg m2 c).1.1
      rw [g2]
      exact (show notSign 4 from ⟨by decide, by decide⟩)
    · exact g2x k (by omega)
