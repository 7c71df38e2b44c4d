theorem bw_and (x : Int32) : bw (x &&& 255) = bw x := by
  unfold bw
  rw [i8_eq (x := x &&& 255) (y := x) (fun i hi => ?_)]
  show (x.toBitVec &&& 255#32).getLsbD i = _
  rw [BitVec.getLsbD_and]
  have : ∀ i, i < 8 → (255#32).getLsbD i = true := by decide
  rw [this i hi, Bool.and_true]
theorem put_w {x y : Int32} {m : xMs} (e : bw y = bw x) : FM_put_IV y m = FM_put_IV x m := by
  unfold FM_put_IV
  show (if m.2.2.2.1.1 = nI 4096 then none else if 0 ≤ m.2.2.2.1.1 ∧ m.2.2.2.1.1 < nI 4096 then some (m.1, m.2.1, m.2.2.1, (m.2.2.2.1.1 + 1, upd m.2.2.2.1.2.1 m.2.2.2.1.1.toNatClampNeg (bw y), m.2.2.2.1.2.2), m.2.2.2.2) else none) = _
  rw [e]
  rfl
/-- the inside of a text, and the quote behind it -/
theorem plain103 {b : Nat → Int32} {N i q n : Nat} {p : xTS} : ∀ (d j fu : Nat) {m : xMs} {T : List Int32}, j + d = n → d < fu → q + n + 2 ≤ N → Sr m b N → i < m.2.2.1.2.2.2.2.1 → (gg m i).1.2.1 = nI (q + 1) → (gg m i).1.2.2.1 = nI n → Sw m T → T.length + d + 1 < 4096 → Pt m T (txL (byt b N (q + 1 + j) d) ++ [34]) (FM_showPlain_103 p fu i (nI j) m) := by
  intro d
  induction d with
  | zero =>
    intro j fu m T hj hf hN hS hi h1 h2 hs hl
    obtain ⟨fu, rfl⟩ : ∃ g, fu = g + 1 := ⟨fu - 1, by omega⟩
    have hN2 := Sr_N hS
    have h2' : (m.2.2.1.2.2.2.2.2.1 i).1.2.2.1 = nI n := h2
    rw [FM_showPlain_103, if_pos hi, h2', if_pos ((mI_le (by omega) (by omega)).mpr (by omega))]
    exact Pt_e (Pt_put hs (by omega))
  | succ d ih =>
    intro j fu m T hj hf hN hS hi h1 h2 hs hl
    obtain ⟨fu, rfl⟩ : ∃ g, fu = g + 1 := ⟨fu - 1, by omega⟩
    have hN2 := Sr_N hS
    have h1' : (m.2.2.1.2.2.2.2.2.1 i).1.2.1 = nI (q + 1) := h1
    have h2' : (m.2.2.1.2.2.2.2.2.1 i).1.2.2.1 = nI n := h2
    rw [FM_showPlain_103, if_pos hi, h2', if_neg (fun z => by have := (mI_le (by omega) (by omega)).mp z; omega), h1', l_add, xM_src_n hS (by omega), Option.bind_some]
    have e : bw (b (q + 1 + j)) = bw (xc b N (q + 1 + j)) := by
      unfold xc
      rw [if_pos (by omega)]
      exact (bw_and _).symm
    rw [put_w e]
    show Pt m T (xc b N (q + 1 + j) :: (txL (byt b N (q + 1 + j + 1) d) ++ [34])) _
    refine Pt_c hs (by omega) (fun n2 f h => ?_)
    rw [mI_s]
    exact ih (j + 1) fu (by omega) (by omega) hN hS hi h1 h2 h (by rw [len1]; omega)
theorem err_k : ∀ e, e < 8 → ∀ k, xk_err[e]? = some k → k < xk_N ∧ (xk_by k).length ≤ 20 := by decide +kernel
theorem err_x : ∀ e, e < 8 → (xk_err[e]?).isSome = true := by decide
theorem nam_k : ∀ f, f < 39 → ∀ k, xk_nam[f]? = some k → k < xk_N ∧ (xk_by k).length ≤ 20 := by decide +kernel
theorem ops_k : ∀ o, o < 11 → ∀ k, xk_ops[o]? = some k → k < xk_N ∧ (xk_by k).length ≤ 20 := by decide +kernel
theorem t75 : (75 < xk_N ∧ (xk_by 75).length ≤ 20) ∧ (76 < xk_N ∧ (xk_by 76).length ≤ 20) := by decide +kernel
/-- A LEAF IS SHOWN -/
theorem leaf_show {b : Nat → Int32} {N i : Nat} {p : xTS} {m : xMs} {T : List Int32} {ps : List Pc} (hS : Sr m b N) (hi : i < m.2.2.1.2.2.2.2.1) (h : LF b N ((gg m i).1, (gg m i).2.1) ps) (hs : Sw m T) (hl : T.length + (txL ps).length + 60 < 4096) : Pt m T (txL ps) (FM_showPlain p i m) := by
  unfold FM_showPlain
  rw [if_pos hi]
  rcases h with ⟨k, v, hv, h⟩ | ⟨k, q, n, h1, h2, h3, h4, h5, h6, h7⟩ | ⟨k, h⟩ | ⟨k, e, x, h1, h2, h3, h4⟩ | ⟨k, x, y, h1, h2, h3, h4, h5⟩ | ⟨k, x, y, x2, y2, h1, h2, h3, h4, h5, h6, h7, h8, h9⟩ | ⟨k, w, h1, h2, h3, h4, h5⟩
  · have k : (m.2.2.1.2.2.2.2.2.1 i).1.1 = 0 := k
    rw [if_pos k]
    rcases h with ⟨a1, a2, a3⟩ | ⟨a1, a2, a3⟩
    · have a1 : (m.2.2.1.2.2.2.2.2.1 i).1.2.1 = 0 := a1
      have a2 : (m.2.2.1.2.2.2.2.2.1 i).1.2.2.2 = nL v := a2
      have n1 : ¬ (m.2.2.1.2.2.2.2.2.1 i).1.2.1 = 1 := by rw [a1]; decide
      rw [if_neg n1, if_neg n1, a2, a3]
      exact Pt_e (number_n hv hs (by omega))
    · have a1 : (m.2.2.1.2.2.2.2.2.1 i).1.2.1 = 1 := a1
      have a2 : (m.2.2.1.2.2.2.2.2.1 i).1.2.2.2 = -(nL v) := a2
      rw [if_pos a1, a3, txL_1]
      refine Pt_c hs (by omega) (fun n f h => ?_)
      show Pt (setD m n f) (T ++ [45]) (txL (prN v)) (if i < m.2.2.1.2.2.2.2.1 then (if (m.2.2.1.2.2.2.2.2.1 i).1.2.1 = 1 then ((FM_number (-(m.2.2.1.2.2.2.2.2.1 i).1.2.2.2) (setD m n f)).bind fun r1474 => some r1474) else ((FM_number ((m.2.2.1.2.2.2.2.2.1 i).1.2.2.2) (setD m n f)).bind fun r1471 => some r1471)) else none)
      rw [if_pos hi, if_pos a1, a2, Int64.neg_neg]
      exact Pt_e (number_n hv h (by rw [len1]; omega))
  · have k : (m.2.2.1.2.2.2.2.2.1 i).1.1 = 1 := k
    rw [if_neg (by rw [k]; decide), if_pos k, h7]
    have e : byt b N q (n + 2) = .inl (xc b N q) :: (byt b N (q + 1) n ++ byt b N (q + 1 + n) 1) := by
      rw [← byt_app n 1 (q + 1)]; rfl
    have e2 : byt b N (q + 1 + n) 1 = [.inl 34] := byt1 (by rw [show q + 1 + n = q + n + 1 by omega]; exact h5)
    have hlen : (txL (byt b N q (n + 2))).length = n + 2 := by
      rw [txL_len]
      have : ∀ k p, wdL (byt b N p k) = k := by
        intro k
        induction k with
        | zero => intro p; rfl
        | succ k ih => intro p; show 1 + wdL (byt b N (p + 1) k) = k + 1; rw [ih]; omega
      exact this _ _
    rw [h7, hlen] at hl
    rw [e, e2, txL_1, txL_app, h4]
    refine Pt_c hs (by omega) (fun n2 f h => ?_)
    exact plain103 (q := q) n 0 xFuel (by omega) (by show _ < 5000; have := Sr_N hS; omega) h1 hS hi h2 h3 h (by rw [len1]; omega)
  · have k : (m.2.2.1.2.2.2.2.2.1 i).1.1 = 2 := k
    rw [if_neg (by rw [k]; decide), if_neg (by rw [k]; decide), if_pos k]
    rcases h with ⟨a1, a2⟩ | ⟨a1, a2⟩
    · have a1 : (m.2.2.1.2.2.2.2.2.1 i).1.2.1 = 1 := a1
      rw [if_pos a1, a2, txL_P]
      exact Pt_e (Pt_s t75.1.1 hs (by have := t75.1.2; omega))
    · have a1 : (m.2.2.1.2.2.2.2.2.1 i).1.2.1 = 0 := a1
      rw [if_neg (by rw [a1]; decide), a2, txL_P]
      exact Pt_e (Pt_s t75.2.1 hs (by have := t75.2.2; omega))
  · have k : (m.2.2.1.2.2.2.2.2.1 i).1.1 = 3 := k
    have a : (m.2.2.1.2.2.2.2.2.1 i).1.2.1 = nI (e + 1) := h2
    have a2 : nI (e + 1) - 1 = nI e := by rw [show (1 : Int32) = nI 1 from rfl, mI_sub (by omega), Nat.add_sub_cancel]
    obtain ⟨k1, k2⟩ := err_k e h1 x h3
    rw [if_neg (by rw [k]; decide), if_neg (by rw [k]; decide), if_neg (by rw [k]; decide), if_pos k, a, a2, if_pos ⟨mI_nn (by omega), (mI_lt (by omega) (by decide)).mpr h1⟩, mI_cl (by omega), h3, Option.bind_some, h4, txL_P]
    exact Pt_e (Pt_s k1 hs (by omega))
  · have k : (m.2.2.1.2.2.2.2.2.1 i).1.1 = 4 := k
    have a1 : (m.2.2.1.2.2.2.2.2.1 i).2.1.1 = nI x := h3
    have a2 : (m.2.2.1.2.2.2.2.2.1 i).2.1.2.1 = nI y := h4
    rw [if_neg (by rw [k]; decide), if_neg (by rw [k]; decide), if_neg (by rw [k]; decide), if_neg (by rw [k]; decide), if_pos k, a1, a2, h5]
    show Pt m T (txr _ ++ []) _
    rw [List.append_nil, txr_pk (Nat.le_refl x) h1 (Nat.le_refl y) h2, if_neg (by exact Bool.false_ne_true), List.append_nil]
    exact Pt_e (cellP h1 h2 hs (by omega))
  · have k : (m.2.2.1.2.2.2.2.2.1 i).1.1 = 5 := k
    have a1 : (m.2.2.1.2.2.2.2.2.1 i).2.1.1 = nI x := h5
    have a2 : (m.2.2.1.2.2.2.2.2.1 i).2.1.2.1 = nI y := h6
    have a3 : (m.2.2.1.2.2.2.2.2.1 i).2.1.2.2.2.2.1 = nI x2 := h7
    have a4 : (m.2.2.1.2.2.2.2.2.1 i).2.1.2.2.2.2.2.1 = nI y2 := h8
    rw [if_neg (by rw [k]; decide), if_neg (by rw [k]; decide), if_neg (by rw [k]; decide), if_neg (by rw [k]; decide), if_neg (by rw [k]; decide), if_pos k, a1, a2, h9]
    have e : txL [.inr (pk true x y x2 y2 (gg m i).2.1.2.2.1 (gg m i).2.1.2.2.2.1 (gg m i).2.1.2.2.2.2.2.2.1 (gg m i).2.1.2.2.2.2.2.2.2)] = ctx x y (gg m i).2.1.2.2.1 (gg m i).2.1.2.2.2.1 ++ 58 :: ctx x2 y2 (gg m i).2.1.2.2.2.2.2.2.1 (gg m i).2.1.2.2.2.2.2.2.2 := by
      show txr _ ++ [] = _
      rw [List.append_nil, txr_pk h1 h2 h3 h4, if_pos rfl]
    rw [h9, e, List.length_append, List.length_cons] at hl
    show Pt m T (txL [.inr (pk true x y x2 y2 (gg m i).2.1.2.2.1 (gg m i).2.1.2.2.2.1 (gg m i).2.1.2.2.2.2.2.2.1 (gg m i).2.1.2.2.2.2.2.2.2)]) _
    rw [e]
    refine Pt_b (cellP (by omega) (by omega) hs (by omega)) (fun n f h => ?_)
    refine Pt_c h (by rw [List.length_append]; omega) (fun n2 f2 h' => ?_)
    show Pt _ _ _ (if i < m.2.2.1.2.2.2.2.1 then ((FM_cell_IIZZV ((m.2.2.1.2.2.2.2.2.1 i).2.1.2.2.2.2.1) ((m.2.2.1.2.2.2.2.2.1 i).2.1.2.2.2.2.2.1) ((m.2.2.1.2.2.2.2.2.1 i).2.1.2.2.2.2.2.2.1) ((m.2.2.1.2.2.2.2.2.1 i).2.1.2.2.2.2.2.2.2) (setD (setD m n f) n2 f2)).bind fun r1516 => some r1516) else none)
    rw [if_pos hi, a3, a4]
    exact Pt_e (cellP h2 h4 h' (by rw [len1, List.length_append]; omega))
  · have k : (m.2.2.1.2.2.2.2.2.1 i).1.1 = 6 := k
    have a : (m.2.2.1.2.2.2.2.2.1 i).1.2.2.2 = nL (cdW w) := h4
    rw [if_neg (by rw [k]; decide), if_neg (by rw [k]; decide), if_neg (by rw [k]; decide), if_neg (by rw [k]; decide), if_neg (by rw [k]; decide), if_neg (by rw [k]; decide), if_pos k, a, h5, txL_S]
    exact Pt_e (showWord_n h3 h1 h2 hs (by omega))
