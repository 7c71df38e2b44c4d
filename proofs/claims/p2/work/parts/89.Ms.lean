theorem err_c {b : Nat → Int32} {N q c op : Nat} {m : xMs} (h : PS b N m q c op) (hd : xc b N q = 35) : (∃ m' r rr, FM_constant m = some (.inl (some c, m')) ∧ Ev m m' ∧ m'.2.1.2.1 = nI (q + (erw r).length) ∧ m'.2.1.2.2.2.1 = m.2.1.2.2.2.1 ∧ NS m'.2.2.1 (c + 1) ∧ gg m' c = nA (frs rr 3) (nI (r + 1)) ∧ r < 8 ∧ thing b N q = ([(260, q)], txP (erw r), true, q + (erw r).length) ∧ ∀ x, x ≠ c → gg m' x = gg m x) ∨ (FM_constant m = some (.inl (none, m)) ∧ thing b N q = ([], [], false, q)) := by
  have hN2 := PS_N h
  have hpN := h.2.2.1
  have hcp := h.2.2.2.2.2.2.1
  have hqN := xc_in hd (by decide)
  have nd : sM_digit (xc b N q) = 0 := by rw [hd]; decide
  have n34 : ¬ xc b N q = 34 := by rw [hd]; decide
  have t0 : thing b N q = errT b N q := by unfold thing; rw [if_pos nd, if_neg n34, if_pos hd]
  unfold FM_constant
  rw [FM_peek_n h.1 h.2.1 (by omega), Option.bind_some, if_pos nd, if_neg n34, if_pos hd, errorHere_n h.1 h.2.1 hpN, Option.bind_some]
  cases hE : erN b N q 8 0 with
  | zero =>
    refine Or.inr ⟨?_, by rw [t0]; exact err_z hE⟩
    have wl : wlen b N q = 0 := by
      unfold wlen
      rw [if_pos (by rw [hd]; decide)]
    unfold FM_constant_53
    rw [if_pos (by decide), FM_wl h.1 h.2.1 hpN, Option.bind_some, wl, FM_says_n h.1 h.2.1 hpN (k := 75) (by decide) (by decide), Option.bind_some, show (decide (0 = (xk_by 75).length) && eqL b N q (xk_by 75)) = false from rfl, if_neg (by exact Bool.false_ne_true), FM_says_n h.1 h.2.1 hpN (k := 76) (by decide) (by decide), Option.bind_some, show (decide (0 = (xk_by 76).length) && eqL b N q (xk_by 76)) = false from rfl, if_neg (by exact Bool.false_ne_true)]
  | succ r =>
    obtain ⟨r1, r2⟩ := err_s hE
    have hl := er_len r r1
    have tg := thing_go (b := b) hN2 hqN
    rw [t0, r2] at tg
    have tle : q + (erw r).length ≤ N := tg.2.2.2.1
    have h2 : PS b N (setAt m (nI (q + (erw r).length))) (q + (erw r).length) c op := PS_at h (by omega) tle
    obtain ⟨m1, rr, e1, e2, e3, e4, e5, e6, e7⟩ := nodeS h2 3
    have n0 : ¬ nI (r + 1) ≤ 0 := fun z => absurd ((mI_le (b := 0) (by omega) (by decide)).mp z) (by omega)
    have es : nI (r + 1) - 1 = nI r := by rw [show (1 : Int32) = nI 1 from rfl, mI_sub (by omega)]; rfl
    have g8 : 0 ≤ nI r ∧ nI r < nI 8 := ⟨mI_nn (by omega), (mI_lt (by omega) (by decide)).mpr r1⟩
    have gx : xk_err[(nI r).toNatClampNeg]? = some (17 + r) := by rw [mI_cl (by omega)]; exact hl.2.2.2
    have gN : 17 + r < xk_N := by show 17 + r < 77; omega
    have st : (m.1, (m.2.1.1, (m.2.1.2.1 + (nI (xk_by (17 + r)).length)), m.2.1.2.2), m.2.2) = setAt m (nI (q + (erw r).length)) := by
      show setAt m (m.2.1.2.1 + nI (erw r).length) = _
      rw [h.2.1, l_add]
    refine Or.inl ⟨setG m1 (va_up (gg m1) c (nA (gg m1 c) (nI (r + 1)))), r, rr, ?_, Ev_t (Ev_t (Ev_at _ _) e2) (Ev_G _ _), by show m1.2.1.2.1 = _; rw [e3]; rfl, by show m1.2.1.2.2.2.1 = _; rw [e3]; rfl, e4, ?_, r1, by rw [t0, r2], fun x hx => ?_⟩
    · unfold FM_constant_53
      rw [if_neg n0, es, if_pos g8, gx, Option.bind_some, if_pos gN, st, e1, Option.bind_some]
      show (if c < m1.2.2.1.2.2.2.2.1 then _ else none) = _
      rw [if_pos e5]
      rfl
    · show va_up (gg m1) c _ c = _
      rw [va_up_self, e6]
    · show va_up (gg m1) c _ x = _
      rw [va_up_ne _ _ hx, e7 x hx]; rfl
theorem cell_no {b : Nat → Int32} {N q : Nat} (h1 : ¬ xc b N q = 36) (h2 : ¬ xc b N (q + 1) = 36) (h3 : sM_digit (xc b N (q + 1)) = 0) : ¬ isCell b N q := fun z => by
  have a1 : cl1 b N q = q := by show bm b N q = q; unfold bm; rw [if_neg h1]
  have a2 : cd1 b N q = q + 1 := by show bm b N (cl1 b N q + 1) = _; rw [a1]; unfold bm; rw [if_neg h2]
  have a3 : ce1 b N q = q + 1 := by
    show dst b N 2 (cd1 b N q) = _
    rw [a2]
    have : dst b N 2 (q + 1) = if sM_digit (xc b N (q + 1)) = 0 then q + 1 else dst b N 1 (q + 1 + 1) := rfl
    rw [this, if_pos h3]
  have a4 : cv1 b N q = 0 := by
    show vn b N (ce1 b N q - cd1 b N q) (cd1 b N q) 0 = 0
    rw [a3, a2, Nat.sub_self]; rfl
  have := z.2.2.1
  omega
def isTru (b : Nat → Int32) (N q : Nat) (t : Nat) : Prop := wlen b N q = (xk_by t).length ∧ eqL b N q (xk_by t) = true
theorem hof_tr {b : Nat → Int32} {N q n : Nat} : hof b N q n (xk_by 16) [] = true ↔ (n = (xk_by 75).length ∧ eqL b N q (xk_by 75) = true) ∨ (n = (xk_by 76).length ∧ eqL b N q (xk_by 76) = true) := by
  rw [show xk_by 16 = jn [xk_by 75, xk_by 76] from rfl, hof_jn [xk_by 75, xk_by 76] (by decide) (by decide), List.any_eq_true]
  constructor
  · rintro ⟨w, hw, h⟩
    have h2 := (Bool.and_eq_true _ _).mp h
    rcases List.mem_cons.mp hw with rfl | hw
    · exact Or.inl ⟨(of_decide_eq_true h2.1).symm, h2.2⟩
    · rw [List.mem_singleton.mp hw] at h2
      exact Or.inr ⟨(of_decide_eq_true h2.1).symm, h2.2⟩
  · rintro (⟨h1, h2⟩ | ⟨h1, h2⟩)
    · exact ⟨_, List.mem_cons_self, by rw [decide_eq_true h1.symm, h2]; rfl⟩
    · exact ⟨_, List.mem_cons_of_mem _ List.mem_cons_self, by rw [decide_eq_true h1.symm, h2]; rfl⟩
theorem tru_th {b : Nat → Int32} {N q t : Nat} (ht : t = 75 ∨ t = 76) (h : isTru b N q t) : thing b N q = ([(261, q)], txP (xk_by t), true, q + (xk_by t).length) ∧ sM_digit (xc b N q) = 0 ∧ ¬ xc b N q = 34 ∧ ¬ xc b N q = 35 ∧ q < N := by
  have l4 : (xk_by t).length = 4 ∨ (xk_by t).length = 5 := by rcases ht with rfl | rfl <;> decide
  have c0 : xc b N q = (xk_by t)[0]'(by omega) := eqL_get _ _ 0 h.2 (by omega)
  have c1 := eqL_get _ _ 1 h.2 (by omega)
  have f0 : ∀ u, u = 75 ∨ u = 76 → ∀ hh : 0 < (xk_by u).length, ∀ hh1 : 1 < (xk_by u).length, sM_digit (xk_by u)[0] = 0 ∧ ¬ (xk_by u)[0] = 34 ∧ ¬ (xk_by u)[0] = 35 ∧ ¬ (xk_by u)[0] = 36 ∧ ¬ sM_letter (xk_by u)[0] = 0 ∧ ¬ (xk_by u)[1] = 36 ∧ sM_digit (xk_by u)[1] = 0 ∧ ¬ (xk_by u)[0] = -1 := by
    intro u hu
    rcases hu with rfl | rfl <;> decide
  obtain ⟨g1, g2, g3, g4, g5, g6, g7, g8⟩ := f0 t ht (by omega) (by omega)
  rw [← c0] at g1 g2 g3 g4 g5 g8
  rw [← c1] at g6 g7
  have nc := cell_no (b := b) (N := N) (q := q) g4 g6 g7
  have w1 : wlen b N q = nst b N q - q := by unfold wlen; rw [if_neg g5]
  have w2 := h.1
  rw [w1] at w2
  have ge := nst_ge (b := b) (N := N) q
  refine ⟨?_, g1, g2, g3, xc_in rfl g8⟩
  unfold thing
  rw [if_pos g1, if_neg g2, if_neg g3, if_neg nc, if_neg g5]
  unfold namT nmk
  rw [if_pos (by omega), w2, if_pos (hof_tr.mpr (by rcases ht with rfl | rfl; (exact Or.inl ⟨rfl, h.2⟩); (exact Or.inr ⟨rfl, h.2⟩))), eqL_byt _ _ h.2, show nst b N q = q + (xk_by t).length by omega]
theorem c53 {b : Nat → Int32} {N q c op : Nat} {m : xMs} (h : PS b N m q c op) : (∃ m' t rr, (t = 75 ∨ t = 76) ∧ isTru b N q t ∧ FM_constant_53 0 m = some (.inl (some c, m')) ∧ Ev m m' ∧ m'.2.1.2.1 = nI (q + (xk_by t).length) ∧ m'.2.1.2.2.2.1 = m.2.1.2.2.2.1 ∧ NS m'.2.2.1 (c + 1) ∧ gg m' c = nA (frs rr 2) (if t = 75 then 1 else 0) ∧ ∀ x, x ≠ c → gg m' x = gg m x) ∨ (FM_constant_53 0 m = some (.inl (none, m)) ∧ ¬ isTru b N q 75 ∧ ¬ isTru b N q 76) := by
  have hN2 := PS_N h
  have hpN := h.2.2.1
  have wle : wlen b N q < 3000 := by
    unfold wlen
    have := nst_le (b := b) (N := N) q hpN
    by_cases z : sM_letter (xc b N q) = 0
    · rw [if_pos z]; omega
    · rw [if_neg z]; omega
  obtain ⟨m1, rr, e1, e2, e3, e4, e5, e6, e7⟩ := nodeS h 2
  have sa : ∀ k : Nat, (m1.1, (m1.2.1.1, (m1.2.1.2.1 + nI k), m1.2.1.2.2), (m1.2.2.1.1, m1.2.2.1.2.1, m1.2.2.1.2.2.1, m1.2.2.1.2.2.2.1, m1.2.2.1.2.2.2.2.1, (va_up m1.2.2.1.2.2.2.2.2.1 c (nA (m1.2.2.1.2.2.2.2.2.1 c) (if k = 4 then 1 else 0))), m1.2.2.1.2.2.2.2.2.2), m1.2.2.2) = setG (setAt m1 (nI (q + k))) (va_up (gg m1) c (nA (gg m1 c) (if k = 4 then 1 else 0))) := fun k => by
    show setG (setAt m1 (m1.2.1.2.1 + nI k)) _ = _
    rw [e3, h.2.1, l_add]
  unfold FM_constant_53
  rw [if_pos (by decide), FM_wl h.1 h.2.1 hpN, Option.bind_some, FM_says_n h.1 h.2.1 hpN (k := 75) (by decide) wle, Option.bind_some]
  by_cases z : isTru b N q 75
  · refine Or.inl ⟨setG (setAt m1 (nI (q + 4))) (va_up (gg m1) c (nA (gg m1 c) (if 4 = 4 then 1 else 0))), 75, rr, Or.inl rfl, z, ?_, Ev_t (Ev_t e2 (Ev_at _ _)) (Ev_G _ _), rfl, by show m1.2.1.2.2.2.1 = _; rw [e3], e4, ?_, fun x hx => ?_⟩
    · rw [decide_eq_true z.1, z.2, Bool.and_self, if_pos rfl, e1, Option.bind_some, z.1, show (xk_by 75).length = 4 from rfl, if_pos (by decide)]
      show (if c < m1.2.2.1.2.2.2.2.1 then _ else none) = _
      rw [if_pos e5]
      exact congrArg (fun w => some (Sum.inl (some c, w))) (sa 4)
    · show va_up (gg m1) c _ c = _
      rw [va_up_self, e6]; rfl
    · show va_up (gg m1) c _ x = _
      rw [va_up_ne _ _ hx, e7 x hx]
  · have nz : (decide (wlen b N q = (xk_by 75).length) && eqL b N q (xk_by 75)) = false := Bool.eq_false_iff.mpr fun y => by
      have y2 := (Bool.and_eq_true _ _).mp y
      exact z ⟨of_decide_eq_true y2.1, y2.2⟩
    rw [nz, if_neg (by exact Bool.false_ne_true), FM_says_n h.1 h.2.1 hpN (k := 76) (by decide) wle, Option.bind_some]
    by_cases z2 : isTru b N q 76
    · refine Or.inl ⟨setG (setAt m1 (nI (q + 5))) (va_up (gg m1) c (nA (gg m1 c) (if 5 = 4 then 1 else 0))), 76, rr, Or.inr rfl, z2, ?_, Ev_t (Ev_t e2 (Ev_at _ _)) (Ev_G _ _), rfl, by show m1.2.1.2.2.2.1 = _; rw [e3], e4, ?_, fun x hx => ?_⟩
      · rw [decide_eq_true z2.1, z2.2, Bool.and_self, if_pos rfl, e1, Option.bind_some, z2.1, show (xk_by 76).length = 5 from rfl, if_neg (by decide)]
        show (if c < m1.2.2.1.2.2.2.2.1 then _ else none) = _
        rw [if_pos e5]
        exact congrArg (fun w => some (Sum.inl (some c, w))) (sa 5)
      · show va_up (gg m1) c _ c = _
        rw [va_up_self, e6]; rfl
      · show va_up (gg m1) c _ x = _
        rw [va_up_ne _ _ hx, e7 x hx]
    · have nz2 : (decide (wlen b N q = (xk_by 76).length) && eqL b N q (xk_by 76)) = false := Bool.eq_false_iff.mpr fun y => by
        have y2 := (Bool.and_eq_true _ _).mp y
        exact z2 ⟨of_decide_eq_true y2.1, y2.2⟩
      rw [nz2, if_neg (by exact Bool.false_ne_true)]
      exact Or.inr ⟨rfl, z, z2⟩
def isC (k : Int32) : Prop := k = 258 ∨ k = 259 ∨ k = 260 ∨ k = 261
def leafK (k : Int32) : Prop := k = 0 ∨ k = 1 ∨ k = 2 ∨ k = 3
theorem nC256 : ¬ isC 256 := by unfold isC; decide
theorem nC257 : ¬ isC 257 := by unfold isC; decide
theorem nC262 : ¬ isC 262 := by unfold isC; decide
/-- CONSTANT -/
theorem const_n {b : Nat → Int32} {N q c op : Nat} {m : xMs} (hps : PS b N m q c op) (hq : skb b N q = q) : (∃ m', isC (hk (lex b N q).1) ∧ FM_constant m = some (.inl (some c, m')) ∧ Ok b N leafK 1 m q c op (lex b N q).1.tail c m') ∨ (∃ m', hk (lex b N q).1 = 257 ∧ FM_constant m = some (.inr (uoe, m')) ∧ Ex m m' q) ∨ (¬ isC (hk (lex b N q).1) ∧ FM_constant m = some (.inl (none, m)) ∧ sM_digit (xc b N q) = 0 ∧ ¬ xc b N q = 34) := by
  have hN2 := PS_N hps
  have hqN := hps.2.2.1
  by_cases d : sM_digit (xc b N q) = 0
  · by_cases d34 : xc b N q = 34
    · have hlt := xc_in d34 (by decide)
      rcases txt_c hps d34 with ⟨m', r, n, w1, w2, w3, w4, w5, w6, w7, w8, w9⟩ | ⟨m', w1, w2, w3⟩
      · obtain ⟨y1, y2⟩ := leaf_Ok (Q := leafK) (E := 1) hps hq hlt w8 w2 w3 w4 w5 (Nat.le_refl _) (by rw [w6]; rfl) (by rw [w6]; exact w7) (by rw [w6]; exact Or.inr (Or.inl rfl)) w9
        refine Or.inl ⟨m', ?_, w1, y2⟩
        rw [y1]; exact Or.inr (Or.inl rfl)
      · exact Or.inr (Or.inl ⟨m', by rw [lex_br hN2 hqN hq hlt w3]; rfl, w1, w2⟩)
    · by_cases d35 : xc b N q = 35
      · have hlt := xc_in d35 (by decide)
        rcases err_c hps d35 with ⟨m', r, rr, w1, w2, w3, w4, w5, w6, w7, w8, w9⟩ | ⟨w1, w2⟩
        · obtain ⟨y1, y2⟩ := leaf_Ok (Q := leafK) (E := 1) hps hq hlt w8 w2 w3 w4 w5 (Nat.le_refl _) (by rw [w6]; rfl) (by rw [w6]; exact Or.inr (Or.inr (Or.inr (Or.inl ⟨rfl, r, 17 + r, w7, rfl, (er_len r w7).2.2.2, rfl⟩)))) (by rw [w6]; exact Or.inr (Or.inr (Or.inr rfl))) w9
          refine Or.inl ⟨m', ?_, w1, y2⟩
          rw [y1]; exact Or.inr (Or.inr (Or.inl rfl))
        · refine Or.inr (Or.inr ⟨?_, w1, d, d34⟩)
          rw [lex_br hN2 hqN hq hlt w2]
          show ¬ isC 257
          exact nC257
      · have e53 : FM_constant m = FM_constant_53 0 m := by
          unfold FM_constant
          rw [FM_peek_n hps.1 hps.2.1 (by omega), Option.bind_some, if_pos d, if_neg d34, if_neg d35]
        rw [e53]
        rcases c53 hps with ⟨m', t, rr, w0, w1, w2, w3, w4, w5, w6, w7, w8⟩ | ⟨w1, w2, w3⟩
        · obtain ⟨t1, t2, t3, t4, t5⟩ := tru_th w0 w1
          obtain ⟨y1, y2⟩ := leaf_Ok (Q := leafK) (E := 1) hps hq t5 t1 w3 w4 w5 w6 (Nat.le_refl _) (by rw [w7]; rfl) (by
            rw [w7]
            refine Or.inr (Or.inr (Or.inl ⟨rfl, ?_⟩))
            rcases w0 with rfl | rfl
            · exact Or.inl ⟨rfl, rfl⟩
            · exact Or.inr ⟨rfl, rfl⟩) (by rw [w7]; exact Or.inr (Or.inr (Or.inl rfl))) w8
          refine Or.inl ⟨m', ?_, w2, y2⟩
          rw [y1]; exact Or.inr (Or.inr (Or.inr rfl))
        · refine Or.inr (Or.inr ⟨fun z => ?_, w1, d, d34⟩)
          rw [hk_lex hN2 hqN, hq] at z
          by_cases lt : q < N
          · rw [if_pos lt] at z
            revert z
            unfold thing
            rw [if_pos d, if_neg d34, if_neg d35]
            by_cases h4 : isCell b N q
            · rw [if_pos h4]
              unfold refT
              by_cases y : xc b N (rfe b N q) = 58
              · rw [if_pos y]
                by_cases y2 : isCell b N (rfs b N q)
                · rw [if_pos y2]; exact nC262
                · rw [if_neg y2]; exact nC262
              · rw [if_neg y]; exact nC262
            · rw [if_neg h4]
              by_cases h5 : sM_letter (xc b N q) = 0
              · rw [if_pos h5]
                unfold mrkT
                by_cases y : 0 ≤ xk_ix 14 (xg_c (xc b N q))
                · rw [if_pos y]
                  show isC (xc b N q) → False
                  obtain ⟨n, n1, n2⟩ := xc_n (b := b) lt
                  rw [n2]
                  intro z
                  rcases z with z | z | z | z
                  · have := mI_inj (b := 258) (by omega) (by decide) z; omega
                  · have := mI_inj (b := 259) (by omega) (by decide) z; omega
                  · have := mI_inj (b := 260) (by omega) (by decide) z; omega
                  · have := mI_inj (b := 261) (by omega) (by decide) z; omega
                · rw [if_neg y]; exact nC257
              · rw [if_neg h5]
                unfold namT
                have wl : wlen b N q = nst b N q - q := by unfold wlen; rw [if_neg h5]
                by_cases y : nst b N q - q ≤ 12
                · rw [if_pos y]
                  show isC (nmk b N q (nst b N q - q)) → False
                  unfold nmk
                  have nh : ¬ hof b N q (nst b N q - q) (xk_by 16) [] = true := fun u => by
                    rcases hof_tr.mp u with u | u
                    · exact w2 ⟨by rw [wl]; exact u.1, u.2⟩
                    · exact w3 ⟨by rw [wl]; exact u.1, u.2⟩
                  rw [if_neg nh]
                  have al := arf_lt (b := b) (N := N) (q := q) (n := nst b N q - q) 10 0 rfl
                  have al : ari b N q (nst b N q - q) < 10 := al
                  intro z
                  rcases z with z | z | z | z
                  · have := mI_inj (b := 258) (by omega) (by decide) z; omega
                  · have := mI_inj (b := 259) (by omega) (by decide) z; omega
                  · have := mI_inj (b := 260) (by omega) (by decide) z; omega
                  · have := mI_inj (b := 261) (by omega) (by decide) z; omega
                · rw [if_neg y]; exact nC257
          · rw [if_neg lt] at z
            exact nC256 z
  · have hlt := dg_in d
    rcases num_c hps d with ⟨m', r, v, w1, w2, w3, w4, w5, w6, w7, w8, w9, w10⟩ | ⟨m', w1, w2, w3⟩
    · obtain ⟨y1, y2⟩ := leaf_Ok (Q := leafK) (E := 1) hps hq hlt w8 w2 w3 w4 w5 (Nat.le_refl _) (by rw [w6]; rfl) (by rw [w6]; exact Or.inl ⟨rfl, v, w7, Or.inl ⟨rfl, rfl, rfl⟩⟩) (by rw [w6]; exact Or.inl rfl) w10
      refine Or.inl ⟨m', ?_, w1, y2⟩
      rw [y1]; exact Or.inl rfl
    · exact Or.inr (Or.inl ⟨m', by rw [lex_br hN2 hqN hq hlt w3]; rfl, w1, w2⟩)
