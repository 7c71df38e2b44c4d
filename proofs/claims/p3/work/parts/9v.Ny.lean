/-- what may stand behind a thing that is no mark -/
def folN (f : Int32) : Prop := sP_isBarredBehindCell f = 0 ∧ ¬ f = 36 ∧ ¬ f = 46 ∧ ¬ f = 34 ∧ ¬ f = 58 ∧ ¬ f = 32 ∧ sM_digit f = 0
theorem mkt : ∀ n, n < 256 → 0 ≤ xk_ix 14 (xg_c (nI n)) → sP_isBarredBehindCell (nI n) = 0 ∧ ¬ nI n = 36 ∧ ¬ nI n = 46 ∧ ¬ nI n = 34 ∧ ¬ nI n = 58 ∧ ¬ nI n = 32 ∧ sM_digit (nI n) = 0 := by decide +kernel
theorem fol_m1 : folN (-1) := by unfold folN; decide
theorem mk_fol {b : Nat → Int32} {N q : Nat} {k : Int32} (h : isMk k) (hx : xc b N q = k) (hq : q < N) : folN k := by
  obtain ⟨n, n1, n2⟩ := xc_n (b := b) hq
  have e : k = nI n := hx.symm.trans n2
  have := mkt n n1 (by rw [← e]; exact h.2.2.2.2.2.1)
  rw [← e] at this
  exact this
theorem MvP_split : ∀ {a c L : List Pc}, MvP (a ++ c) L → ∃ a' c', L = a' ++ c' ∧ MvP a a' ∧ MvP c c'
  | [], c, L, h => ⟨[], L, rfl, rfl, h⟩
  | .inl x :: a, c, L, h => by
    obtain ⟨s, rfl, h⟩ := h
    obtain ⟨a', c', rfl, h1, h2⟩ := MvP_split h
    exact ⟨.inl x :: a', c', rfl, ⟨a', rfl, h1⟩, h2⟩
  | .inr x :: a, c, L, h => by
    obtain ⟨s, h0, h⟩ := h
    obtain ⟨a', c', rfl, h1, h2⟩ := MvP_split h
    rcases h0 with rfl | ⟨y, hy, rfl⟩
    · exact ⟨txP (xk_by 19) ++ a', c', (List.append_assoc _ _ _).symm, ⟨a', Or.inl rfl, h1⟩, h2⟩
    · exact ⟨.inr y :: a', c', rfl, ⟨a', Or.inr ⟨y, hy, rfl⟩, h1⟩, h2⟩
theorem MvP_i : ∀ {a L : List Pc}, (∀ x ∈ a, ∃ c : Int32, x = .inl c) → MvP a L → L = a
  | [], L, _, h => h
  | x :: a, L, hx, h => by
    obtain ⟨c, rfl⟩ := hx x List.mem_cons_self
    obtain ⟨s, rfl, h⟩ := h
    rw [MvP_i (fun y hy => hx y (List.mem_cons_of_mem _ hy)) h]
theorem byt_i {b : Nat → Int32} {N : Nat} : ∀ (k p : Nat), ∀ x ∈ byt b N p k, ∃ c : Int32, x = .inl c
  | 0, p, x, hx => by cases hx
  | k + 1, p, x, hx => by
    rcases List.mem_cons.mp hx with rfl | hx
    · exact ⟨_, rfl⟩
    · exact byt_i k (p + 1) x hx
theorem txP_i (l : List Int32) : ∀ x ∈ txP l, ∃ c : Int32, x = .inl c := fun x hx => by
  obtain ⟨c, -, rfl⟩ := List.mem_map.mp hx
  exact ⟨c, rfl⟩
theorem prN_i (v : Nat) : ∀ x ∈ prN v, ∃ c : Int32, x = .inl c := fun y hy => by
  unfold prN at hy
  rcases List.mem_append.mp hy with h | h
  · obtain ⟨d, -, rfl⟩ := List.mem_map.mp h; exact ⟨_, rfl⟩
  · by_cases w : v % 10000 = 0
    · rw [if_pos w] at h; cases h
    · rw [if_neg w] at h
      rcases List.mem_cons.mp h with rfl | h
      · exact ⟨_, rfl⟩
      · obtain ⟨d, -, rfl⟩ := List.mem_map.mp h; exact ⟨_, rfl⟩
/-- a reference as it is read is in order and on the sheet -/
theorem ref_v {b : Nat → Int32} {N q : Nat} (hc : isCell b N q) {x : Int64} (h : (refT b N q).2.1 = [.inr x]) : vR x := by
  obtain ⟨x1, y1, a1, a2, a3, a4, a5, a6⟩ := cell_v hc
  unfold refT at h
  by_cases z : xc b N (rfe b N q) = 58
  · rw [if_pos z] at h
    by_cases w : isCell b N (rfs b N q)
    · rw [if_pos w] at h
      obtain ⟨x2, y2, c1, c2, c3, c4, c5, c6⟩ := cell_v w
      have h := (Sum.inr.inj (List.cons.inj h).1)
      obtain ⟨lo, hi, l1, l2, l3, l4, l5⟩ := axis (s := decide (xc b N (cl1 b N q + 1) = 36)) (t := decide (xc b N (cl1 b N (rfs b N q) + 1) = 36)) a1 c1 (Nat.le_refl _)
      obtain ⟨lo', hi', k1, k2, k3, k4, k5⟩ := axis (s := decide (xc b N q = 36)) (t := decide (xc b N (rfs b N q) = 36)) a2 c2 (by decide)
      rw [a5, a6, c5, c6, l5, k5] at h
      exact ⟨true, lo, lo', hi, hi', _, _, _, _, l1, l2, k1, k2, fun z => absurd z (by decide), h.symm⟩
    · rw [if_neg w] at h; cases h
  · rw [if_neg z] at h
    have h := (Sum.inr.inj (List.cons.inj h).1)
    rw [a5, a6] at h
    exact ⟨false, x1, y1, x1, y1, _, _, _, _, Nat.le_refl _, a1, Nat.le_refl _, a2, fun _ => ⟨rfl, rfl, rfl, rfl⟩, h.symm⟩
/-- which things there are -/
def Tcs (b : Nat → Int32) (N q : Nat) (k : Int32) (ps : List Pc) (e : Nat) : Prop := (k = 258 ∧ ∃ v, v ≤ 900000000000000 ∧ ps = prN v) ∨ (k = 259 ∧ xc b N q = 34 ∧ tqs b N (q + 1) = some e ∧ ps = byt b N q (e - q)) ∨ (k = 260 ∧ ∃ r, r < 8 ∧ ps = txP (erw r)) ∨ (k = 262 ∧ ∃ x, vR x ∧ ps = [.inr x]) ∨ (¬ sM_letter (xc b N q) = 0 ∧ ¬ isCell b N q ∧ ∃ n, nst b N q = q + n ∧ 1 ≤ n ∧ n ≤ 12 ∧ k = nmk b N q n ∧ ps = byt b N q n ∧ e = q + n) ∨ (isMk k ∧ xc b N q = k ∧ ps = byt b N q (mkl b N q) ∧ e = q + mkl b N q)
theorem thing_c {b : Nat → Int32} {N q e : Nat} {k : Int32} {ps : List Pc} (hq : q < N) (ht : thing b N q = ([(k, q)], ps, true, e)) : Tcs b N q k ps e := by
  have inj : ∀ {k' : Int32} {ps' : List Pc} {e' : Nat}, (([(k', q)], ps', true, e') : Tg) = ([(k, q)], ps, true, e) → k = k' ∧ ps = ps' ∧ e = e' := fun h => by
    have h1 := congrArg (fun r : Tg => r.1) h
    have h2 := congrArg (fun r : Tg => r.2.1) h
    have h3 := congrArg (fun r : Tg => r.2.2.2) h
    exact ⟨(congrArg Prod.fst (List.cons.inj h1).1).symm, h2.symm, h3.symm⟩
  have nof : ∀ {l : List Tk} {P : List Pc} {x : Nat} {A : Prop}, ((l, P, false, x) : Tg) = ([(k, q)], ps, true, e) → A := fun h => absurd (congrArg (fun r : Tg => r.2.2.1) h) (by exact Bool.false_ne_true)
  have ht0 := ht
  unfold thing at ht
  by_cases d : sM_digit (xc b N q) = 0
  · rw [if_pos d] at ht
    by_cases d34 : xc b N q = 34
    · rw [if_pos d34] at ht
      unfold txtT at ht
      cases hz : tqs b N (q + 1) with
      | none => rw [hz] at ht; exact nof ht
      | some z =>
        rw [hz] at ht
        obtain ⟨rfl, rfl, rfl⟩ := inj ht
        exact Or.inr (Or.inl ⟨rfl, d34, hz, rfl⟩)
    · rw [if_neg d34] at ht
      by_cases d35 : xc b N q = 35
      · rw [if_pos d35] at ht
        cases en : erN b N q 8 0 with
        | zero => rw [err_z en] at ht; exact nof ht
        | succ r =>
          obtain ⟨r1, r2⟩ := err_s en
          rw [r2] at ht
          obtain ⟨rfl, rfl, rfl⟩ := inj ht
          exact Or.inr (Or.inr (Or.inl ⟨rfl, r, r1, rfl⟩))
      · rw [if_neg d35] at ht
        by_cases hc : isCell b N q
        · rw [if_pos hc] at ht
          have rv : ∀ x : Int64, ps = [.inr x] → vR x := fun x h => ref_v hc (by rw [ht]; exact h)
          refine Or.inr (Or.inr (Or.inr (Or.inl ?_)))
          unfold refT at ht
          by_cases z : xc b N (rfe b N q) = 58
          · rw [if_pos z] at ht
            by_cases w : isCell b N (rfs b N q)
            · rw [if_pos w] at ht
              obtain ⟨rfl, rfl, rfl⟩ := inj ht
              exact ⟨rfl, _, rv _ rfl, rfl⟩
            · rw [if_neg w] at ht; exact nof ht
          · rw [if_neg z] at ht
            obtain ⟨rfl, rfl, rfl⟩ := inj ht
            exact ⟨rfl, _, rv _ rfl, rfl⟩
        · rw [if_neg hc] at ht
          by_cases l : sM_letter (xc b N q) = 0
          · rw [if_pos l] at ht
            unfold mrkT at ht
            by_cases y : 0 ≤ xk_ix 14 (xg_c (xc b N q))
            · rw [if_pos y] at ht
              obtain ⟨rfl, rfl, rfl⟩ := inj ht
              obtain ⟨n, n1, n2⟩ := xc_n (b := b) hq
              have m := mkt n n1 (by rw [← n2]; exact y)
              rw [← n2] at m
              refine Or.inr (Or.inr (Or.inr (Or.inr (Or.inr ⟨⟨d, d34, d35, m.2.1, l, y, ?_, ?_, m.2.2.2.2.2.1⟩, rfl, rfl, rfl⟩))))
              · rw [n2]; exact fun z => by have := (mI_le (a := 256) (by decide) (by omega)).mp z; omega
              · exact fun z => by have := xc_m1.mp z; omega
            · rw [if_neg y] at ht; exact nof ht
          · rw [if_neg l] at ht
            unfold namT at ht
            by_cases y : nst b N q - q ≤ 12
            · rw [if_pos y] at ht
              have ge := nst_ge (b := b) (N := N) (q + 1)
              have ny := nst_y (lt_not l).2.2.2.2
              obtain ⟨rfl, rfl, rfl⟩ := inj ht
              exact Or.inr (Or.inr (Or.inr (Or.inr (Or.inl ⟨l, hc, nst b N q - q, by omega, by omega, y, rfl, rfl, by omega⟩))))
            · rw [if_neg y] at ht; exact nof ht
  · rw [if_neg d] at ht
    obtain ⟨n1, n2, n3⟩ := num_pr (b := b) (N := N) d
    unfold numT at ht
    by_cases z : 90000000000 < nvl b N q ∨ (nvl b N q = 90000000000 ∧ nws b N q < nto b N q)
    · rw [if_pos z] at ht; exact nof ht
    · rw [if_neg z] at ht
      obtain ⟨rfl, rfl, rfl⟩ := inj ht
      exact Or.inl ⟨rfl, nV b N q, Nat.le_of_not_lt (fun w => z (n2.mp w)), n1.symm⟩
theorem nmk_k {b : Nat → Int32} {N q n : Nat} : ¬ nmk b N q n < 258 := by
  unfold nmk
  by_cases w : hof b N q n (xk_by 16) [] = true
  · rw [if_pos w]; decide
  · rw [if_neg w]
    have al := ari_lt (b := b) (N := N) (q := q) (n := n)
    exact fun z => by have := (mI_lt (b := 258) (by omega) (by decide)).mp z; omega
theorem lt_no {c : Int32} (h : ¬ sM_letter c = 0) : ¬ c = 32 ∧ ¬ c = 61 ∧ ¬ c = 62 := by
  refine ⟨fun z => ?_, fun z => ?_, fun z => ?_⟩ <;> (rw [z] at h; exact h (by decide))
theorem erw_c : ∀ r, r < 8 → ∃ l, erw r = 35 :: l := fun r hr => by
  have h := er_h r hr
  cases e : erw r with
  | nil => rw [e] at h; cases h
  | cons c l =>
    rw [e] at h
    have : c = 35 := Option.some.inj h
    exact ⟨l, by rw [this]⟩
theorem mkl_p {b : Nat → Int32} {N q : Nat} : 1 ≤ mkl b N q := by
  unfold mkl
  by_cases z : (xc b N q = 60 ∧ (xc b N (q + 1) = 61 ∨ xc b N (q + 1) = 62)) ∨ (xc b N q = 62 ∧ xc b N (q + 1) = 61)
  · rw [if_pos z]; decide
  · rw [if_neg z]; decide
theorem txr_h {y : Int64} (hv : vR y) : ∃ c r, txr y = c :: r ∧ ¬ c = 32 ∧ ¬ c = 61 ∧ ¬ c = 62 := by
  obtain ⟨p, r, c, r2, c2, rs, cs, rs2, cs2, h1, h2, h3, h4, h5, rfl⟩ := hv
  rw [txr_pk h1 h2 h3 h4]
  unfold ctx
  cases cs with
  | true => rw [if_pos rfl]; exact ⟨36, _, rfl, by decide, by decide, by decide⟩
  | false =>
    rw [if_neg (by exact Bool.false_ne_true)]
    obtain ⟨-, -, -, -, -, -, u7, u8, u9⟩ := lett c (by omega)
    exact ⟨_, _, rfl, u7, u8, u9⟩
/-- the first byte of what a thing shows -/
theorem fby {b : Nat → Int32} {N q e : Nat} {k : Int32} {ps ps' : List Pc} (h : Tcs b N q k ps e) (hm : MvP ps ps') : ∃ c0 r, txL ps' = c0 :: r ∧ ¬ c0 = 32 ∧ (k < 257 → c0 = k ∧ isMk k ∧ xc b N q = k) ∧ (¬ k = 61 → ¬ k = 62 → ¬ c0 = 61 ∧ ¬ c0 = 62) := by
  rcases h with ⟨rfl, v, hv, rfl⟩ | ⟨rfl, h1, h2, rfl⟩ | ⟨rfl, r, hr, rfl⟩ | ⟨rfl, x, hx, rfl⟩ | ⟨h1, h2, n, h3, h4, h5, rfl, rfl, h6⟩ | ⟨h1, h2, rfl, h4⟩
  · rw [MvP_i (prN_i v) hm]
    unfold prN
    rw [txL_app, txL_D]
    obtain ⟨l1, l2⟩ := dig_len 10 20 (v / 10000) (by decide) (by omega)
    have dl := dig_lt 20 (v / 10000) (by omega)
    cases e : dig 20 (v / 10000) with
    | nil => rw [e] at l1; exact absurd l1 (by decide)
    | cons d r =>
      rw [e] at dl
      obtain ⟨-, -, -, -, -, t6, t7, t8⟩ := dgt d (dl d List.mem_cons_self)
      exact ⟨chd d, _, rfl, t8, fun z => absurd z (by decide), fun _ _ => ⟨t6, t7⟩⟩
  · rw [MvP_i (byt_i _ _) hm]
    have lt := tqs_le _ (q + 1) e h2
    obtain ⟨j, hj⟩ : ∃ j, e - q = j + 1 := ⟨e - q - 1, by omega⟩
    rw [hj]
    refine ⟨xc b N q, _, rfl, ?_, fun z => absurd z (by decide), fun _ _ => ?_⟩
    · rw [h1]; decide
    · rw [h1]; decide
  · rw [MvP_i (txP_i _) hm, txL_P]
    obtain ⟨l, hl⟩ := erw_c r hr
    exact ⟨35, l, hl, by decide, fun z => absurd z (by decide), fun _ _ => by decide⟩
  · obtain ⟨s, h0, hs⟩ := hm
    have hs : s = [] := hs
    subst hs
    rcases h0 with rfl | ⟨y, hy, rfl⟩
    · rw [List.append_nil, txL_P]
      obtain ⟨l, hl⟩ := erw_c 2 (by decide)
      exact ⟨35, l, hl, by decide, fun z => absurd z (by decide), fun _ _ => by decide⟩
    · obtain ⟨c, r, e1, e2, e3, e4⟩ := txr_h hy.1
      refine ⟨c, r, ?_, e2, fun z => absurd z (by decide), fun _ _ => ⟨e3, e4⟩⟩
      show txr y ++ [] = _
      rw [List.append_nil, e1]
  · rw [MvP_i (byt_i _ _) hm]
    obtain ⟨j, rfl⟩ : ∃ j, n = j + 1 := ⟨n - 1, by omega⟩
    obtain ⟨l1, l2, l3⟩ := lt_no h1
    refine ⟨xc b N q, _, rfl, l1, fun z => absurd (Int32.lt_trans z (by decide : (257 : Int32) < 258)) nmk_k, fun _ _ => ⟨l2, l3⟩⟩
  · rw [MvP_i (byt_i _ _) hm]
    obtain ⟨j, hj⟩ : ∃ j, mkl b N q = j + 1 := ⟨mkl b N q - 1, by have := mkl_p (b := b) (N := N) (q := q); omega⟩
    rw [hj]
    exact ⟨xc b N q, _, rfl, by rw [h2]; exact h1.2.2.2.2.2.2.2.2, fun _ => ⟨h2, h1, h2⟩, fun z1 z2 => by rw [h2]; exact ⟨z1, z2⟩⟩
/-- a thing is read again -/
theorem thing_re {b b' : Nat → Int32} {N N' q q' e : Nat} {k : Int32} {ps ps' : List Pc} (h : Tcs b N q k ps e) (hm : MvP ps ps') (ht : eqL b' N' q' (txL ps') = true) (ho : ¬ k < 258 → sP_isBarredBehindCell (xc b N e) = 0) (hf : ¬ k < 258 → folN (xc b' N' (q' + (txL ps').length))) (hg : k = 60 ∨ k = 62 → ¬ xc b' N' (q' + (txL ps').length) = 61 ∧ ¬ xc b' N' (q' + (txL ps').length) = 62) : ∃ k', Kd k k' ∧ thing b' N' q' = ([(k', q')], ps', true, q' + (txL ps').length) := by
  rcases h with ⟨rfl, v, hv, rfl⟩ | ⟨rfl, h1, h2, rfl⟩ | ⟨rfl, r, hr, rfl⟩ | ⟨rfl, x, hx, rfl⟩ | ⟨h1, h2, n, h3, h4, h5, rfl, rfl, h6⟩ | ⟨h1, h2, rfl, h4⟩
  · have e := MvP_i (prN_i v) hm
    subst e
    have f := hf (by decide)
    exact ⟨258, Or.inl rfl, (num_re hv ht f.2.2.2.2.2.2 f.2.2.1).1⟩
  · have e := MvP_i (byt_i _ _) hm
    subst e
    have f := hf (by decide)
    rw [byt_tx] at f ⊢
    exact ⟨259, Or.inl rfl, txt_re h1 h2 ht f.2.2.2.1⟩
  · have e := MvP_i (txP_i _) hm
    subst e
    rw [txL_P] at ht ⊢
    exact ⟨260, Or.inl rfl, (err_re hr ht).1⟩
  · obtain ⟨s, h0, hs⟩ := hm
    have hs : s = [] := hs
    subst hs
    rcases h0 with rfl | ⟨y, hy, rfl⟩
    · rw [List.append_nil, txL_P] at ht ⊢
      exact ⟨260, Or.inr ⟨rfl, rfl⟩, (err_re (r := 2) (by decide) ht).1⟩
    · have e : txL [.inr y] = txr y := List.append_nil _
      rw [e] at ht hf ⊢
      have f := hf (by decide)
      exact ⟨262, Or.inl rfl, (ref_re hy.1 ht f.1 f.2.2.2.2.1 f.2.2.2.2.2.1).1⟩
  · have e := MvP_i (byt_i _ _) hm
    subst e
    have f := hf nmk_k
    have o := ho nmk_k
    rw [byt_tx] at f ⊢
    rw [h6] at o
    exact ⟨_, Or.inl rfl, name_re h1 h2 h3 h5 o ht f.1 f.2.1⟩
  · have e := MvP_i (byt_i _ _) hm
    subst e
    rw [byt_tx] at hg ⊢
    obtain ⟨x1, x2⟩ := eqL_b (mkl b N q) q q' ht
    have mp := mkl_p (b := b) (N := N) (q := q)
    have x0 := x1 0 (by omega)
    rw [Nat.add_zero, Nat.add_zero, h2] at x0
    refine ⟨k, Or.inl rfl, ?_⟩
    rw [mk_th x0 h1]
    have em : mkl b' N' q' = mkl b N q := by
      by_cases z : (xc b N q = 60 ∧ (xc b N (q + 1) = 61 ∨ xc b N (q + 1) = 62)) ∨ (xc b N q = 62 ∧ xc b N (q + 1) = 61)
      · have m2 : mkl b N q = 2 := by unfold mkl; rw [if_pos z]
        have y1 := x1 1 (by omega)
        rw [m2]
        unfold mkl
        rw [x0, y1, ← h2, if_pos z]
      · have m1 : mkl b N q = 1 := by unfold mkl; rw [if_neg z]
        rw [m1] at hg ⊢
        unfold mkl
        rw [x0]
        refine if_neg (fun w => ?_)
        rcases w with ⟨w1, w2⟩ | ⟨w1, w2⟩
        · have g := hg (Or.inl w1)
          rcases w2 with w2 | w2
          · exact g.1 w2
          · exact g.2 w2
        · exact (hg (Or.inr w1)).1 w2
    rw [em, x2]
/-- the first of the things left, where none is broken -/
theorem lexT {b : Nat → Int32} {N : Nat} (hN2 : N ≤ 2000) {n p : Nat} {j kk : Int32} {rs : List Tk} (h : Ch n j (lex b N p).1 rs kk) (hr : hk rs = 256) (hp : p ≤ N) (lt : skb b N p < N) : ∃ n' k ps e, n = n' + 1 ∧ okp j k ∧ thing b N (skb b N p) = ([(k, skb b N p)], ps, true, e) ∧ Ch n' k (lex b N e).1 rs kk ∧ (lex b N p).1 = (k, skb b N p) :: (lex b N e).1 ∧ (lex b N p).2 = ps ++ (lex b N e).2 ∧ skb b N p < e ∧ e ≤ N := by
  cases n with
  | zero =>
    have e : (lex b N p).1 = rs := h.1
    rw [← e] at hr
    have := (k256 hN2 hp).mp hr
    omega
  | succ n =>
    obtain ⟨c1, c2, c3, c4⟩ := h
    rcases thing_pl (b := b) (N := N) (q := skb b N p) with ⟨k, t1⟩ | ⟨t1, t2, t3⟩
    · by_cases y : (thing b N (skb b N p)).2.2.1 = true
      · have et : thing b N (skb b N p) = ([(k, skb b N p)], (thing b N (skb b N p)).2.1, true, (thing b N (skb b N p)).2.2.2) := by
          rw [← t1, ← y]
        obtain ⟨x1, x2, x3, x4⟩ := lex_th hN2 hp rfl lt et
        rw [x1] at c3 c4
        exact ⟨n, k, _, _, rfl, c3, et, c4, x1, x2, x3, x4⟩
      · have el := lex_n hN2 hp lt y
        rw [el, t1] at c4
        have c4 : Ch n k [(257, (thing b N (skb b N p)).2.2.2)] rs kk := c4
        cases n with
        | zero =>
          have e : [((257 : Int32), (thing b N (skb b N p)).2.2.2)] = rs := c4.1
          rw [← e] at hr
          exact absurd (show (257 : Int32) = 256 from hr) (by decide)
        | succ n => exact absurd (show hk [((257 : Int32), (thing b N (skb b N p)).2.2.2)] = 257 from rfl) c4.2.1
    · have el := lex_n hN2 hp lt t3
      rw [el, t1] at c2
      exact absurd (show hk ([] ++ [((257 : Int32), (thing b N (skb b N p)).2.2.2)]) = 257 from rfl) c2
/-- the byte behind a thing -/
theorem nextB {b b' : Nat → Int32} {N N' : Nat} (hN2 : N ≤ 2000) {n p p' : Nat} {j kk : Int32} {rs : List Tk} {L' : List Pc} (h : Ch n j (lex b N p).1 rs kk) (hr : hk rs = 256) (hp : p ≤ N) (hm : MvP (lex b N p).2 L') (ht : eqL b' N' p' (txL L') = true) (he : p' + (txL L').length = N') : (hk (lex b N p).1 < 257 → folN (xc b' N' p') ∧ sP_isBarredBehindCell (xc b N p) = 0) ∧ (¬ hk (lex b N p).1 = 61 → ¬ hk (lex b N p).1 = 62 → ¬ xc b' N' p' = 61 ∧ ¬ xc b' N' p' = 62) := by
  have bl : ∀ {c : Int32}, xc b N (skb b N p) = c → sP_isBarredBehindCell c = 0 → sP_isBarredBehindCell (xc b N p) = 0 := fun {c} e hc => by
    by_cases z : xc b N p = 32
    · rw [z]; decide
    · rw [skb_n z] at e
      rw [e]; exact hc
  by_cases lt : skb b N p < N
  · obtain ⟨n', k, ps, e, c1, c2, c3, c4, c5, c6, c7, c8⟩ := lexT hN2 h hr hp lt
    rw [c6] at hm
    obtain ⟨ps', R', rfl, m1, m2⟩ := MvP_split hm
    obtain ⟨c0, r, f1, f2, f3, f4⟩ := fby (thing_c lt c3) m1
    rw [txL_app, f1] at ht
    have x0 : xc b' N' p' = c0 := of_decide_eq_true ((Bool.and_eq_true _ _).mp ht).1
    rw [c5]
    refine ⟨fun z => ?_, fun z1 z2 => by rw [x0]; exact f4 z1 z2⟩
    obtain ⟨y1, y2, y3⟩ := f3 z
    have fo := mk_fol y2 y3 lt
    rw [x0, y1]
    exact ⟨fo, bl y3 fo.1⟩
  · rw [lex_end hN2 hp lt] at hm ⊢
    have hm : L' = [] := hm
    subst hm
    have he : p' + 0 = N' := he
    have x0 : xc b' N' p' = -1 := xc_out (by omega)
    rw [x0]
    exact ⟨fun _ => ⟨fol_m1, bl (xc_out (by omega)) (by decide)⟩, fun _ _ => ⟨by decide, by decide⟩⟩
/-- WHAT WAS SHOWN IS READ AGAIN AS IT WAS -/
theorem relex {b b' : Nat → Int32} {N N' : Nat} (hN2 : N ≤ 2000) (hN2' : N' ≤ 2000) : ∀ (n : Nat) {j kk : Int32} {p p' : Nat} {L' : List Pc} {rs : List Tk}, Ch n j (lex b N p).1 rs kk → hk rs = 256 → p ≤ N → MvP (lex b N p).2 L' → eqL b' N' p' (txL L') = true → p' + (txL L').length = N' → KR (lex b N p).1 (lex b' N' p').1 ∧ (lex b' N' p').2 = L' := by
  intro n
  induction n with
  | zero =>
    intro j kk p p' L' rs h hr hp hm ht he
    have e : (lex b N p).1 = rs := h.1
    have e2 : hk (lex b N p).1 = 256 := by rw [e]; exact hr
    have e3 := (k256 hN2 hp).mp e2
    rw [lex_end hN2 hp (by omega)] at hm ⊢
    have hm : L' = [] := hm
    subst hm
    have he : p' + 0 = N' := he
    have x0 : xc b' N' p' = -1 := xc_out (by omega)
    rw [lex_end hN2' (by omega) (by rw [skb_n (by rw [x0]; decide)]; omega)]
    exact ⟨⟨Or.inl rfl, trivial⟩, rfl⟩
  | succ n ih =>
    intro j kk p p' L' rs h hr hp hm ht he
    have c1 := h.1
    have lt : skb b N p < N := Nat.lt_of_not_le (fun z => c1 ((k256 hN2 hp).mpr z))
    obtain ⟨n', k, ps, e, c2, c3, c4, c5, c6, c7, c8, c9⟩ := lexT hN2 h hr hp lt
    have en : n = n' := by omega
    subst en
    rw [c7] at hm
    obtain ⟨ps', R', rfl, m1, m2⟩ := MvP_split hm
    have tc := thing_c lt c4
    obtain ⟨c0, r, f1, f2, f3, f4⟩ := fby tc m1
    rw [txL_app, eqL_app] at ht
    obtain ⟨t1, t2⟩ := (Bool.and_eq_true _ _).mp ht
    rw [txL_app, List.length_append] at he
    have he2 : p' + (txL ps').length + (txL R').length = N' := by omega
    obtain ⟨b1, b2⟩ := nextB hN2 c5 hr c9 m2 t2 he2
    -- what stands behind
    have ok : okp k (hk (lex b N e).1) := by
      cases n with
      | zero =>
        have e1 : (lex b N e).1 = rs := c5.1
        rw [e1, hr]
        exact ⟨fun _ => by decide, fun _ => by decide⟩
      | succ n => exact c5.2.2.1
    obtain ⟨k', d1, d2⟩ := thing_re tc m1 t1 (fun z => (b1 (ok.1 z)).2) (fun z => (b1 (ok.1 z)).1) (fun z => b2 (ok.2 z).1 (ok.2 z).2)
    have x0 : xc b' N' p' = c0 := by
      rw [f1] at t1
      exact of_decide_eq_true ((Bool.and_eq_true _ _).mp t1).1
    have sk : skb b' N' p' = p' := skb_n (by rw [x0]; exact f2)
    have l1 : 1 ≤ (txL ps').length := by rw [f1, List.length_cons]; omega
    obtain ⟨x1, x2, x3, x4⟩ := lex_th hN2' (p := p') (by omega) sk (by omega) d2
    obtain ⟨i1, i2⟩ := ih c5 hr c9 m2 t2 he2
    rw [c6, x1, x2, i2]
    exact ⟨⟨d1, i1⟩, rfl⟩
