/-- a WORD stands at q -/
def isWd (b : Nat → Int32) (N q : Nat) : Prop := ¬ sM_letter (xc b N q) = 0 ∧ ¬ isCell b N q ∧ nst b N q - q ≤ 12 ∧ ¬ hof b N q (nst b N q - q) (xk_by 16) [] = true
theorem lt_not {c : Int32} (h : ¬ sM_letter c = 0) : sM_digit c = 0 ∧ ¬ c = 34 ∧ ¬ c = 35 ∧ ¬ c = -1 ∧ ¬ sP_isNamePart c = 0 := by
  obtain ⟨y, y1, y2⟩ := lt_v h
  have f : ∀ y, y < 26 → sM_digit (nI (65 + y)) = 0 ∧ ¬ nI (65 + y) = 34 ∧ ¬ nI (65 + y) = 35 ∧ ¬ nI (65 + y) = -1 ∧ ¬ sP_isNamePart (nI (65 + y)) = 0 := by decide
  rw [y2]; exact f y y1
theorem wd_th {b : Nat → Int32} {N q : Nat} (h : isWd b N q) : thing b N q = ([(nI (263 + ari b N q (nst b N q - q)), q)], byt b N q (nst b N q - q), true, nst b N q) ∧ q < N ∧ q < nst b N q ∧ wlen b N q = nst b N q - q := by
  obtain ⟨h1, h2, h3, h4⟩ := h
  obtain ⟨l1, l2, l3, l4, l5⟩ := lt_not h1
  refine ⟨?_, xc_in rfl l4, ?_, by unfold wlen; rw [if_neg h1]⟩
  · unfold thing
    rw [if_pos l1, if_neg l2, if_neg l3, if_neg h2, if_neg h1]
    unfold namT nmk
    rw [if_pos h3, if_neg h4]
  · rw [nst_y l5]
    have := nst_ge (b := b) (N := N) (q + 1)
    omega
theorem ari_lt {b : Nat → Int32} {N q n : Nat} : ari b N q n < 10 := arf_lt (b := b) (N := N) (q := q) (n := n) 10 0 rfl
theorem n263 {n : Nat} (h : n < 90000) : nI n < 263 ↔ n < 263 := mI_lt (b := 263) (by omega) (by decide)
theorem wd_k {b : Nat → Int32} {N q : Nat} (hN2 : N ≤ 2000) (hqN : q ≤ N) (hq : skb b N q = q) (h : isWd b N q) : ¬ hk (lex b N q).1 < 263 ∧ ark (hk (lex b N q).1) = ari b N q (nst b N q - q) := by
  obtain ⟨t1, t2, t3, t4⟩ := wd_th h
  obtain ⟨x1, x2, x3, x4⟩ := lex_th hN2 hqN hq t2 t1
  have al := ari_lt (b := b) (N := N) (q := q) (n := nst b N q - q)
  rw [x1]
  show ¬ nI (263 + ari b N q (nst b N q - q)) < 263 ∧ ark (nI (263 + ari b N q (nst b N q - q))) = _
  refine ⟨fun z => absurd ((n263 (by omega)).mp z) (by omega), ?_⟩
  unfold ark
  rw [show (263 : Int32) = nI 263 from rfl, mI_sub (by omega), mI_cl (by omega)]
  omega
/-- where no WORD stands -/
theorem nwd_k {b : Nat → Int32} {N q : Nat} (hN2 : N ≤ 2000) (hqN : q ≤ N) (hq : skb b N q = q) (h : ¬ isWd b N q) : hk (lex b N q).1 < 263 := by
  rw [hk_lex hN2 hqN, hq]
  by_cases lt : q < N
  · rw [if_pos lt]
    unfold thing
    by_cases d : sM_digit (xc b N q) = 0
    · rw [if_pos d]
      by_cases d34 : xc b N q = 34
      · rw [if_pos d34]
        unfold txtT
        cases tqs b N (q + 1) with
        | none => exact (by decide : (257 : Int32) < 263)
        | some z => exact (by decide : (259 : Int32) < 263)
      · rw [if_neg d34]
        by_cases d35 : xc b N q = 35
        · rw [if_pos d35]
          unfold errT
          cases erf b N q 4 4 with
          | none => exact (by decide : (257 : Int32) < 263)
          | some z => exact (by decide : (260 : Int32) < 263)
        · rw [if_neg d35]
          by_cases h4 : isCell b N q
          · rw [if_pos h4]
            unfold refT
            by_cases y : xc b N (rfe b N q) = 58
            · rw [if_pos y]
              by_cases y2 : isCell b N (rfs b N q)
              · rw [if_pos y2]; exact (by decide : (262 : Int32) < 263)
              · rw [if_neg y2]; exact (by decide : (262 : Int32) < 263)
            · rw [if_neg y]; exact (by decide : (262 : Int32) < 263)
          · rw [if_neg h4]
            by_cases h5 : sM_letter (xc b N q) = 0
            · rw [if_pos h5]
              unfold mrkT
              by_cases y : 0 ≤ xk_ix 14 (xg_c (xc b N q))
              · rw [if_pos y]
                show xc b N q < 263
                obtain ⟨n, n1, n2⟩ := xc_n (b := b) lt
                rw [n2]
                exact (n263 (by omega)).mpr (by omega)
              · rw [if_neg y]; exact (by decide : (257 : Int32) < 263)
            · rw [if_neg h5]
              unfold namT
              by_cases y : nst b N q - q ≤ 12
              · rw [if_pos y]
                show nmk b N q (nst b N q - q) < 263
                unfold nmk
                by_cases w : hof b N q (nst b N q - q) (xk_by 16) [] = true
                · rw [if_pos w]; decide
                · exact absurd ⟨h5, h4, y, w⟩ h
              · rw [if_neg y]; exact (by decide : (257 : Int32) < 263)
    · rw [if_neg d]
      unfold numT
      by_cases z : 90000000000 < nvl b N q ∨ (nvl b N q = 90000000000 ∧ nws b N q < nto b N q)
      · rw [if_pos z]; exact (by decide : (257 : Int32) < 263)
      · rw [if_neg z]; exact (by decide : (258 : Int32) < 263)
  · rw [if_neg lt]; decide
theorem wd_np {b : Nat → Int32} {N q : Nat} : ∀ i, q ≤ i → i < q + (nst b N q - q) → ¬ sP_isNamePart (xc b N i) = 0 := fun i h1 h2 => nst_all q i h1 (by have := nst_ge (b := b) (N := N) q; omega)
/-- the code of the word at q -/
def wcd (b : Nat → Int32) (N q : Nat) : Nat := cdW (sgl b N q (nst b N q - q))
theorem wcd_pos {b : Nat → Int32} {N q : Nat} (h : isWd b N q) : 1 ≤ wcd b N q ∧ wcd b N q < 2 ^ 63 := by
  obtain ⟨t1, t2, t3, t4⟩ := wd_th h
  obtain ⟨s1, s2⟩ := sgl_ok (b := b) (N := N) (nst b N q - q) q wd_np
  refine ⟨?_, Nat.lt_of_lt_of_le (cdW_lt _ _ (sgl_len _ q) (fun s hs => (s1 s hs).2)) (Nat.le_of_lt (p12 h.2.2.1))⟩
  refine Nat.pos_of_ne_zero fun z => ?_
  have e := cdW_inj 0 [] (sgl b N q (nst b N q - q)) rfl (fun s hs => by cases hs) s1 z.symm
  have := sgl_len (b := b) (N := N) (nst b N q - q) q
  rw [← e] at this
  have : 0 = nst b N q - q := this
  omega
theorem wordHere_n {b : Nat → Int32} {N q c op : Nat} {m : xMs} (h : PS b N m q c op) (hq : skb b N q = q) : ∃ m' v, FM_wordHere m = some (nL v, m') ∧ Ev m m' ∧ PS b N m' q c op ∧ gg m' = gg m ∧ m'.2.2 = m.2.2 ∧ ((isWd b N q ∧ v = wcd b N q) ∨ (¬ isWd b N q ∧ v = 0)) := by
  have hN2 := PS_N h
  have hqN := h.2.2.1
  have wle : wlen b N q < 3000 := by
    unfold wlen
    have := nst_le (b := b) (N := N) q hqN
    by_cases z : sM_letter (xc b N q) = 0
    · rw [if_pos z]; omega
    · rw [if_neg z]; omega
  unfold FM_wordHere
  rw [FM_wl h.1 h.2.1 hqN, Option.bind_some]
  by_cases l : sM_letter (xc b N q) = 0
  · have w0 : wlen b N q = 0 := by unfold wlen; rw [if_pos l]
    rw [w0, if_pos (show nI 0 = 0 from rfl)]
    exact ⟨m, 0, rfl, Ev_r _, h, rfl, rfl, Or.inr ⟨fun z => z.1 l, rfl⟩⟩
  · have w1 : wlen b N q = nst b N q - q := by unfold wlen; rw [if_neg l]
    have l5 := (lt_not l).2.2.2.2
    have gt : q < nst b N q := by
      rw [nst_y l5]
      have := nst_ge (b := b) (N := N) (q + 1)
      omega
    have nle := nst_le (b := b) (N := N) q hqN
    have n0 : ¬ nI (wlen b N q) = 0 := fun z => by have := mI_inj (b := 0) (by omega) (by decide) z; omega
    rw [if_neg n0]
    by_cases g12 : 12 < wlen b N q
    · rw [if_pos (show (12 : Int32) < nI (wlen b N q) from (mI_lt (a := 12) (by decide) (by omega)).mpr g12)]
      exact ⟨m, 0, rfl, Ev_r _, h, rfl, rfl, Or.inr ⟨fun z => by have := z.2.2.1; omega, rfl⟩⟩
    · rw [if_neg (show ¬ (12 : Int32) < nI (wlen b N q) from fun z => g12 ((mI_lt (a := 12) (by decide) (by omega)).mp z))]
      by_cases hc : isCell b N q
      · rw [FM_cell_y h.1 h.2.1 hqN hc, Option.bind_some, if_pos rfl]
        exact ⟨_, 0, rfl, Ev_C _ _ _ _ _ _, PS_C h, rfl, rfl, Or.inr ⟨fun z => z.2.1 hc, rfl⟩⟩
      · obtain ⟨a1, a2, a3, a4, a5, ea⟩ := FM_cell_n h.1 h.2.1 hqN hc
        rw [ea, Option.bind_some, if_neg (by exact Bool.false_ne_true)]
        have h2 : PS b N (setC m a1 a2 a3 a4 a5) q c op := PS_C h
        show ∃ m' v, ((FM_says (nI (wlen b N q)) 75 (setC m a1 a2 a3 a4 a5)).bind fun r115 => if r115 = true then (some (0, setC m a1 a2 a3 a4 a5)) else ((FM_says (nI (wlen b N q)) 76 (setC m a1 a2 a3 a4 a5)).bind fun r117 => if r117 = true then (some (0, setC m a1 a2 a3 a4 a5)) else ((FM_wordOf (nI (wlen b N q)) (setC m a1 a2 a3 a4 a5)).bind fun r119 => some (r119, setC m a1 a2 a3 a4 a5)))) = _ ∧ _
        rw [FM_says_n h2.1 h2.2.1 hqN (k := 75) (by decide) wle, Option.bind_some]
        by_cases z : (decide (wlen b N q = (xk_by 75).length) && eqL b N q (xk_by 75)) = true
        · rw [if_pos z]
          have z2 := (Bool.and_eq_true _ _).mp z
          exact ⟨_, 0, rfl, Ev_C _ _ _ _ _ _, h2, rfl, rfl, Or.inr ⟨fun y => y.2.2.2 (hof_tr.mpr (Or.inl ⟨by rw [← w1]; exact of_decide_eq_true z2.1, z2.2⟩)), rfl⟩⟩
        · rw [if_neg z, FM_says_n h2.1 h2.2.1 hqN (k := 76) (by decide) wle, Option.bind_some]
          by_cases z3 : (decide (wlen b N q = (xk_by 76).length) && eqL b N q (xk_by 76)) = true
          · rw [if_pos z3]
            have z2 := (Bool.and_eq_true _ _).mp z3
            exact ⟨_, 0, rfl, Ev_C _ _ _ _ _ _, h2, rfl, rfl, Or.inr ⟨fun y => y.2.2.2 (hof_tr.mpr (Or.inr ⟨by rw [← w1]; exact of_decide_eq_true z2.1, z2.2⟩)), rfl⟩⟩
          · rw [if_neg z3, w1, wordOf_n h2.1 h2.2.1 (by omega) wd_np, Option.bind_some]
            refine ⟨_, wcd b N q, rfl, Ev_C _ _ _ _ _ _, h2, rfl, rfl, Or.inl ⟨⟨l, hc, by omega, fun y => ?_⟩, rfl⟩⟩
            rcases hof_tr.mp y with y | y
            · exact z (by rw [decide_eq_true (by rw [w1]; exact y.1), y.2]; rfl)
            · exact z3 (by rw [decide_eq_true (by rw [w1]; exact y.1), y.2]; rfl)
