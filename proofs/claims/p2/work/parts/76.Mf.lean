theorem lex_end {b : Nat → Int32} {N p : Nat} (hN2 : N ≤ 2000) (hp : p ≤ N) (h : ¬ skb b N p < N) : lex b N p = ([(256, skb b N p)], []) := by rw [lex_eq hN2 hp, if_neg h]
theorem lex_y {b : Nat → Int32} {N p : Nat} (hN2 : N ≤ 2000) (hp : p ≤ N) (h : skb b N p < N) (y : (thing b N (skb b N p)).2.2.1 = true) : lex b N p = ((thing b N (skb b N p)).1 ++ (lex b N (thing b N (skb b N p)).2.2.2).1, (thing b N (skb b N p)).2.1 ++ (lex b N (thing b N (skb b N p)).2.2.2).2) := by rw [lex_eq hN2 hp, if_pos h, if_pos y]
theorem lex_n {b : Nat → Int32} {N p : Nat} (hN2 : N ≤ 2000) (hp : p ≤ N) (h : skb b N p < N) (y : ¬ (thing b N (skb b N p)).2.2.1 = true) : lex b N p = ((thing b N (skb b N p)).1 ++ [(257, (thing b N (skb b N p)).2.2.2)], (thing b N (skb b N p)).2.1) := by rw [lex_eq hN2 hp, if_pos h, if_neg y]
theorem lex_skb {b : Nat → Int32} {N p : Nat} (hN2 : N ≤ 2000) (hp : p ≤ N) : lex b N (skb b N p) = lex b N p := by
  rw [lex_eq hN2 hp, lex_eq hN2 (skb_le p hp), skb_skb]
/-- the kind of what stands at q; 257 if it is broken at once -/
def tkd (r : Tg) : Int32 := match r.1 with
  | [] => 257
  | x :: _ => x.1
theorem hk_lex {b : Nat → Int32} {N p : Nat} (hN2 : N ≤ 2000) (hp : p ≤ N) : hk (lex b N p).1 = if skb b N p < N then tkd (thing b N (skb b N p)) else 256 := by
  by_cases h : skb b N p < N
  · rw [if_pos h]
    by_cases y : (thing b N (skb b N p)).2.2.1 = true
    · rw [lex_y hN2 hp h y]
      have tg := (thing_go (b := b) hN2 h).2.2.2.2 y
      unfold tkd
      show hk ((thing b N (skb b N p)).1 ++ _) = _
      cases e : (thing b N (skb b N p)).1 with
      | nil => rw [e] at tg; exact absurd tg.2 (by decide)
      | cons x z => rfl
    · rw [lex_n hN2 hp h y]
      unfold tkd
      show hk ((thing b N (skb b N p)).1 ++ _) = _
      cases e : (thing b N (skb b N p)).1 with
      | nil => rfl
      | cons x z => rfl
  · rw [if_neg h, lex_end hN2 hp h]; rfl
/-- a kind is a mark's byte, or more than a byte -/
theorem tkd_k {b : Nat → Int32} {N q : Nat} : (tkd (thing b N q) = xc b N q ∧ thing b N q = mrkT b N q ∧ 0 ≤ xk_ix 14 (xg_c (xc b N q))) ∨ ∃ n, 257 ≤ n ∧ n < 300 ∧ tkd (thing b N q) = nI n := by
  unfold thing
  by_cases h1 : sM_digit (xc b N q) = 0
  · rw [if_pos h1]
    by_cases h2 : xc b N q = 34
    · rw [if_pos h2]
      refine Or.inr ?_
      unfold txtT
      cases tqs b N (q + 1) with
      | none => exact ⟨257, by decide, by decide, rfl⟩
      | some z => exact ⟨259, by decide, by decide, rfl⟩
    · rw [if_neg h2]
      by_cases h3 : xc b N q = 35
      · rw [if_pos h3]
        refine Or.inr ?_
        unfold errT
        cases erf b N q 4 4 with
        | none => exact ⟨257, by decide, by decide, rfl⟩
        | some z => exact ⟨260, by decide, by decide, rfl⟩
      · rw [if_neg h3]
        by_cases h4 : isCell b N q
        · rw [if_pos h4]
          refine Or.inr ⟨262, by decide, by decide, ?_⟩
          unfold refT
          by_cases z : xc b N (rfe b N q) = 58
          · rw [if_pos z]
            by_cases y : isCell b N (rfs b N q)
            · rw [if_pos y]; rfl
            · rw [if_neg y]; rfl
          · rw [if_neg z]; rfl
        · rw [if_neg h4]
          by_cases h5 : sM_letter (xc b N q) = 0
          · rw [if_pos h5]
            by_cases z : 0 ≤ xk_ix 14 (xg_c (xc b N q))
            · refine Or.inl ⟨?_, rfl, z⟩
              unfold mrkT
              rw [if_pos z]; rfl
            · refine Or.inr ⟨257, by decide, by decide, ?_⟩
              unfold mrkT
              rw [if_neg z]; rfl
          · rw [if_neg h5]
            refine Or.inr ?_
            unfold namT
            by_cases z : nst b N q - q ≤ 12
            · rw [if_pos z]
              show ∃ n, 257 ≤ n ∧ n < 300 ∧ nmk b N q (nst b N q - q) = nI n
              unfold nmk
              by_cases w : hof b N q (nst b N q - q) (xk_by 16) [] = true
              · rw [if_pos w]; exact ⟨261, by decide, by decide, rfl⟩
              · rw [if_neg w]
                have := arf_lt (b := b) (N := N) (q := q) (n := nst b N q - q) 10 0 rfl
                exact ⟨263 + ari b N q (nst b N q - q), by omega, by show 263 + arf b N q (nst b N q - q) 10 0 < 300; omega, rfl⟩
            · rw [if_neg z]; exact ⟨257, by decide, by decide, rfl⟩
  · rw [if_neg h1]
    refine Or.inr ?_
    unfold numT
    by_cases z : 90000000000 < nvl b N q ∨ (nvl b N q = 90000000000 ∧ nws b N q < nto b N q)
    · rw [if_pos z]; exact ⟨257, by decide, by decide, rfl⟩
    · rw [if_neg z]; exact ⟨258, by decide, by decide, rfl⟩
/-- c is a mark: a byte that the class takes as one, and nothing else -/
def isMk (c : Int32) : Prop := sM_digit c = 0 ∧ ¬ c = 34 ∧ ¬ c = 35 ∧ ¬ c = 36 ∧ sM_letter c = 0 ∧ 0 ≤ xk_ix 14 (xg_c c) ∧ ¬ 256 ≤ c ∧ ¬ c = -1 ∧ ¬ c = 32
theorem mk_th {b : Nat → Int32} {N q : Nat} {c : Int32} (h : xc b N q = c) (hc : isMk c) : thing b N q = ([(c, q)], byt b N q (mkl b N q), true, q + mkl b N q) := by
  obtain ⟨h1, h2, h3, h4, h5, h6, h7, h8, h9⟩ := hc
  have nc : ¬ isCell b N q := fun z => by
    have e : cl1 b N q = q := by show bm b N q = q; unfold bm; rw [if_neg (by rw [h]; exact h4)]
    have := z.1
    rw [e, h] at this
    exact this h5
  unfold thing
  rw [if_pos (by rw [h]; exact h1), if_neg (by rw [h]; exact h2), if_neg (by rw [h]; exact h3), if_neg nc, if_pos (by rw [h]; exact h5)]
  unfold mrkT
  rw [if_pos (by rw [h]; exact h6), h]
/-- the next thing is the mark c just where the next byte is -/
theorem mk_iff {b : Nat → Int32} {N p : Nat} {c : Int32} (hN2 : N ≤ 2000) (hp : p ≤ N) (hc : isMk c) : hk (lex b N p).1 = c ↔ xc b N (skb b N p) = c := by
  rw [hk_lex hN2 hp]
  obtain ⟨h1, h2, h3, h4, h5, h6, h7, h8, h9⟩ := hc
  constructor
  · intro h
    by_cases z : skb b N p < N
    · rw [if_pos z] at h
      rcases tkd_k (b := b) (N := N) (q := skb b N p) with w | ⟨n, w1, w2, w3⟩
      · rw [← w.1]; exact h
      · rw [w3] at h
        exfalso
        apply h7
        rw [← h]
        exact (mI_le (a := 256) (by decide) (by omega)).mpr (by omega)
    · rw [if_neg z] at h
      exact absurd (show (256 : Int32) ≤ c by rw [← h]; decide) h7
  · intro h
    have z : skb b N p < N := xc_in h h8
    rw [if_pos z, mk_th h ⟨h1, h2, h3, h4, h5, h6, h7, h8, h9⟩]
    rfl
theorem mk_lex {b : Nat → Int32} {N p : Nat} {c : Int32} (hN2 : N ≤ 2000) (hp : p ≤ N) (hc : isMk c) (h : xc b N (skb b N p) = c) : (lex b N p).1 = (c, skb b N p) :: (lex b N (skb b N p + mkl b N (skb b N p))).1 ∧ (lex b N p).2 = byt b N (skb b N p) (mkl b N (skb b N p)) ++ (lex b N (skb b N p + mkl b N (skb b N p))).2 ∧ skb b N p < N ∧ skb b N p + mkl b N (skb b N p) ≤ N := by
  have z : skb b N p < N := xc_in h hc.2.2.2.2.2.2.2.1
  have e := mk_th h hc
  have m1 := mkl_le (b := b) z
  have y : (thing b N (skb b N p)).2.2.1 = true := by rw [e]
  rw [lex_y hN2 hp z y, e]
  exact ⟨rfl, rfl, z, m1.2⟩
theorem mk1 {b : Nat → Int32} {N q : Nat} {c : Int32} (h : xc b N q = c) (h60 : ¬ c = 60) (h62 : ¬ c = 62) : mkl b N q = 1 := by
  unfold mkl
  rw [if_neg (fun z => by rcases z with ⟨z, _⟩ | ⟨z, _⟩; exact h60 (h ▸ z); exact h62 (h ▸ z))]
theorem isMk_all : ∀ c ∈ ([61, 60, 62, 38, 43, 45, 42, 47, 37, 40, 41, 123, 125, 44, 59] : List Int32), sM_digit c = 0 ∧ ¬ c = 34 ∧ ¬ c = 35 ∧ ¬ c = 36 ∧ sM_letter c = 0 ∧ 0 ≤ xk_ix 14 (xg_c c) ∧ ¬ 256 ≤ c ∧ ¬ c = -1 ∧ ¬ c = 32 := by decide
theorem mk_of {c : Int32} (h : c ∈ ([61, 60, 62, 38, 43, 45, 42, 47, 37, 40, 41, 123, 125, 44, 59] : List Int32)) : isMk c := isMk_all c h
