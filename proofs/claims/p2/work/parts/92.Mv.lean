theorem Ok_skb {b : Nat → Int32} {N E p c op i : Nat} {Q : Int32 → Prop} {m m' : xMs} {rest : List Tk} (h : PS b N m p c op) (ho : Ok b N Q E (setAt m (nI (skb b N p))) (skb b N p) c op rest i m') : Ok b N Q E m p c op rest i m' := by
  have sg1 := skb_ge (b := b) (N := N) p
  obtain ⟨p', c', ps, k, y1, y2, y3, y4, y5, y6, y7, y8, y9, y10⟩ := ho
  rw [lex_skb (PS_N h) h.2.2.1] at y6
  exact ⟨p', c', ps, k, Ev_t (Ev_at _ _) y1, y2, by omega, by omega, y5, y6, y7, y8, y9, y10⟩
/-- a number begins with a digit -/
theorem k258 {b : Nat → Int32} {N p : Nat} (hN2 : N ≤ 2000) (hpN : p ≤ N) (h : hk (lex b N p).1 = 258) : ¬ sM_digit (xc b N (skb b N p)) = 0 := fun d => by
  rw [hk_lex hN2 hpN] at h
  by_cases lt : skb b N p < N
  · rw [if_pos lt] at h
    generalize skb b N p = q at *
    revert h
    unfold thing
    rw [if_pos d]
    by_cases d34 : xc b N q = 34
    · rw [if_pos d34]
      unfold txtT
      cases tqs b N (q + 1) with
      | none => exact (by decide : ¬ (257 : Int32) = 258)
      | some z => exact (by decide : ¬ (259 : Int32) = 258)
    · rw [if_neg d34]
      by_cases d35 : xc b N q = 35
      · rw [if_pos d35]
        unfold errT
        cases erf b N q 4 4 with
        | none => exact (by decide : ¬ (257 : Int32) = 258)
        | some z => exact (by decide : ¬ (260 : Int32) = 258)
      · rw [if_neg d35]
        by_cases h4 : isCell b N q
        · rw [if_pos h4]
          unfold refT
          by_cases y : xc b N (rfe b N q) = 58
          · rw [if_pos y]
            by_cases y2 : isCell b N (rfs b N q)
            · rw [if_pos y2]; exact (by decide : ¬ (262 : Int32) = 258)
            · rw [if_neg y2]; exact (by decide : ¬ (262 : Int32) = 258)
          · rw [if_neg y]; exact (by decide : ¬ (262 : Int32) = 258)
        · rw [if_neg h4]
          by_cases h5 : sM_letter (xc b N q) = 0
          · rw [if_pos h5]
            unfold mrkT
            by_cases y : 0 ≤ xk_ix 14 (xg_c (xc b N q))
            · rw [if_pos y]
              show ¬ xc b N q = 258
              obtain ⟨n, n1, n2⟩ := xc_n (b := b) lt
              rw [n2]
              intro z
              have := mI_inj (b := 258) (by omega) (by decide) z
              omega
            · rw [if_neg y]; exact (by decide : ¬ (257 : Int32) = 258)
          · rw [if_neg h5]
            unfold namT
            by_cases y : nst b N q - q ≤ 12
            · rw [if_pos y]
              show ¬ nmk b N q (nst b N q - q) = 258
              unfold nmk
              by_cases w : hof b N q (nst b N q - q) (xk_by 16) [] = true
              · rw [if_pos w]; decide
              · rw [if_neg w]
                have al : ari b N q (nst b N q - q) < 10 := arf_lt (b := b) (N := N) (q := q) (n := nst b N q - q) 10 0 rfl
                intro z
                have := mI_inj (b := 258) (by omega) (by decide) z
                omega
            · rw [if_neg y]; exact (by decide : ¬ (257 : Int32) = 258)
  · rw [if_neg lt] at h
    revert h
    decide
/-- LITERAL -/
theorem literal_n {b : Nat → Int32} {N op : Nat} : Prs b N leafK 1 op FM_literal litG := by
  intro m p c h
  have hN2 := PS_N h
  have hpN := h.2.2.1
  have hcp := h.2.2.2.2.2.2.1
  have sg1 := skb_ge (b := b) (N := N) p
  have sl := skb_le (b := b) p hpN
  have mi := mk_iff (b := b) hN2 hpN (mk_of (c := 45) (by decide))
  have h1 : PS b N (setAt m (nI (skb b N p))) (skb b N p) c op := PS_at h (by omega) sl
  unfold FM_literal
  rw [bl_at h, Option.bind_some, pk_at h sl, Option.bind_some]
  by_cases q : xc b N (skb b N p) = 45
  · obtain ⟨x1, x2, x3, x4⟩ := mk_lex hN2 hpN (mk_of (c := 45) (by decide)) q
    rw [mk1 q (by decide) (by decide)] at x1 x2 x4
    rw [byt1 q] at x2
    have et : (lex b N p).1.tail = (lex b N (skb b N p + 1)).1 := by rw [x1]; rfl
    have el : litG (lex b N p).1 = tkk 258 (lex b N (skb b N p + 1)).1 := by
      unfold litG
      rw [if_pos (mi.mpr q), et]
    have h2 : PS b N (setAt m (nI (skb b N p + 1))) (skb b N p + 1) c op := PS_at h (by omega) x4
    have sg2 := skb_ge (b := b) (N := N) (skb b N p + 1)
    have sl2 : skb b N (skb b N p + 1) ≤ N := skb_le (b := b) (skb b N p + 1) x4
    have h3 : PS b N (setAt m (nI (skb b N (skb b N p + 1)))) (skb b N (skb b N p + 1)) c op := PS_at h (by omega) sl2
    have lk : lex b N (skb b N (skb b N p + 1)) = lex b N (skb b N p + 1) := lex_skb hN2 x4
    rw [if_pos q, el]
    unfold FM_literal_18
    rw [if_pos rfl, step1, bl_at h2, Option.bind_some, setAt_at, pk_at h sl2, Option.bind_some]
    generalize hq2 : skb b N (skb b N p + 1) = q2 at *
    by_cases d : sM_digit (xc b N q2) = 0
    · have n258 : ¬ hk (lex b N (skb b N p + 1)).1 = 258 := fun z => k258 hN2 x4 z (by rw [hq2]; exact d)
      rw [if_pos d]
      unfold tkk
      rw [if_neg n258]
      refine ⟨_, rfl, Or.inr ⟨fun z => absurd z Bool.false_ne_true, _, rfl, setAt m (nI q2), c, Ev_at _ _, h.2.2.2.2.2.1, ?_⟩⟩
      rw [hp_lex hN2 x4, hq2]
      rfl
    · rw [if_neg d]
      have hlt := dg_in d
      have sq2 : skb b N q2 = q2 := by rw [← hq2, skb_skb]
      rcases num_c h3 d with ⟨m', r, v, w1, w2, w3, w4, w5, w6, w7, w8, w9, w10⟩ | ⟨m', w1, w2, w3⟩
      · obtain ⟨u1, u2, u3, u4⟩ := lex_th hN2 h3.2.2.1 sq2 hlt w8
        rw [lk] at u1 u2
        have etk : tkk 258 (lex b N (skb b N p + 1)).1 = (true, (lex b N (nstp b N q2)).1) := by
          unfold tkk
          rw [u1, if_pos (show hk ((258, q2) :: (lex b N (nstp b N q2)).1) = 258 from rfl)]
          rfl
        rw [w1, etk]
        refine ⟨_, ?_, Or.inl ⟨rfl, c, setG m' (va_up (gg m') c (nA (nNumber (gg m' c) (-(gg m' c).1.2.2.2)) 1)), rfl, nstp b N q2, c + 1, .inl 45 :: prN v, 1, Ev_t (Ev_at _ _) (Ev_t w2 (Ev_G _ _)), ?_, by omega, by omega, rfl, ?_, ?_, ?_, ?_, fun x hx => ?_⟩⟩
        · show (if c < m'.2.2.1.2.2.2.2.1 then _ else none) = _
          rw [if_pos w9]
          rfl
        · exact PS_mk h3 (Ev_t w2 (Ev_G _ _)) w3 u4 (w4.trans h3.2.2.2.1) h.2.2.2.2.1 w5 (by omega)
        · rw [x2, u2]; rfl
        · refine leaf_RT ?_ (Nat.le_refl _) ?_
          · show (va_up (gg m') c _ c).2.2 = _
            rw [va_up_self, w6]; rfl
          · show LF b N ((va_up (gg m') c _ c).1, (va_up (gg m') c _ c).2.1) _
            rw [va_up_self, w6]
            exact Or.inl ⟨rfl, v, w7, Or.inr ⟨rfl, rfl, rfl⟩⟩
        · show (va_up (gg m') c _ c).2.2.2.2.1 = none
          rw [va_up_self, w6]; rfl
        · show leafK (va_up (gg m') c _ c).1.1
          rw [va_up_self, w6]
          exact Or.inl rfl
        · show va_up (gg m') c _ x = _
          rw [va_up_ne _ _ (by omega), w10 x (by omega)]; rfl
      · have l1 : (lex b N (skb b N p + 1)).1 = [(257, q2)] := by rw [← lk]; exact lex_br hN2 h3.2.2.1 sq2 hlt w3
        have etk : tkk 258 (lex b N (skb b N p + 1)).1 = (false, [(257, q2)]) := by
          rw [l1]; rfl
        rw [w1, etk]
        exact ⟨_, rfl, Or.inr ⟨fun z => absurd z Bool.false_ne_true, Bad_t (Ev_at _ _) ⟨m', rfl, w2⟩⟩⟩
  · have nq : ¬ hk (lex b N p).1 = 45 := fun z => q (mi.mp z)
    have el : litG (lex b N p).1 = constG (lex b N p).1 := by
      unfold litG
      rw [if_neg nq]
    have lk : lex b N (skb b N p) = lex b N p := lex_skb hN2 hpN
    rw [if_neg q, el]
    unfold FM_literal_18
    rw [if_neg (by exact Bool.false_ne_true)]
    have cn := const_n h1 skb_skb
    rw [lk] at cn
    rcases cn with ⟨m', w1, w2, w3⟩ | ⟨m', w1, w2, w3⟩ | ⟨w1, w2, w3, w4⟩
    · have ec : constG (lex b N p).1 = (true, (lex b N p).1.tail) := by
        unfold constG
        exact if_pos w1
      rw [w2, ec]
      exact ⟨_, rfl, Or.inl ⟨rfl, c, m', rfl, Ok_skb h w3⟩⟩
    · have ec : constG (lex b N p).1 = (false, (lex b N p).1) := by
        unfold constG
        rw [if_neg (by rw [w1]; decide)]
      rw [w2, ec]
      refine ⟨_, rfl, Or.inr ⟨fun z => absurd z Bool.false_ne_true, Bad_t (Ev_at m (nI (skb b N p))) ⟨m', rfl, ?_⟩⟩⟩
      rw [hp_lex hN2 hpN]
      exact w3
    · have ec : constG (lex b N p).1 = (false, (lex b N p).1) := by
        unfold constG
        exact if_neg w1
      rw [w2, ec]
      exact ⟨_, rfl, Or.inr ⟨fun z => absurd z Bool.false_ne_true, Bad_s h rfl⟩⟩
