theorem leaf_RT {b : Nat → Int32} {N c E : Nat} {g : Nat → xNr} {ps : List Pc} (h : (g c).2.2 = (none, none, none, 0)) (hE : 1 ≤ E) (hl : LF b N ((g c).1, (g c).2.1) ps) : RT b N 1 g c (c + 1) c ps E := by
  refine RT_PT (cs := []) (PT_new (Nat.le_refl _) (by rw [h]) (by rw [h]) (by rw [h]) (fun x h1 h2 => absurd h2 (by omega))) (Or.inl ⟨rfl, hl⟩) ⟨hE, ?_, ?_, ?_, ?_, ?_, ?_, ?_⟩
  · intro _ c hc; cases hc
  · intro _ c hc; cases hc
  · intro _ c hc; cases hc
  · intro _ c hc; cases hc
  · intro _ c hc; cases hc
  · intro _ c hc; cases hc
  · intro _ c hc; cases hc
theorem lex_th {b : Nat → Int32} {N p q e : Nat} {k : Int32} {ps : List Pc} (hN2 : N ≤ 2000) (hpN : p ≤ N) (hq : skb b N p = q) (hqN : q < N) (ht : thing b N q = ([(k, q)], ps, true, e)) : (lex b N p).1 = (k, q) :: (lex b N e).1 ∧ (lex b N p).2 = ps ++ (lex b N e).2 ∧ q < e ∧ e ≤ N := by
  have tg := thing_go (b := b) hN2 hqN
  have y : (thing b N (skb b N p)).2.2.1 = true := by rw [hq, ht]
  rw [ht] at tg
  have e1 := lex_y hN2 hpN (by rw [hq]; exact hqN) y
  rw [hq, ht] at e1
  rw [e1]
  exact ⟨rfl, rfl, (tg.2.2.2.2 rfl).1, tg.2.2.2.1⟩
theorem lex_br {b : Nat → Int32} {N p q : Nat} (hN2 : N ≤ 2000) (hpN : p ≤ N) (hq : skb b N p = q) (hqN : q < N) (ht : thing b N q = ([], [], false, q)) : (lex b N p).1 = [(257, q)] := by
  have y : ¬ (thing b N (skb b N p)).2.2.1 = true := by rw [hq, ht]; exact Bool.false_ne_true
  have e1 := lex_n hN2 hpN (by rw [hq]; exact hqN) y
  rw [hq, ht] at e1
  rw [e1]
  rfl
/-- a leaf was read -/
theorem leaf_Ok {b : Nat → Int32} {N p c op q e E : Nat} {k : Int32} {Q : Int32 → Prop} {m m' : xMs} {ps : List Pc} (h : PS b N m p c op) (hq : skb b N p = q) (hqN : q < N) (ht : thing b N q = ([(k, q)], ps, true, e)) (ev : Ev m m') (h1 : m'.2.1.2.1 = nI e) (h2 : m'.2.1.2.2.2.1 = m.2.1.2.2.2.1) (h3 : NS m'.2.2.1 (c + 1)) (hE : 1 ≤ E) (hg : (gg m' c).2.2 = (none, none, none, 0)) (hl : LF b N ((gg m' c).1, (gg m' c).2.1) ps) (hQ : Q (gg m' c).1.1) (hf : ∀ x, x ≠ c → gg m' x = gg m x) : (lex b N p).1 = (k, q) :: (lex b N e).1 ∧ Ok b N Q E m p c op (lex b N p).1.tail c m' := by
  have hN2 := PS_N h
  have hpN := h.2.2.1
  have hcp := h.2.2.2.2.2.2.1
  have sg1 := skb_ge (b := b) (N := N) p
  obtain ⟨x1, x2, x3, x4⟩ := lex_th hN2 hpN hq hqN ht
  refine ⟨x1, e, c + 1, ps, 1, ev, PS_mk h ev h1 x4 (h2.trans h.2.2.2.1) h.2.2.2.2.1 h3 (by omega), by omega, by omega, by rw [x1]; rfl, x2, leaf_RT hg hE hl, by rw [hg], hQ, fun x hx => hf x (by omega)⟩
theorem Sr_Ev {m m' : xMs} {b : Nat → Int32} {N : Nat} (e : Ev m m') (h : Sr m b N) : Sr m' b N := by
  obtain ⟨e1, e2, e3, e4, e5⟩ := e
  exact ⟨by rw [e3]; exact h.1, by rw [e2, e4]; exact h.2⟩
-- numbers
theorem num_c {b : Nat → Int32} {N q c op : Nat} {m : xMs} (h : PS b N m q c op) (hd : ¬ sM_digit (xc b N q) = 0) : (∃ m' r v, FM_constant m = some (.inl (some c, m')) ∧ Ev m m' ∧ m'.2.1.2.1 = nI (nstp b N q) ∧ m'.2.1.2.2.2.1 = m.2.1.2.2.2.1 ∧ NS m'.2.2.1 (c + 1) ∧ gg m' c = nNumber (frs r 0) (nL v) ∧ v ≤ 900000000000000 ∧ thing b N q = ([(258, q)], prN v, true, nstp b N q) ∧ c < m'.2.2.1.2.2.2.2.1 ∧ ∀ x, x ≠ c → gg m' x = gg m x) ∨ (∃ m', FM_constant m = some (.inr (uoe, m')) ∧ Ex m m' q ∧ thing b N q = ([], [], false, q)) := by
  have hN2 := PS_N h
  have hpN := h.2.2.1
  obtain ⟨m1, r, e1, e2, e3, e4, e5, e6, e7⟩ := nodeS h 0
  obtain ⟨n1, n2, n3⟩ := num_pr hd
  have s1 : Sr m1 b N := Sr_Ev e2 h.1
  have t0 : thing b N q = numT b N q := by unfold thing; rw [if_neg hd]
  unfold FM_constant
  rw [FM_peek_n h.1 h.2.1 (by omega), Option.bind_some, if_neg hd, e1, Option.bind_some]
  show (∃ m' r v, (xo_b (FM_digits m1) fun r227 => if c < r227.2.2.2.1.2.2.2.2.1 then _ else none) = _ ∧ _) ∨ (∃ m', (xo_b (FM_digits m1) fun r227 => if c < r227.2.2.2.1.2.2.2.2.1 then _ else none) = _ ∧ _)
  rw [digits_n s1 (by rw [e3]; exact h.2.1) hd]
  unfold fin
  by_cases z : 900000000000000 < nV b N q
  · have z2 := n2.mp z
    refine Or.inr ⟨_, by rw [if_pos z]; rfl, ⟨setAt m1 (nI (nstp b N q)), c + 1, Ev_t e2 (Ev_at _ _), e4, rfl⟩, ?_⟩
    rw [t0]
    unfold numT
    rw [if_pos z2]
  · have z2 : ¬ (90000000000 < nvl b N q ∨ (nvl b N q = 90000000000 ∧ nws b N q < nto b N q)) := fun y => z (n2.mpr y)
    refine Or.inl ⟨setG (setAt m1 (nI (nstp b N q))) (va_up (gg m1) c (nNumber (gg m1 c) (nL (nV b N q)))), r, nV b N q, ?_, Ev_t (Ev_t e2 (Ev_at _ _)) (Ev_G _ _), rfl, ?_, e4, ?_, by omega, ?_, e5, fun x hx => ?_⟩
    · rw [if_neg z]
      show (if c < m1.2.2.1.2.2.2.2.1 then _ else none) = _
      rw [if_pos e5]
      rfl
    · show m1.2.1.2.2.2.1 = _
      rw [e3]
    · show va_up (gg m1) c _ c = _
      rw [va_up_self, e6]
    · rw [t0, n1]
      unfold numT
      rw [if_neg z2]
    · show va_up (gg m1) c _ x = _
      rw [va_up_ne _ _ hx, e7 x hx]
-- texts
theorem tqf_in {b : Nat → Int32} {N : Nat} : ∀ (f i e : Nat), tqf b N f i = some e → i < e ∧ e ≤ N ∧ xc b N (e - 1) = 34 ∧ ∀ j, i ≤ j → j < e - 1 → ¬ xc b N j < 32 ∧ ¬ 126 < xc b N j
  | 0, i, e, h => by cases h
  | f + 1, i, e, h => by
    have le := tqs_le (f + 1) i e h
    have h : (if xc b N i < 32 ∨ 126 < xc b N i then none else if xc b N i = 34 then (if xc b N (i + 1) = 34 then tqf b N f (i + 2) else some (i + 1)) else tqf b N f (i + 1)) = some e := h
    by_cases z : xc b N i < 32 ∨ 126 < xc b N i
    · rw [if_pos z] at h; cases h
    · rw [if_neg z] at h
      have zi : ¬ xc b N i < 32 ∧ ¬ 126 < xc b N i := ⟨fun y => z (Or.inl y), fun y => z (Or.inr y)⟩
      by_cases q : xc b N i = 34
      · rw [if_pos q] at h
        by_cases q2 : xc b N (i + 1) = 34
        · rw [if_pos q2] at h
          obtain ⟨a1, a2, a3, a4⟩ := tqf_in f (i + 2) e h
          refine ⟨by omega, a2, a3, fun j h1 h2 => ?_⟩
          by_cases y : j = i
          · rw [y]; exact zi
          · by_cases y2 : j = i + 1
            · rw [y2, q2]; decide
            · exact a4 j (by omega) h2
        · rw [if_neg q2] at h
          have h : i + 1 = e := Option.some.inj h
          subst h
          exact ⟨by omega, le.2, q, fun j h1 h2 => by omega⟩
      · rw [if_neg q] at h
        obtain ⟨a1, a2, a3, a4⟩ := tqf_in f (i + 1) e h
        refine ⟨by omega, a2, a3, fun j h1 h2 => ?_⟩
        by_cases y : j = i
        · rw [y]; exact zi
        · exact a4 j (by omega) h2
theorem quo29 {b : Nat → Int32} {N q l1 : Nat} : ∀ (fu i : Nat) {m : xMs}, Sr m b N → m.2.1.2.1 = nI i → i < 5000 → N + 1 ≤ fu + i → 1 ≤ fu → l1 < m.2.2.1.2.2.2.2.1 → (∃ e, tqs b N i = some e ∧ FM_quoted_29 fu l1 (nI q) m = some (.inl (l1, setG (setAt m (nI e)) (va_up (gg m) l1 (nB (gg m l1) (nI (e - 1) - (gg m l1).1.2.1)))))) ∨ (tqs b N i = none ∧ ∃ e', FM_quoted_29 fu l1 (nI q) m = some (.inr (uoe, bd (setAt m (nI e')) (nI q)))) := by
  intro fu
  induction fu with
  | zero => intro i m _ _ _ _ h; omega
  | succ fu ih =>
    intro i m h hi hi5 hf _ hl
    have hN2 := Sr_N h
    have em : setAt m (nI i) = m := setAt_id hi
    rw [FM_quoted_29, FM_peek_n h hi (by omega), Option.bind_some, tqs_eq]
    by_cases z : xc b N i < 32
    · refine Or.inr ⟨by rw [if_pos (Or.inl z)], i, ?_⟩
      rw [if_pos z, em]
      rfl
    · have hiN := c_out z
      rw [if_neg z]
      by_cases z2 : 126 < xc b N i
      · refine Or.inr ⟨by rw [if_pos (Or.inr z2)], i, ?_⟩
        rw [if_neg (Int32.not_le.mpr z2), em]
        rfl
      · rw [if_pos (Int32.not_lt.mp z2), if_neg (fun y => by rcases y with y | y; exact z y; exact z2 y)]
        have st : ∀ k : Nat, (m.1, (m.2.1.1, (m.2.1.2.1 + nI k), m.2.1.2.2), m.2.2) = setAt m (nI (i + k)) := fun k => by
          show setAt m (m.2.1.2.1 + nI k) = _
          rw [hi, l_add]
        by_cases y : xc b N i = 34
        · rw [if_pos y, if_pos y, show FM_look 1 m = _ from FM_look_n (k := 1) h hi (by omega), Option.bind_some]
          by_cases y2 : xc b N (i + 1) = 34
          · have hi1 := xc_in y2 (by decide)
            rw [if_pos y2, if_pos y2, if_pos y, show (2 : Int32) = nI 2 from rfl, st 2]
            exact ih (i + 2) (m := setAt m (nI (i + 2))) (Sr_at h) rfl (by omega) (by omega) (by omega) hl
          · rw [if_neg y2, if_neg y2, if_pos hl]
            refine Or.inl ⟨i + 1, rfl, ?_⟩
            rw [hi, mI_s]
            rfl
        · rw [if_neg y, if_neg y, if_neg y, show (1 : Int32) = nI 1 from rfl, st 1]
          exact ih (i + 1) (m := setAt m (nI (i + 1))) (Sr_at h) rfl (by omega) (by omega) (by omega) hl
theorem txt_c {b : Nat → Int32} {N q c op : Nat} {m : xMs} (h : PS b N m q c op) (hd : xc b N q = 34) : (∃ m' r n, FM_constant m = some (.inl (some c, m')) ∧ Ev m m' ∧ m'.2.1.2.1 = nI (q + n + 2) ∧ m'.2.1.2.2.2.1 = m.2.1.2.2.2.1 ∧ NS m'.2.2.1 (c + 1) ∧ gg m' c = nB (nA (frs r 1) (nI (q + 1))) (nI n) ∧ LF b N (((1 : Int32), nI (q + 1), nI n, (0 : Int64)), r.2.1) (byt b N q (n + 2)) ∧ thing b N q = ([(259, q)], byt b N q (n + 2), true, q + n + 2) ∧ ∀ x, x ≠ c → gg m' x = gg m x) ∨ (∃ m', FM_constant m = some (.inr (uoe, m')) ∧ Ex m m' q ∧ thing b N q = ([], [], false, q)) := by
  have hN2 := PS_N h
  have hqN := xc_in hd (by decide)
  obtain ⟨m1, r, e1, e2, e3, e4, e5, e6, e7⟩ := nodeS h 1
  have nd : sM_digit (xc b N q) = 0 := by rw [hd]; decide
  have t0 : thing b N q = txtT b N q := by unfold thing; rw [if_pos nd, if_pos hd]
  unfold FM_constant FM_quoted
  rw [FM_peek_n h.1 h.2.1 (by omega), Option.bind_some, if_pos nd, if_pos hd, e1, Option.bind_some]
  have ea : m1.2.1.2.1 = nI q := by rw [e3]; exact h.2.1
  show (∃ m' r n, (xo_b (if c < m1.2.2.1.2.2.2.2.1 then FM_quoted_29 xFuel c m1.2.1.2.1 (setG (setAt m1 (m1.2.1.2.1 + 1)) (va_up (gg m1) c (nA (gg m1 c) (m1.2.1.2.1 + 1)))) else none) fun r221 => some (.inl ((some r221.1), r221.2))) = _ ∧ _) ∨ (∃ m', (xo_b (if c < m1.2.2.1.2.2.2.2.1 then FM_quoted_29 xFuel c m1.2.1.2.1 (setG (setAt m1 (m1.2.1.2.1 + 1)) (va_up (gg m1) c (nA (gg m1 c) (m1.2.1.2.1 + 1)))) else none) fun r221 => some (.inl ((some r221.1), r221.2))) = _ ∧ _)
  rw [ea, mI_s, if_pos e5]
  have s2 : Sr (setG (setAt m1 (nI (q + 1))) (va_up (gg m1) c (nA (gg m1 c) (nI (q + 1))))) b N := Sr_Ev (Ev_t (Ev_t e2 (Ev_at _ _)) (Ev_G _ _)) h.1
  rcases quo29 (q := q) (l1 := c) xFuel (q + 1) s2 rfl (by omega) (by show _ ≤ 5000 + _; omega) (by decide) e5 with ⟨e, w1, w2⟩ | ⟨w1, e', w2⟩
  · obtain ⟨a1, a2, a3, a4⟩ := tqf_in _ _ _ w1
    have ge1 : q + 2 ≤ e := by omega
    obtain ⟨n, rfl⟩ : ∃ n, e = q + n + 2 := ⟨e - q - 2, by omega⟩
    rw [w2]
    refine Or.inl ⟨_, r, n, rfl, Ev_t (Ev_t (Ev_t e2 (Ev_at _ _)) (Ev_G _ _)) (Ev_t (Ev_at _ _) (Ev_G _ _)), rfl, by show m1.2.1.2.2.2.1 = _; rw [e3], e4, ?_, ?_, ?_, fun x hx => ?_⟩
    · show va_up _ c _ c = _
      rw [va_up_self]
      show nB (va_up (gg m1) c _ c) (nI (q + n + 2 - 1) - (va_up (gg m1) c _ c).1.2.1) = _
      rw [va_up_self, e6]
      show nB (nA (frs r 1) (nI (q + 1))) (nI (q + n + 2 - 1) - nI (q + 1)) = _
      rw [mI_sub (by omega), show q + n + 2 - 1 - (q + 1) = n by omega]
    · refine Or.inr (Or.inl ⟨rfl, q, n, by omega, rfl, rfl, hd, ?_, fun i hi => ?_, rfl⟩)
      · rw [show q + n + 1 = q + n + 2 - 1 by omega]; exact a3
      · exact a4 (q + 1 + i) (by omega) (by omega)
    · rw [t0]
      unfold txtT
      rw [w1]
      show ([((259 : Int32), q)], byt b N q (q + n + 2 - q), true, q + n + 2) = _
      rw [show q + n + 2 - q = n + 2 by omega]
    · show va_up _ c _ x = _
      rw [va_up_ne _ _ hx]
      show va_up (gg m1) c _ x = _
      rw [va_up_ne _ _ hx, e7 x hx]
  · rw [w2]
    refine Or.inr ⟨_, rfl, ⟨setAt (setG (setAt m1 (nI (q + 1))) (va_up (gg m1) c (nA (gg m1 c) (nI (q + 1))))) (nI e'), c + 1, Ev_t (Ev_t (Ev_t e2 (Ev_at _ _)) (Ev_G _ _)) (Ev_at _ _), e4, rfl⟩, ?_⟩
    rw [t0]
    unfold txtT
    rw [w1]
