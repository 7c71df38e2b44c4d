theorem k262 {b : Nat → Int32} {N q : Nat} (hN2 : N ≤ 2000) (hqN : q ≤ N) (hq : skb b N q = q) (h : hk (lex b N q).1 = 262) : isCell b N q := by
  rw [hk_lex hN2 hqN, hq] at h
  by_cases lt : q < N
  · rw [if_pos lt] at h
    unfold thing at h
    by_cases d : sM_digit (xc b N q) = 0
    · rw [if_pos d] at h
      by_cases d34 : xc b N q = 34
      · rw [if_pos d34] at h
        unfold txtT at h
        cases ht : tqs b N (q + 1) with
        | none => rw [ht] at h; exact absurd (show (257 : Int32) = 262 from h) (by decide)
        | some z => rw [ht] at h; exact absurd (show (259 : Int32) = 262 from h) (by decide)
      · rw [if_neg d34] at h
        by_cases d35 : xc b N q = 35
        · rw [if_pos d35] at h
          unfold errT at h
          cases ht : erf b N q 4 4 with
          | none => rw [ht] at h; exact absurd (show (257 : Int32) = 262 from h) (by decide)
          | some z => rw [ht] at h; exact absurd (show (260 : Int32) = 262 from h) (by decide)
        · rw [if_neg d35] at h
          by_cases h4 : isCell b N q
          · exact h4
          · rw [if_neg h4] at h
            by_cases h5 : sM_letter (xc b N q) = 0
            · rw [if_pos h5] at h
              unfold mrkT at h
              by_cases y : 0 ≤ xk_ix 14 (xg_c (xc b N q))
              · rw [if_pos y] at h
                have h : xc b N q = 262 := h
                obtain ⟨n, n1, n2⟩ := xc_n (b := b) lt
                rw [n2] at h
                have := mI_inj (b := 262) (by omega) (by decide) h
                omega
              · rw [if_neg y] at h; exact absurd (show (257 : Int32) = 262 from h) (by decide)
            · rw [if_neg h5] at h
              unfold namT at h
              by_cases y : nst b N q - q ≤ 12
              · rw [if_pos y] at h
                have h : nmk b N q (nst b N q - q) = 262 := h
                unfold nmk at h
                by_cases w : hof b N q (nst b N q - q) (xk_by 16) [] = true
                · rw [if_pos w] at h; exact absurd h (by decide)
                · rw [if_neg w] at h
                  have al := ari_lt (b := b) (N := N) (q := q) (n := nst b N q - q)
                  have := mI_inj (b := 262) (by omega) (by decide) h
                  omega
              · rw [if_neg y] at h; exact absurd (show (257 : Int32) = 262 from h) (by decide)
    · rw [if_neg d] at h
      unfold numT at h
      by_cases z : 90000000000 < nvl b N q ∨ (nvl b N q = 90000000000 ∧ nws b N q < nto b N q)
      · rw [if_pos z] at h; exact absurd (show (257 : Int32) = 262 from h) (by decide)
      · rw [if_neg z] at h; exact absurd (show (258 : Int32) = 262 from h) (by decide)
  · rw [if_neg lt] at h; exact absurd h (by decide)
/-- TRUE or FALSE stands at q -/
theorem k261 {b : Nat → Int32} {N q : Nat} (hN2 : N ≤ 2000) (hqN : q ≤ N) (hq : skb b N q = q) (h1 : ¬ sM_letter (xc b N q) = 0) (h2 : ¬ isCell b N q) (h3 : nst b N q - q ≤ 12) (h4 : hof b N q (nst b N q - q) (xk_by 16) [] = true) : hk (lex b N q).1 = 261 := by
  obtain ⟨l1, l2, l3, l4, l5⟩ := lt_not h1
  rw [hk_lex hN2 hqN, hq, if_pos (xc_in rfl l4)]
  unfold thing
  rw [if_pos l1, if_neg l2, if_neg l3, if_neg h2, if_neg h1]
  unfold namT nmk
  rw [if_pos h3, if_pos h4]
  rfl
theorem Ok_w {b : Nat → Int32} {N E E' p c op i : Nat} {Q Q' : Int32 → Prop} {m m' : xMs} {rest : List Tk} (h : Ok b N Q E m p c op rest i m') (hQ : ∀ k, Q k → Q' k) (hE : E ≤ E') : Ok b N Q' E' m p c op rest i m' := by
  obtain ⟨p', c', ps, k, y1, y2, y3, y4, y5, y6, y7, y8, y9, y10⟩ := h
  exact ⟨p', c', ps, k, y1, y2, y3, y4, y5, y6, RT_e y7 hE, y8, hQ _ y9, y10⟩
theorem Res_skb {b : Nat → Int32} {N E E' p c op : Nat} {Q Q' : Int32 → Prop} {m : xMs} {R : Rs} {out : xo Nat xMs} (h : PS b N m p c op) (hQ : ∀ k, Q k → Q' k) (hE : R.1 = true → E ≤ E') (hr : Res (∃ i m', out = .inl (i, m') ∧ Ok b N Q E (setAt m (nI (skb b N p))) (skb b N p) c op R.2 i m') (setAt m (nI (skb b N p))) R out) : Res (∃ i m', out = .inl (i, m') ∧ Ok b N Q' E' m p c op R.2 i m') m R out := by
  rcases hr with ⟨v1, i, m', v2, v3⟩ | ⟨v1, v2⟩
  · exact Or.inl ⟨v1, i, m', v2, Ok_w (Ok_skb h v3) hQ (hE v1)⟩
  · exact Or.inr ⟨v1, Bad_t (Ev_at _ _) v2⟩
section AT
variable {b : Nat → Int32} {N op E EX : Nat} {p0 : xTP} {Eg : List Tk → Rs} {can : Bool}
theorem atom_no {ts : List Tk} (h1 : ¬ hk ts = 40) (h2 : ¬ hk ts = 123) (h3 : hk ts < 263) (h4 : ¬ hk ts = 262) : atomG can Eg ts = constG ts := by
  unfold atomG
  rw [if_neg h1, if_neg h2, if_pos h3, if_neg h4]
theorem paren_n {q c : Nat} {m : xMs} (hcan : can = decide (op < 12)) (hE : op < 12 → EX + 3 ≤ E) (hC : op < 12 → Prs b N (fun _ => True) EX (op + 1) p0.1 Eg) (h : PS b N m q c op) (hq : skb b N q = q) (h40 : xc b N q = 40) : ∃ out, ((FM_node 7 m).bind fun r887 => xo_b (FM_open r887.2) fun r890 => xo_b (p0.1 r890.2) fun r893 => if r887.1 < r893.2.2.2.1.2.2.2.2.1 then ((FN_add r887.1 r893.1 r893.2).bind fun r897 => xo_b (FM_close 41 r897) fun r900 => some (.inl (r887.1, r900.2))) else none) = some out ∧ Res (∃ i m', out = .inl (i, m') ∧ Ok b N notSign E m q c op (atomG can Eg (lex b N q).1).2 i m') m (atomG can Eg (lex b N q).1) out := by
  have hN2 := PS_N h
  have hqN := h.2.2.1
  have hcp := h.2.2.2.2.2.2.1
  obtain ⟨m1, r, e1, e2, e3, e4, e5, e6, e7⟩ := nodeS h 7
  have h40' : xc b N (skb b N q) = 40 := by rw [hq]; exact h40
  have hk40 := (mk_iff (b := b) hN2 hqN (mk_of (c := 40) (by decide))).mpr h40'
  obtain ⟨x1, x2, x3, x4⟩ := mk_lex hN2 hqN (mk_of (c := 40) (by decide)) h40'
  rw [mk1 h40' (by decide) (by decide), hq] at x1 x2 x4
  rw [byt1 h40] at x2
  have et : (lex b N q).1.tail = (lex b N (q + 1)).1 := by rw [x1]; rfl
  have ea : atomG can Eg (lex b N q).1 = if can = true then cl41 (Eg (lex b N (q + 1)).1) else (false, (lex b N q).1) := by
    unfold atomG
    rw [if_pos hk40, et]
    rfl
  rw [e1, Option.bind_some, ea]
  show ∃ out, (xo_b (FM_open m1) fun r890 => xo_b (p0.1 r890.2) fun r893 => if c < r893.2.2.2.1.2.2.2.2.1 then ((FN_add c r893.1 r893.2).bind fun r897 => xo_b (FM_close 41 r897) fun r900 => some (.inl (c, r900.2))) else none) = some out ∧ _
  rw [open_n (m := m1) (p := q) (op := op) (by rw [e3]; exact h.2.1) (by rw [e3]; exact h.2.2.2.1) h.2.2.2.2.1]
  by_cases o12 : op = 12
  · have cf : ¬ can = true := by rw [hcan, decide_eq_false (by omega)]; exact Bool.false_ne_true
    rw [if_pos o12, if_neg cf]
    exact ⟨_, rfl, Or.inr ⟨fun z => absurd z Bool.false_ne_true, _, rfl, _, c + 1, e2, e4, by rw [hp_lex hN2 hqN, hq]⟩⟩
  · have ol : op < 12 := by have := h.2.2.2.2.1; omega
    have hE := hE ol
    have ct : can = true := by rw [hcan]; exact decide_eq_true ol
    rw [if_neg o12, xo_inl, if_pos ct]
    have ev3 : Ev m (setO m1 (nI (q + 1)) (nI (op + 1))) := Ev_t e2 (Ev_O _ _ _)
    have h3 : PS b N (setO m1 (nI (q + 1)) (nI (op + 1))) (q + 1) (c + 1) (op + 1) := PS_mk h ev3 rfl x4 rfl (by omega) e4 (by omega)
    have hP3 : PT b N 0 (gg (setO m1 (nI (q + 1)) (nI (op + 1)))) c (c + 1) c [] := by
      show PT b N 0 (gg m1) c (c + 1) c []
      refine PT_new (Nat.le_refl c) ?_ ?_ ?_ (fun x hx1 hx2 => by omega)
      · rw [e6]; rfl
      · rw [e6]; rfl
      · rw [e6]; rfl
    have as := arg_step (i := c) (hC ol) (fun r897 => xo_b (FM_close 41 r897) fun r900 => some (.inl (c, r900.2))) h3 hP3 (Nat.zero_le _)
    rcases as with ⟨out, w1, w2, w3⟩ | ⟨m', p', c', ps, k', j, w1, w2, w3, w4, w5, w6, w7, w8, w9, w10, w11, w12⟩
    · rw [bad41r w2]
      exact ⟨out, w1, Or.inr ⟨fun z => absurd z Bool.false_ne_true, Bad_t ev3 w3⟩⟩
    · have hpN' := w4.2.2.1
      have hcp' := w4.2.2.2.2.2.2.1
      have sg3 := skb_ge (b := b) (N := N) p'
      have mj := mk_iff (b := b) hN2 hpN' (mk_of (c := 41) (by decide))
      have ecl : cl41 (Eg (lex b N (q + 1)).1) = tkk 41 (lex b N p').1 := by unfold cl41; rw [if_pos w2, w7]
      have gk : (gg m' c).1.1 = 7 := by
        rw [w10]
        show (gg m1 c).1.1 = 7
        rw [e6]; rfl
      have gn : (gg m' c).2.2.2.2.1 = none := by
        rw [w11]
        show (gg m1 c).2.2.2.2.1 = none
        rw [e6]; rfl
      refine ex_tr w1 ?_
      show ∃ out, (xo_b (FM_close 41 m') fun r900 => some (.inl (c, r900.2))) = some out ∧ _
      rw [closeS w4, ecl]
      unfold tkk
      by_cases y : xc b N (skb b N p') = 41
      · obtain ⟨u1, u2, u3, u4⟩ := mk_lex hN2 hpN' (mk_of (c := 41) (by decide)) y
        rw [mk1 y (by decide) (by decide)] at u1 u2 u4
        rw [byt1 y] at u2
        have et2 : (lex b N p').1.tail = (lex b N (skb b N p' + 1)).1 := by rw [u1]; rfl
        rw [if_pos y, if_pos (mj.mpr y), et2]
        refine ⟨_, rfl, Or.inl ⟨rfl, c, _, rfl, skb b N p' + 1, c', .inl 40 :: (ps ++ [.inl 41]), k' + 1, Ev_t ev3 (Ev_t w3 (Ev_O _ _ _)), PS_O w4 (by omega) u4 (by omega), by omega, by omega, rfl, ?_, ?_, gn, ?_, fun x hx => (w12 x hx).trans (e7 x (by omega))⟩⟩
        · rw [x2, w8, u2]
          simp only [List.append_assoc, List.cons_append, List.nil_append]
        · show RT b N (k' + 1) (gg m') c c' c _ E
          refine RT_PT w9 (Or.inr (Or.inl ⟨gk, ps, rfl, rfl⟩)) ?_
          rw [gk]
          refine ⟨by omega, fun _ d hd => ?_, fun z => absurd z (by decide), fun z => absurd z (by decide), fun z => absurd z (by decide), fun z => absurd z (by decide), fun z => absurd z (by decide), fun z => absurd z (by decide)⟩
          rw [List.mem_singleton.mp hd]
          show EX + 2 ≤ E
          omega
        · show notSign (gg m' c).1.1
          rw [gk]
          exact ⟨by decide, by decide⟩
      · have nq2 : ¬ hk (lex b N p').1 = 41 := fun z => y (mj.mp z)
        rw [if_neg y, if_neg nq2]
        exact ⟨_, rfl, Or.inr ⟨fun z => absurd z Bool.false_ne_true, Bad_t (Ev_t ev3 w3) (Bad_s w4 rfl)⟩⟩
theorem a157 {q n e c : Nat} {m : xMs} (hFc : Fc m.2.2.2.2.2.2.2.2) (hc : c < m.2.2.1.2.2.2.2.1) (hn : n ≤ 12) (hp : ∀ i, q ≤ i → i < q + n → ¬ sP_isNamePart (xc b N i) = 0) (hnum : (gg m c).1.2.2.2 = nL (cdW (sgl b N q n))) : ∀ (k fu f : Nat), f + k = 39 → k < fu → (∀ g, g < f → ¬ isF b N q n g) → (∃ g, g < 39 ∧ isF b N q n g ∧ FM_atom_157 p0 fu c (nI e) (nI f) m = xo_b (p0.2.2.2.2.2.2.2.1 (nI g) m) fun r856 => some (.inl (r856.1, r856.2))) ∨ ((∀ g, g < 39 → ¬ isF b N q n g) ∧ FM_atom_157 p0 fu c (nI e) (nI f) m = some (.inl (c, setAt m (nI e)))) := by
  intro k
  induction k with
  | zero =>
    intro fu f hf hfu hno
    obtain ⟨fu, rfl⟩ : ∃ g, fu = g + 1 := ⟨fu - 1, by omega⟩
    obtain rfl : f = 39 := by omega
    rw [FM_atom_157, if_pos (show (39 : Int32) ≤ nI 39 by decide)]
    exact Or.inr ⟨hno, rfl⟩
  | succ k ih =>
    intro fu f hf hfu hno
    obtain ⟨fu, rfl⟩ : ∃ g, fu = g + 1 := ⟨fu - 1, by omega⟩
    have n39 : ¬ (39 : Int32) ≤ nI f := fun z => by have := (mI_le (a := 39) (by decide) (by omega)).mp z; omega
    have g39 : 0 ≤ nI f ∧ nI f < nI 39 := ⟨mI_nn (by omega), (mI_lt (by omega) (by decide)).mpr (by omega)⟩
    have hnum2 : (m.2.2.1.2.2.2.2.2.1 c).1.2.2.2 = nL (cdW (sgl b N q n)) := hnum
    rw [FM_atom_157, if_neg n39, if_pos g39, if_pos hc, mI_cl (by omega), hFc f (by omega), hnum2]
    by_cases z : lg_cmp (nL (fcd f)) (nL (cdW (sgl b N q n))) = 0
    · rw [if_pos z]
      exact Or.inl ⟨f, by omega, (fun_iff (by omega) hn hp).mp z, rfl⟩
    · rw [if_neg z, mI_s]
      exact ih fu (f + 1) (by omega) (by omega) (fun g hg => by
        by_cases y : g = f
        · rw [y]; exact fun w => z ((fun_iff (by omega) hn hp).mpr w)
        · exact hno g (by omega))
theorem Res_ev {b : Nat → Int32} {N E p c op : Nat} {Q : Int32 → Prop} {m m1 : xMs} {R : Rs} {out : xo Nat xMs} (ev : Ev m m1) (hg : ∀ x, x < c → gg m1 x = gg m x) (hr : Res (∃ i m', out = .inl (i, m') ∧ Ok b N Q E m1 p c op R.2 i m') m1 R out) : Res (∃ i m', out = .inl (i, m') ∧ Ok b N Q E m p c op R.2 i m') m R out := by
  rcases hr with ⟨v1, i, m', v2, p', c', ps, k, y1, y2, y3, y4, y5, y6, y7, y8, y9, y10⟩ | ⟨v1, v2⟩
  · exact Or.inl ⟨v1, i, m', v2, p', c', ps, k, Ev_t ev y1, y2, y3, y4, y5, y6, y7, y8, y9, fun x hx => (y10 x hx).trans (hg x hx)⟩
  · exact Or.inr ⟨v1, Bad_t ev v2⟩
theorem xo_id {α : Type} (out : xo α xMs) : (xo_b (some out) fun r => some (.inl (r.1, r.2))) = some out := by
  cases out <;> rfl
theorem word_n {q c : Nat} {m : xMs} (hE1 : 1 ≤ E) (hF : ∀ {f lo q c : Nat} {m : xMs}, f < 39 → PS b N m q c op → skb b N q = q → xc b N q = 40 → lo ≤ c → (∀ x, lo ≤ x → x < c → notRef (gg m x)) → ∃ out, p0.2.2.2.2.2.2.2.1 (nI f) m = some out ∧ Res (FOf b N op E f lo m q c (callG can Eg (af f) (lex b N q).1).2 out) m (callG can Eg (af f) (lex b N q).1) out) (h : PS b N m q c op) (hq : skb b N q = q) (hw : isWd b N q) : ∃ out, ((FM_node 6 m).bind fun r860 => (FM_wordOf (nI (nst b N q - q)) r860.2).bind fun r863 => if r860.1 < r860.2.2.2.1.2.2.2.2.1 then ((FM_next 40 (r860.2.1, (r860.2.2.1.1, (r860.2.2.1.2.1 + nI (nst b N q - q)), r860.2.2.1.2.2), (r860.2.2.2.1.1, r860.2.2.2.1.2.1, r860.2.2.2.1.2.2.1, r860.2.2.2.1.2.2.2.1, r860.2.2.2.1.2.2.2.2.1, (va_up r860.2.2.2.1.2.2.2.2.2.1 r860.1 (nNumber (r860.2.2.2.1.2.2.2.2.2.1 r860.1) r863)), r860.2.2.2.1.2.2.2.2.2.2), r860.2.2.2.2)).bind fun r865 => if r865.1 = true then (FM_atom_157 p0 xFuel r860.1 (r860.2.2.1.2.1 + nI (nst b N q - q)) 0 r865.2) else (some (.inl (r860.1, (r865.2.1, (r865.2.2.1.1, (r860.2.2.1.2.1 + nI (nst b N q - q)), r865.2.2.1.2.2), r865.2.2.2))))) else none) = some out ∧ Res (∃ i m', out = .inl (i, m') ∧ Ok b N notSign E m q c op (nameG can Eg (lex b N q).1).2 i m') m (nameG can Eg (lex b N q).1) out := by
  have hN2 := PS_N h
  have hqN := h.2.2.1
  have hcp := h.2.2.2.2.2.2.1
  obtain ⟨m1, e1, e2, e3, e4, e5, e6, e7, e8, e9⟩ := wdN h hw
  obtain ⟨t1, t2, t3, t4⟩ := wd_th hw
  obtain ⟨w1, w2⟩ := wd_k hN2 hqN hq hw
  have nle := nst_le (b := b) (N := N) q hqN
  obtain ⟨x1, x2, x3, x4⟩ := lex_th hN2 hqN hq t2 t1
  have at1 : m1.2.1.2.1 = nI q := by rw [e4]; exact h.2.1
  have at2 : nI q + nI (nst b N q - q) = nI (nst b N q) := by rw [l_add, Nat.add_sub_cancel' (Nat.le_of_lt t3)]
  have hS1 : Sr m1 b N := Sr_Ev e3 h.1
  rw [e1, Option.bind_some]
  show ∃ out, ((FM_wordOf (nI (nst b N q - q)) m1).bind fun r863 => if c < m1.2.2.1.2.2.2.2.1 then ((FM_next 40 (m1.1, (m1.2.1.1, (m1.2.1.2.1 + nI (nst b N q - q)), m1.2.1.2.2), (m1.2.2.1.1, m1.2.2.1.2.1, m1.2.2.1.2.2.1, m1.2.2.1.2.2.2.1, m1.2.2.1.2.2.2.2.1, (va_up m1.2.2.1.2.2.2.2.2.1 c (nNumber (m1.2.2.1.2.2.2.2.2.1 c) r863)), m1.2.2.1.2.2.2.2.2.2), m1.2.2.2)).bind fun r865 => if r865.1 = true then (FM_atom_157 p0 xFuel c (m1.2.1.2.1 + nI (nst b N q - q)) 0 r865.2) else (some (.inl (c, (r865.2.1, (r865.2.2.1.1, (m1.2.1.2.1 + nI (nst b N q - q)), r865.2.2.1.2.2), r865.2.2.2))))) else none) = some out ∧ _
  rw [wordOf_n hS1 at1 (by omega) wd_np, Option.bind_some, if_pos e2, at1, at2]
  generalize hM : setAt (setG m1 (va_up (gg m1) c (nNumber (gg m1 c) (nL (wcd b N q))))) (nI (nst b N q)) = M2
  have ev2 : Ev m M2 := by rw [← hM]; exact Ev_t e3 (Ev_t (Ev_G _ _) (Ev_at _ _))
  have g2 : gg M2 = va_up (gg m1) c (nNumber (gg m1 c) (nL (wcd b N q))) := by rw [← hM]; rfl
  have h2 : PS b N M2 (nst b N q) (c + 1) op := by
    refine PS_mk h ev2 (by rw [← hM]; rfl) nle ?_ h.2.2.2.2.1 (by rw [← hM]; exact e5) (by omega)
    rw [← hM]
    show m1.2.1.2.2.2.1 = _
    rw [e4]; exact h.2.2.2.1
  have al2 : c < M2.2.2.1.2.2.2.2.1 := by rw [← hM]; exact e2
  show ∃ out, ((FM_next 40 (setAt (setG m1 (va_up (gg m1) c (nNumber (gg m1 c) (nL (wcd b N q))))) (nI (nst b N q)))).bind fun r865 => if r865.1 = true then (FM_atom_157 p0 xFuel c (nI (nst b N q)) 0 r865.2) else (some (.inl (c, setAt r865.2 (nI (nst b N q)))))) = some out ∧ _
  rw [hM, nx_at h2, Option.bind_some]
  have et : (lex b N q).1.tail = (lex b N (nst b N q)).1 := by rw [x1]; rfl
  have okw : Ok b N notSign E m q c op (lex b N (nst b N q)).1 c M2 := by
    refine ⟨nst b N q, c + 1, byt b N q (nst b N q - q), 1, ev2, h2, t3, by omega, rfl, x2, ?_, ?_, ?_, fun x hx => ?_⟩
    · rw [g2]; exact RT_e e7 hE1
    · rw [g2, va_up_self]; exact e8
    · rw [g2, va_up_self, e9]; exact ⟨by decide, by decide⟩
    · rw [g2, va_up_ne _ _ (by omega)]; exact e6 x (by omega)
  have sg2 := skb_ge (b := b) (N := N) (nst b N q)
  have mj := mk_iff (b := b) hN2 nle (mk_of (c := 40) (by decide))
  have back : setAt (setAt M2 (nI (skb b N (nst b N q)))) (nI (nst b N q)) = M2 := by rw [setAt_at]; exact setAt_id h2.2.1
  by_cases y : xc b N (skb b N (nst b N q)) = 40
  · rw [if_pos (show (decide (xc b N (skb b N (nst b N q)) = 40)) = true from decide_eq_true y)]
    have h3 : PS b N (setAt M2 (nI (skb b N (nst b N q)))) (skb b N (nst b N q)) (c + 1) op := PS_at h2 (by omega) (skb_le _ nle)
    have hnum : (gg (setAt M2 (nI (skb b N (nst b N q)))) c).1.2.2.2 = nL (cdW (sgl b N q (nst b N q - q))) := by
      show (gg M2 c).1.2.2.2 = _
      rw [g2, va_up_self]; rfl
    rcases a157 (p0 := p0) (e := nst b N q) (m := setAt M2 (nI (skb b N (nst b N q)))) (c := c) h3.2.2.2.2.2.2.2 al2 hw.2.2.1 wd_np hnum 39 xFuel 0 rfl (by decide) (fun g hg => by omega) with ⟨g, g1, g2', g3⟩ | ⟨g1, g3⟩
    · have ar := ari_s g1 g2'
      have a9 := (af_t g g1).1
      have n9 : ¬ ark (hk (lex b N q).1) = 9 := by rw [w2, ar]; omega
      have eR : nameG can Eg (lex b N q).1 = callG can Eg (af g) (lex b N (skb b N (nst b N q))).1 := by
        unfold nameG
        rw [if_neg n9, et, if_pos (mj.mpr y), w2, ar, lex_skb hN2 nle]
      obtain ⟨out, u1, u2⟩ := hF (lo := c) g1 h3 skb_skb y (Nat.le_succ c) (fun x hx1 hx2 => by
        have : x = c := by omega
        rw [this]
        show notRef (gg M2 c)
        rw [g2, va_up_self]
        unfold notRef
        rw [e9]
        exact fun z => by rcases z with z | z <;> exact absurd z (by decide))
      rw [eR]
      refine ex_tr g3 ?_
      rw [u1, xo_id]
      refine ⟨out, rfl, ?_⟩
      rcases u2 with ⟨v1, i, m', v2, p', c', tl, k', y1, y2, y3, y4, y5, y6, y7, y8, y9, y10⟩ | ⟨v1, v2⟩
      · refine Or.inl ⟨v1, i, m', v2, p', c', byt b N q (nst b N q - q) ++ tl, k', Ev_t ev2 (Ev_t (Ev_at _ _) y1), y2, by omega, by omega, y5, ?_, ?_, y8, ?_, fun x hx => ?_⟩
        · rw [x2, ← lex_skb hN2 nle, y6, List.append_assoc]
        · have eb := eqL_byt (b := b) (N := N) (fnm g) q g2'.2
          rw [g2'.1] at eb
          rw [eb]
          exact y7
        · rw [y9]; exact ⟨by decide, by decide⟩
        · rw [y10 x hx]
          show gg M2 x = _
          rw [g2, va_up_ne _ _ (by omega)]; exact e6 x (by omega)
      · exact Or.inr ⟨v1, Bad_t (Ev_t ev2 (Ev_at _ _)) v2⟩
    · have ar := ari_0 (b := b) (N := N) (q := q) (n := nst b N q - q) (by omega) g1
      have eR : nameG can Eg (lex b N q).1 = (true, (lex b N (nst b N q)).1) := by
        unfold nameG
        rw [if_pos (by rw [w2, ar]), et]
      rw [eR]
      refine ex_tr g3 ?_
      rw [back]
      exact ⟨_, rfl, Or.inl ⟨rfl, c, M2, rfl, okw⟩⟩
  · rw [if_neg (show ¬ (decide (xc b N (skb b N (nst b N q)) = 40)) = true from fun z => y (of_decide_eq_true z))]
    have eR : nameG can Eg (lex b N q).1 = (true, (lex b N (nst b N q)).1) := by
      unfold nameG
      rw [et, if_neg (fun z => y (mj.mp z))]
      by_cases z : ark (hk (lex b N q).1) = 9
      · rw [if_pos z]
      · rw [if_neg z]
    rw [eR, back]
    exact ⟨_, rfl, Or.inl ⟨rfl, c, M2, rfl, okw⟩⟩
theorem Res_skq {b : Nat → Int32} {N E E' p q c op : Nat} {Q Q' : Int32 → Prop} {m : xMs} {R : Rs} {out : xo Nat xMs} (hq : skb b N p = q) (h : PS b N m p c op) (hQ : ∀ k, Q k → Q' k) (hE : R.1 = true → E ≤ E') (hr : Res (∃ i m', out = .inl (i, m') ∧ Ok b N Q E (setAt m (nI q)) q c op R.2 i m') (setAt m (nI q)) R out) : Res (∃ i m', out = .inl (i, m') ∧ Ok b N Q' E' m p c op R.2 i m') m R out := by
  subst hq
  exact Res_skb h hQ hE hr
/-- ATOM -/
theorem atom_n (hcan : can = decide (op < 12)) (hE : op < 12 → EX + 3 ≤ E) (hE1 : 1 ≤ E) (hC : op < 12 → Prs b N (fun _ => True) EX (op + 1) p0.1 Eg) (hF : ∀ {f lo q c : Nat} {m : xMs}, f < 39 → PS b N m q c op → skb b N q = q → xc b N q = 40 → lo ≤ c → (∀ x, lo ≤ x → x < c → notRef (gg m x)) → ∃ out, p0.2.2.2.2.2.2.2.1 (nI f) m = some out ∧ Res (FOf b N op E f lo m q c (callG can Eg (af f) (lex b N q).1).2 out) m (callG can Eg (af f) (lex b N q).1) out) : Prs b N notSign E op (FM_atom p0) (atomG can Eg) := by
  intro m p c h
  have hN2 := PS_N h
  have hpN := h.2.2.1
  have hcp := h.2.2.2.2.2.2.1
  have sg3 := skb_ge (b := b) (N := N) p
  have hqN := skb_le (b := b) (N := N) p hpN
  have h1 : PS b N (setAt m (nI (skb b N p))) (skb b N p) c op := PS_at h (by omega) hqN
  have hq : skb b N (skb b N p) = skb b N p := skb_skb
  unfold FM_atom
  rw [bl_at h, Option.bind_some, pk_at h hqN, Option.bind_some, ← lex_skb hN2 hpN]
  generalize hQ : skb b N p = q at *
  by_cases y40 : xc b N q = 40
  · rw [if_pos y40]
    obtain ⟨out, u1, u2⟩ := paren_n hcan hE hC h1 hq y40
    exact ⟨out, u1, Res_skq hQ h (fun _ z => z) (fun _ => Nat.le_refl _) u2⟩
  · rw [if_neg y40]
    have n40 : ¬ hk (lex b N q).1 = 40 := fun z => y40 (by
      have := (mk_iff (b := b) hN2 hqN (mk_of (c := 40) (by decide))).mp z
      rw [hq] at this; exact this)
    have mj := mk_iff (b := b) hN2 hqN (mk_of (c := 123) (by decide))
    rw [hq] at mj
    by_cases y123 : xc b N q = 123
    · rw [if_pos y123]
      have ea : atomG can Eg (lex b N q).1 = if op < 12 then cl125 (rowsG (lex b N q).1.tail) else (false, (lex b N q).1) := by
        unfold atomG
        rw [if_neg n40, if_pos (mj.mpr y123), hcan]
        by_cases o : op < 12
        · rw [decide_eq_true o, if_pos rfl, if_pos o]; rfl
        · rw [decide_eq_false o, if_neg (by exact Bool.false_ne_true), if_neg o]
      obtain ⟨out, u1, u2⟩ := rows_n h1 hq y123 ea
      rw [u1, xo_id]
      refine ⟨out, rfl, ?_⟩
      refine Res_skq hQ h (fun _ z => z) (fun z => ?_) u2
      by_cases o : op < 12
      · have := hE o; omega
      · rw [ea, if_neg o] at z; exact absurd z (by exact Bool.false_ne_true)
    · rw [if_neg y123]
      have n123 : ¬ hk (lex b N q).1 = 123 := fun z => y123 (mj.mp z)
      rcases const_n h1 hq with ⟨m', k1, k2, k3⟩ | ⟨m', k1, k2, k3⟩ | ⟨k1, k2, k3, k4⟩
      · rw [k2]
        have ea : atomG can Eg (lex b N q).1 = (true, (lex b N q).1.tail) := by
          rw [atom_no n40 n123 (by rcases k1 with z | z | z | z <;> rw [z] <;> decide) (by rcases k1 with z | z | z | z <;> rw [z] <;> decide)]
          unfold constG
          exact if_pos k1
        rw [ea]
        refine ⟨.inl (c, m'), rfl, ?_⟩
        exact Res_skq (Q := leafK) (E := 1) hQ h (fun k z => by rcases z with z | z | z | z <;> rw [z] <;> exact ⟨by decide, by decide⟩) (fun _ => hE1) (Or.inl ⟨rfl, c, m', rfl, k3⟩)
      · rw [k2]
        have ea : atomG can Eg (lex b N q).1 = (false, (lex b N q).1) := by
          rw [atom_no n40 n123 (by rw [k1]; decide) (by rw [k1]; decide)]
          unfold constG
          rw [if_neg (by rw [k1]; decide)]
        rw [ea]
        refine ⟨.inr (uoe, m'), rfl, Or.inr ⟨fun z => absurd z Bool.false_ne_true, m', rfl, ?_⟩⟩
        obtain ⟨mm, c1, z1, z2, z3⟩ := k3
        exact ⟨mm, c1, Ev_t (Ev_at _ _) z1, z2, by rw [hp_lex hN2 hqN, hq]; exact z3⟩
      · rw [k2, xo_inl]
        show ∃ out, ((FM_cell_Z (setAt m (nI q))).bind fun r834 => if r834.1 = true then (xo_b (FM_cells r834.2) fun r881 => some (.inl (r881.1, r881.2))) else _) = some out ∧ _
        by_cases hc : isCell b N q
        · rw [FM_cell_y h1.1 h1.2.1 hqN hc, Option.bind_some, if_pos rfl]
          obtain ⟨c1, out, u1, u2⟩ := cells_n h1 hq hc
          have ea : atomG can Eg (lex b N q).1 = (true, (lex b N q).1.tail) := by
            unfold atomG
            rw [if_neg n40, if_neg n123, if_pos (by rw [c1]; decide), if_pos c1]
          show ∃ out, (xo_b (FM_cells (setC (setAt m (nI q)) (nI (ce1 b N q)) (decide (xc b N (cl1 b N q + 1) = 36)) (decide (xc b N q = 36)) (nI (cv1 b N q - 1)) (xc b N (cl1 b N q) - 65))) fun r881 => some (.inl (r881.1, r881.2))) = some out ∧ _
          rw [u1, xo_id, ea]
          refine ⟨out, rfl, ?_⟩
          exact Res_skq (R := (true, (lex b N q).1.tail)) hQ h (fun _ z => z) (fun _ => hE1) u2
        · obtain ⟨a1, a2, a3, a4, a5, ec⟩ := FM_cell_n h1.1 h1.2.1 hqN hc
          rw [ec, Option.bind_some, if_neg (by exact Bool.false_ne_true)]
          have h2 : PS b N (setC (setAt m (nI q)) a1 a2 a3 a4 a5) q c op := PS_C h1
          rw [show ((false, setC (setAt m (nI q)) a1 a2 a3 a4 a5) : Bool × xMs).2 = setC (setAt m (nI q)) a1 a2 a3 a4 a5 from rfl, FM_wl h2.1 h2.2.1 hqN, Option.bind_some]
          have nle := nst_le (b := b) (N := N) q hqN
          by_cases hw : isWd b N q
          · obtain ⟨t1, t2, t3, t4⟩ := wd_th hw
            have n0 : ¬ nI (wlen b N q) = 0 := fun z => by have := mI_inj (b := 0) (by omega) (by decide) z; omega
            have l12 : nI (wlen b N q) ≤ 12 := (mI_le (b := 12) (by omega) (by decide)).mpr (by have := hw.2.2.1; omega)
            rw [if_neg n0, if_pos l12, t4]
            have ea : atomG can Eg (lex b N q).1 = nameG can Eg (lex b N q).1 := by
              unfold atomG
              rw [if_neg n40, if_neg n123, if_neg (wd_k hN2 hqN hq hw).1]
            rw [ea]
            obtain ⟨out, u1, u2⟩ := word_n hE1 hF h2 hq hw
            refine ⟨out, u1, ?_⟩
            have u3 := Res_ev (Ev_C (setAt m (nI q)) a1 a2 a3 a4 a5) (fun x _ => rfl) u2
            exact Res_skq hQ h (fun _ z => z) (fun _ => Nat.le_refl _) u3
          · have n262 : ¬ hk (lex b N q).1 = 262 := fun z => hc (k262 hN2 hqN hq z)
            have ea : atomG can Eg (lex b N q).1 = (false, (lex b N q).1) := by
              rw [atom_no n40 n123 (nwd_k hN2 hqN hq hw) n262]
              unfold constG
              exact if_neg k1
            rw [ea]
            have fin : ∃ out, (xo_b (FM_bad (nI q) (setC (setAt m (nI q)) a1 a2 a3 a4 a5)) (fun _ => (none : Option (xo Nat xMs)))) = some out ∧ Res (∃ i m', out = .inl (i, m') ∧ Ok b N notSign E m p c op (lex b N q).1 i m') m (false, (lex b N q).1) out := by
              rw [FM_bad_n]
              exact ⟨_, rfl, Or.inr ⟨fun z => absurd z Bool.false_ne_true, _, rfl, _, c, Ev_t (Ev_at _ _) (Ev_C _ _ _ _ _ _), h2.2.2.2.2.2.1, by rw [hp_lex hN2 hqN, hq]⟩⟩
            obtain ⟨out, f1, f2⟩ := fin
            rw [FM_bad_n] at f1
            by_cases l : sM_letter (xc b N q) = 0
            · have w0 : wlen b N q = 0 := by unfold wlen; rw [if_pos l]
              rw [w0, if_pos (show nI 0 = 0 from rfl)]
              refine ⟨out, ?_, f2⟩
              show xo_b (FM_bad (nI q) (setC (setAt m (nI q)) a1 a2 a3 a4 a5)) _ = _
              rw [FM_bad_n]
              exact f1
            · have w1 : wlen b N q = nst b N q - q := by unfold wlen; rw [if_neg l]
              have l5 := (lt_not l).2.2.2.2
              have gt : q < nst b N q := by
                rw [nst_y l5]
                have := nst_ge (b := b) (N := N) (q + 1)
                omega
              have g12 : 12 < nst b N q - q := by
                refine Nat.lt_of_not_le fun z => ?_
                by_cases w : hof b N q (nst b N q - q) (xk_by 16) [] = true
                · exact k1 (Or.inr (Or.inr (Or.inr (k261 hN2 hqN hq l hc z w))))
                · exact hw ⟨l, hc, z, w⟩
              have n0 : ¬ nI (wlen b N q) = 0 := fun z => by have := mI_inj (b := 0) (by omega) (by decide) z; omega
              have l12 : ¬ nI (wlen b N q) ≤ 12 := fun z => by have := (mI_le (b := 12) (by omega) (by decide)).mp z; omega
              rw [if_neg n0, if_neg l12]
              refine ⟨out, ?_, f2⟩
              show xo_b (FM_bad (nI q) (setC (setAt m (nI q)) a1 a2 a3 a4 a5)) _ = _
              rw [FM_bad_n]
              exact f1
end AT
