abbrev mcn (m : xMs) : Nat := m.2.2.1.2.2.2.2.2.2.1
abbrev msn (m : xMs) : Nat := m.2.2.1.2.2.2.2.2.2.2
abbrev alc (m : xMs) : Nat := m.2.2.1.2.2.2.2.1
abbrev arn (m : xMs) : Nat := m.2.2.1.2.2.1
abbrev kpt (m : xMs) : Nat → Int32 := m.2.2.2.2.2.2.1
def Rsl (m : xMs) : Prop := ∃ r, r ≤ 1000 ∧ m.1.2.2.1 = nI r
/-- what is kept is a FORMULA, as it is SHOWN -/
def Kpt (m : xMs) : Prop := ∃ K, K ≤ 1000 ∧ m.1.2.2.2.2.1 = nI K ∧ (K = 0 ∨ ((frmG (lex (kpt m) K 0).1).1 = true ∧ (txL (lex (kpt m) K 0).2).length = K))
def Oth (n : Nat) (m : xMs) : Prop := (∃ c, NS m.2.2.1 c) ∧ Fc m.2.2.2.2.2.2.2.2 ∧ SpI m 0 ∧ (∀ a, m.2.1.1 = some a → a = 2001 ∨ a = 2003) ∧ mcn m + 2 ≤ 11 + alc m + arn m + mkd m + n ∧ msn m ≤ 13801 + 16 * alc m + 256 * 2 ^ arn m + 256 * 2 ^ mkd m + 6 * n
def RfI (n : Nat) (m : xMs) : Prop := Rsl m ∧ Kpt m ∧ Oth n m
theorem Oth_le {n n' : Nat} {m : xMs} (h : Oth n m) (hn : n ≤ n') : Oth n' m := by
  obtain ⟨h1, h2, h3, h4, h5, h6⟩ := h
  exact ⟨h1, h2, h3, h4, by omega, by omega⟩
/-- only these fields matter -/
theorem Oth_eq {n : Nat} {m m' : xMs} (h : Oth n m) (e1 : m'.2.2.1 = m.2.2.1) (e2 : m'.2.2.2.1.2.2 = m.2.2.2.1.2.2) (e3 : m'.2.2.2.2.2.2.2.2 = m.2.2.2.2.2.2.2.2) (e4 : m'.2.1.1 = m.2.1.1) : Oth n m' := by
  unfold Oth SpI stk at h ⊢
  show (∃ c, NS m'.2.2.1 c) ∧ Fc m'.2.2.2.2.2.2.2.2 ∧ (m'.2.2.2.1.2.2.1 = nI 0 ∧ m'.2.2.2.1.2.2.2.2.1 = m'.2.2.2.1.2.2.2.1 + 1 ∧ m'.2.2.2.1.2.2.2.1 ≤ 3 ∧ 0 ≤ 256 * 2 ^ m'.2.2.2.1.2.2.2.1 ∧ ∀ j, j < 0 → ∃ z, m'.2.2.2.1.2.2.2.2.2 m'.2.2.2.1.2.2.2.1 j = some z ∧ z < m'.2.2.1.2.2.2.2.1) ∧ (∀ a, m'.2.1.1 = some a → a = 2001 ∨ a = 2003) ∧ m'.2.2.1.2.2.2.2.2.2.1 + 2 ≤ 11 + m'.2.2.1.2.2.2.2.1 + m'.2.2.1.2.2.1 + m'.2.2.2.1.2.2.2.2.1 + n ∧ m'.2.2.1.2.2.2.2.2.2.2 ≤ 13801 + 16 * m'.2.2.1.2.2.2.2.1 + 256 * 2 ^ m'.2.2.1.2.2.1 + 256 * 2 ^ m'.2.2.2.1.2.2.2.2.1 + 6 * n
  rw [e1, e2, e3, e4]
  exact h
theorem SpI_0 {m m' : xMs} (h : SpI m 0) (e : m'.2.2.2.1.2.2 = m.2.2.2.1.2.2) : SpI m' 0 := by
  obtain ⟨h1, h2, h3, h4, -⟩ := h
  refine ⟨?_, ?_, ?_, Nat.zero_le _, fun j hj => by omega⟩
  · rw [e]; exact h1
  · show m'.2.2.2.1.2.2.2.2.1 = m'.2.2.2.1.2.2.2.1 + 1
    rw [e]; exact h2
  · show m'.2.2.2.1.2.2.2.1 ≤ 3
    rw [e]; exact h3
theorem Oth_Ev {n c : Nat} {m m' : xMs} (h : Oth n m) (e : Ev m m') (hn : NS m'.2.2.1 c) : Oth n m' := by
  obtain ⟨h1, h2, h3, h4, h5, h6⟩ := h
  obtain ⟨e1, e2, e3, e4, e5, e6, e7⟩ := e
  have ek : mkd m' = mkd m := by show m'.2.2.2.1.2.2.2.2.1 = _; rw [e4]
  have e6' : mcn m' + alc m + arn m = mcn m + alc m' + arn m' := e6
  have e7' : msn m' + 16 * alc m + 256 * 2 ^ arn m = msn m + 16 * alc m' + 256 * 2 ^ arn m' := e7
  refine ⟨⟨c, hn⟩, by rw [e4]; exact h2, SpI_0 h3 (by rw [e4]), by rw [e2]; exact h4, ?_, ?_⟩
  · rw [ek]; omega
  · rw [ek]; omega
theorem Oth_Gro {n : Nat} {m m' : xMs} (h : Oth n m) (g : Gro m m') (hp : SpI m' 0) : Oth n m' := by
  obtain ⟨⟨c, h1⟩, h2, h3, h4, h5, h6⟩ := h
  obtain ⟨g1, g2, ⟨g3, g4, g5, g6, g7, g8⟩, g9, g10, g11⟩ := g
  have a1 : alc m' = alc m := g7
  have a2 : arn m' = arn m := g5
  have g10' : mcn m' + mkd m = mcn m + mkd m' := g10
  have g11' : msn m' + 256 * 2 ^ mkd m = msn m + 256 * 2 ^ mkd m' := g11
  refine ⟨⟨c, ?_⟩, by rw [g9]; exact h2, hp, by rw [g2]; exact h4, ?_, ?_⟩
  · unfold NS at h1 ⊢
    rw [g3, g4, g5, g6, g7]
    exact h1
  · rw [a1, a2]; omega
  · rw [a1, a2]; omega
theorem Oth_bd {n : Nat} {m : xMs} {x : Int32} (h : Oth n m) : Oth (n + 1) (bd m x) := by
  obtain ⟨⟨c, h1⟩, h2, h3, h4, h5, h6⟩ := h
  refine ⟨⟨c, h1⟩, h2, SpI_0 h3 rfl, h4, ?_, ?_⟩
  · show mcn m + 1 + 2 ≤ 11 + alc m + arn m + mkd m + (n + 1)
    omega
  · show msn m + 6 ≤ 13801 + 16 * alc m + 256 * 2 ^ arn m + 256 * 2 ^ mkd m + 6 * (n + 1)
    omega
/-- as the parser begins -/
theorem PS_rst {n x0 N : Nat} {m : xMs} {b : Nat → Int32} (h : Oth n m) (hb : (x0 = 2001 ∧ m.2.2.2.2.1 = b ∧ N ≤ 2000) ∨ (x0 = 2003 ∧ kpt m = b ∧ N ≤ 1000)) : PS b N (rst x0 N (m.1, m.2.1, (0, m.2.2.1.2), m.2.2.2)) 0 0 0 ∧ Oth n (rst x0 N (m.1, m.2.1, (0, m.2.2.1.2), m.2.2.2)) := by
  obtain ⟨⟨c, h1⟩, h2, h3, h4, h5, h6⟩ := h
  have ns : NS (0, m.2.2.1.2) 0 := ⟨rfl, h1.2.1, h1.2.2.1, h1.2.2.2.1, Nat.zero_le _, h1.2.2.2.2.2⟩
  refine ⟨⟨⟨rfl, ?_⟩, rfl, Nat.zero_le _, rfl, Nat.zero_le _, ns, Nat.le_refl _, h2⟩, ⟨0, ns⟩, h2, SpI_0 h3 rfl, fun a ha => ?_, h5, h6⟩
  · rcases hb with ⟨rfl, e, hN⟩ | ⟨rfl, e, hN⟩
    · exact Or.inl ⟨rfl, e, hN⟩
    · exact Or.inr ⟨rfl, e, hN⟩
  · have : x0 = a := Option.some.inj ha
    rw [← this]
    rcases hb with ⟨rfl, -⟩ | ⟨rfl, -⟩
    · exact Or.inl rfl
    · exact Or.inr rfl
/-- KEEP -/
theorem keep_n {b : Nat → Int32} {N n k hi i e : Nat} {code : Int32} {ps : List Pc} {m : xMs} (hR : RT b N k (gg m) 0 hi i ps e) (he : e ≤ 200) (hS : Sr m b N) (hal : hi ≤ alc m) (hhi : hi ≤ 2048) (hO : Oth n m) (hl : (txL ps).length + 61 < 4096) (hF : ∀ b' : Nat → Int32, (61 :: txL ps).length ≤ 1000 → wrt b' (61 :: txL ps) → (frmG (lex b' (61 :: txL ps).length 0).1).1 = true ∧ (txL (lex b' (61 :: txL ps).length 0).2).length = (61 :: txL ps).length) : ∃ r m', FM_keep i code m = some (r, m') ∧ Oth n m' ∧ m'.1.2.1 = m.1.2.1 ∧ m'.2.2.2.2.1 = m.2.2.2.2.1 ∧ m'.1.2.2.1 = m.1.2.2.1 ∧ m'.1.2.2.2.1 = m.1.2.2.2.1 ∧ (((61 :: txL ps).length ≤ 1000 ∧ r = nI (61 :: txL ps).length ∧ m'.1.1 = m.1.1 ∧ Kpt m') ∨ (¬ (61 :: txL ps).length ≤ 1000 ∧ r = 0 ∧ m'.1.1 = code ∧ m'.1.2.2.2.2.1 = m.1.2.2.2.2.1 ∧ kpt m' = kpt m)) := by
  obtain ⟨m1, e1, g, s, sp, lv⟩ := showF_n hR he hS hal hO.2.2.1 (by omega) hl
  have hO1 := Oth_Gro hO g sp
  have hlen : (61 :: txL ps).length < 4096 := by rw [List.length_cons]; omega
  unfold FM_keep
  rw [e1, Option.bind_some, s.1]
  by_cases z : (61 :: txL ps).length ≤ 1000
  · rw [if_pos (show nI (61 :: txL ps).length ≤ 1000 from (mI_le (b := 1000) (by omega) (by decide)).mpr z)]
    obtain ⟨f, f1, f2, f3⟩ := keep23 z (61 :: txL ps).length 0 xFuel (m := m1) (by omega) (by show _ < 5000; omega) s
    refine ⟨_, _, f1, Oth_eq hO1 rfl rfl rfl rfl, ?_, ?_, ?_, ?_, Or.inl ⟨z, rfl, ?_, ?_⟩⟩
    · show m1.1.2.1 = _; rw [g.1]
    · show m1.2.2.2.2.1 = _; rw [g.2.2.2.1]
    · show m1.1.2.2.1 = _; rw [g.1]
    · show m1.1.2.2.2.1 = _; rw [g.1]
    · show m1.1.1 = _; rw [g.1]
    · exact ⟨_, z, rfl, Or.inr (hF f z (fun j x hj => f3 j x (Nat.zero_le _) hj))⟩
  · rw [if_neg (show ¬ nI (61 :: txL ps).length ≤ 1000 from fun w => z ((mI_le (b := 1000) (by omega) (by decide)).mp w))]
    refine ⟨_, _, rfl, Oth_eq hO1 rfl rfl rfl rfl, ?_, ?_, ?_, ?_, Or.inr ⟨z, rfl, rfl, ?_, ?_⟩⟩
    · show m1.1.2.1 = _; rw [g.1]
    · show m1.2.2.2.2.1 = _; rw [g.2.2.2.1]
    · show m1.1.2.2.1 = _; rw [g.1]
    · show m1.1.2.2.2.1 = _; rw [g.1]
    · show m1.1.2.2.2.2.1 = _; rw [g.1]
    · show m1.2.2.2.2.2.2.1 = _; rw [g.2.2.2.1]
/-- PARSED -/
theorem parsed_n {n K : Nat} {m : xMs} (hO : Oth n m) (hK : m.1.2.2.2.2.1 = nI K) (hK1 : K ≤ 1000) (hf : (frmG (lex (kpt m) K 0).1).1 = true) : ∃ i m' p' c' ps k, FM_parsed m = some (.inl (i, m')) ∧ m'.1 = m.1 ∧ m'.2.2.2 = m.2.2.2 ∧ PS (kpt m) K m' p' c' 0 ∧ c' < p' ∧ (lex (kpt m) K 0).2 = .inl 61 :: ps ∧ RT (kpt m) K k (gg m') 0 c' i ps 167 ∧ Oth n m' := by
  obtain ⟨h1, h2⟩ := PS_rst (x0 := 2003) (N := K) hO (Or.inr ⟨rfl, rfl, hK1⟩)
  obtain ⟨out, u1, u2⟩ := formula_n h1
  have u1 : FM_formula 2003 0 (nI K) (m.1, m.2.1, (0, m.2.2.1.2), m.2.2.2) = some out := u1
  rcases u2 with ⟨-, i, m', rfl, p', c', ps, k, w1, w2, w3, w4, w5, w6⟩ | ⟨w, -⟩
  · refine ⟨i, m', p', c', ps, k, ?_, w1.1, w1.2.2.2.1, w2, w3, w4, w5, Oth_Ev h2 w1 w2.2.2.2.2.2.1⟩
    unfold FM_parsed
    rw [hK, u1]
    rfl
  · rw [hf] at w; exact absurd w (by decide)
/-- a change of what is kept -/
theorem chg_n {n K : Nat} {m : xMs} {F : Nat → xMs → Option xMs} (hR : RfI n m) (hK : m.1.2.2.2.2.1 = nI K) (hK0 : ¬ nI K = 0) (hF : ∀ b N, Wk b N 1100 F) : ∃ r m', (xo_b (FM_parsed m) fun r1 => (F r1.1 r1.2).bind fun r2 => (FM_keep r1.1 3 r2).bind fun r3 => some (.inl (r3.1, r3.2))) = some (.inl (r, m') : xo Int32 xMs) ∧ RfI n m' ∧ m'.1.2.1 = m.1.2.1 ∧ m'.2.2.2.2.1 = m.2.2.2.2.1 := by
  obtain ⟨⟨rr, r1, r2⟩, ⟨K', k1, k2, k3⟩, hO⟩ := hR
  have hKK : nI K = nI K' := hK.symm.trans k2
  have k3 : (frmG (lex (kpt m) K' 0).1).1 = true ∧ (txL (lex (kpt m) K' 0).2).length = K' := k3.resolve_left (fun z => hK0 (by rw [hKK, z]; rfl))
  obtain ⟨i, m1, p', c', ps, k, a1, a2, a3, a4, a5, a6, a7, a8⟩ := parsed_n hO k2 k1 k3.1
  have pN := a4.2.2.1
  have ns := a4.2.2.2.2.2.1
  have al : c' ≤ alc m1 := ns.2.2.2.2.1
  obtain ⟨g', ps', w1, w2, w3, w4, w5, w6⟩ := hF (kpt m) K' _ _ _ _ _ _ m1 (RT_dep a7) (by omega) al
  obtain ⟨x1, x2, x3⟩ := frm_w (b := kpt m) (N := K') (by omega) k3.1
  have hm : MvP (lex (kpt m) K' 0).2 (.inl 61 :: ps') := by rw [a6]; exact MvP_c w3
  have hlen := MvP_len hm
  have el : (txL (.inl 61 :: ps')) = 61 :: txL ps' := rfl
  rw [el, List.length_cons] at hlen
  have hS : Sr (setG m1 g') (kpt m) K' := a4.1
  have hO2 : Oth n (setG m1 g') := by
    obtain ⟨h1, h2, h3, h4, h5, h6⟩ := a8
    exact ⟨h1, h2, SpI_0 h3 rfl, h4, h5, h6⟩
  obtain ⟨r, m2, b1, b2, b3, b4, b5, b6, b7⟩ := keep_n (code := 3) (m := setG m1 g') (i := i) w2 (by decide) hS al (by omega) hO2 (by omega) (fun b' hz hw => by
    have e1 := frm_again (by omega) k3.1 hm (by rw [el]; omega) hw
    rw [el] at e1
    obtain ⟨n', rs, kk, d1, d2⟩ := frm_Ch k3.1
    obtain ⟨y1, -⟩ := by_lex (by omega) n' d1 d2 (Nat.zero_le _)
    have e2 : eqL b' (61 :: txL ps').length 0 (txL (.inl 61 :: ps')) = true := wrt_eq (txL (.inl 61 :: ps')) 0 (by rw [el]; omega) (MvP_by hm y1) (fun j x hj => by rw [Nat.zero_add]; exact hw j x hj)
    have e3 := (relex (N := K') (by omega) (by omega) n' d1 d2 (Nat.zero_le _) hm e2 (by rw [el]; omega)).2
    exact ⟨e1, by rw [e3]; rfl⟩)
  refine ⟨r, m2, ?_, ⟨⟨rr, r1, ?_⟩, ?_, b2⟩, ?_, ?_⟩
  · rw [a1, xo_inl]
    have w1' : F (i, m1).1 (i, m1).2 = some (setG m1 g') := w1
    have b1' : FM_keep (i, m1).1 3 (setG m1 g') = some (r, m2) := b1
    rw [w1', Option.bind_some, b1']
    rfl
  · rw [b5]; show m1.1.2.2.1 = _; rw [a2]; exact r2
  · rcases b7 with ⟨-, -, -, q⟩ | ⟨-, -, -, q1, q2⟩
    · exact q
    · refine ⟨K', k1, ?_, Or.inr ?_⟩
      · rw [q1]; show m1.1.2.2.2.2.1 = _; rw [a2]; exact k2
      · rw [q2]
        show (frmG (lex (m1.2.2.2.2.2.2.1) K' 0).1).1 = true ∧ _
        rw [show kpt (setG m1 g') = kpt m by show m1.2.2.2.2.2.2.1 = _; rw [a3], show m1.2.2.2.2.2.2.1 = kpt m by rw [a3]]
        exact k3
  · rw [b3]; show m1.1.2.1 = _; rw [a2]
  · rw [b4]; show m1.2.2.2.2.1 = _; rw [a3]
/-- what is kept is gathered -/
theorem gat_n {n K : Nat} {m : xMs} (hR : RfI n m) (hK : m.1.2.2.2.2.1 = nI K) (hK0 : ¬ nI K = 0) (hr : m.1.2.2.2.2.2 = nI 0) : ∃ i m1 r f, FM_parsed m = some (.inl (i, m1)) ∧ FM_G i m1 = some (setR m1 (nI r) f) ∧ r ≤ 1000 ∧ m1.1 = m.1 ∧ m1.2.2.2 = m.2.2.2 ∧ RfI n (setR m1 (nI r) f) := by
  obtain ⟨⟨rr, r1, r2⟩, ⟨K', k1, k2, k3⟩, hO⟩ := hR
  have hKK : nI K = nI K' := hK.symm.trans k2
  have k3 : (frmG (lex (kpt m) K' 0).1).1 = true ∧ (txL (lex (kpt m) K' 0).2).length = K' := k3.resolve_left (fun z => hK0 (by rw [hKK, z]; rfl))
  obtain ⟨i, m1, p', c', ps, k, a1, a2, a3, a4, a5, a6, a7, a8⟩ := parsed_n hO k2 k1 k3.1
  have pN := a4.2.2.1
  have ns := a4.2.2.2.2.2.1
  have al : c' ≤ alc m1 := ns.2.2.2.2.1
  obtain ⟨r, f, e1, e2⟩ := G_n (b := kpt m) (N := K') 1100 _ _ _ _ _ _ m1 0 (RT_dep a7) (by omega) al (by rw [a2]; exact hr) (by omega)
  refine ⟨i, m1, r, f, a1, e1, by omega, a2, a3, ⟨rr, r1, ?_⟩, ⟨K', k1, ?_, Or.inr ?_⟩, Oth_eq a8 rfl rfl rfl rfl⟩
  · show m1.1.2.2.1 = _; rw [a2]; exact r2
  · show m1.1.2.2.2.2.1 = _; rw [a2]; exact k2
  · show (frmG (lex (m1.2.2.2.2.2.2.1) K' 0).1).1 = true ∧ (txL (lex (m1.2.2.2.2.2.2.1) K' 0).2).length = K'
    rw [show m1.2.2.2.2.2.2.1 = kpt m by rw [a3]]
    exact k3
/-- other numbers, the same FORMULA -/
theorem RfI_eq {n : Nat} {m m' : xMs} (h : RfI n m) (e0 : m'.1.2.2.1 = m.1.2.2.1) (e5 : m'.1.2.2.2.2.1 = m.1.2.2.2.2.1) (e6 : kpt m' = kpt m) (e1 : m'.2.2.1 = m.2.2.1) (e2 : m'.2.2.2.1.2.2 = m.2.2.2.1.2.2) (e3 : m'.2.2.2.2.2.2.2.2 = m.2.2.2.2.2.2.2.2) (e4 : m'.2.1.1 = m.2.1.1) : RfI n m' := by
  obtain ⟨⟨r, r1, r2⟩, ⟨K, k1, k2, k3⟩, hO⟩ := h
  exact ⟨⟨r, r1, by rw [e0]; exact r2⟩, ⟨K, k1, by rw [e5]; exact k2, by rw [e6]; exact k3⟩, Oth_eq hO e1 e2 e3 e4⟩
theorem RfI_le {n n' : Nat} {m : xMs} (h : RfI n m) (hn : n ≤ n') : RfI n' m := ⟨h.1, h.2.1, Oth_le h.2.2 hn⟩
